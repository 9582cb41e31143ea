/-! CONTRACTS, 0 -/
theorem fa_nil {P : Nat → Prop} : ∀ b ∈ ([] : List Nat), P b := fun _ h => absurd h List.not_mem_nil
theorem fa_cons {P : Nat → Prop} {a : Nat} {l : List Nat} (h : P a) (g : ∀ b ∈ l, P b) : ∀ b ∈ a :: l, P b := fun b hb => by
  rcases List.mem_cons.mp hb with e | e
  · rw [e]; exact h
  · exact g b e
theorem tabOK_mk {own nL : Nat} {cc : ByteArray} {t : List (List (Nat × XE))} (h : okT own cc t = true) (g : t.all (fun l => l.all (fun q => nOK own nL q.2)) = true) : tabOK own nL cc t = true := by
  unfold tabOK; rw [h, g]; rfl
theorem nar_chr (y : Int32) : narrow .char (.int (y.toUInt32 % 65536).toInt32) = .int (y.toUInt32 % 65536).toInt32 := by
  show Value.int ((y.toUInt32 % 65536).toInt32.toUInt32 % 65536).toInt32 = _
  congr 2
  apply UInt32.toNat.inj
  simp
theorem J1_charAt_3b067_rt {a0 : Nat} {a1 x : Int32} {m m' : MM} (h : fJ1_charAt_3b067_b a0 a1 m = some (x, m')) : narrow .char (.int x) = .int x := by
  unfold fJ1_charAt_3b067_b at h
  cases hc : fJ0_checkIndex_df160 a1 (nI ([5, 6, 6, 7, 4, 3, 6, 6, 5, 7, 4, 3].getD a0 0)) m with
  | none => rw [hc] at h; cases h
  | some o =>
    rw [hc] at h
    have h : (bif inB a1 ([5, 6, 6, 7, 4, 3, 6, 6, 5, 7, 4, 3].getD a0 0) then some ((((o.2.1 30 a0 a1.toNatClampNeg) &&& 255).toUInt32 % 65536).toInt32, o.2) else none) = some (x, m') := h
    cases hb : inB a1 ([5, 6, 6, 7, 4, 3, 6, 6, 5, 7, 4, 3].getD a0 0) with
    | false => rw [hb] at h; cases h
    | true =>
      rw [hb] at h
      have := (Prod.mk.inj (Option.some.inj h)).1
      rw [← this]; exact nar_chr _
theorem J0_charAt_5068e_rt {a0 : Nat} {a1 x : Int32} {m m' : MM} (h : fJ0_charAt_5068e_b a0 a1 m = some (x, m')) : narrow .char (.int x) = .int x := by
  unfold fJ0_charAt_5068e_b at h
  cases hc : fJ0_isLatin1_aae02 a0 m with
  | none => rw [hc] at h; cases h
  | some o =>
    rw [hc] at h
    have h : (if (bI o.1) = 0 then none else (fJ1_charAt_3b067 a0 a1 o.2).bind fun o2 => some (o2.1, o2.2)) = some (x, m') := h
    by_cases hb : bI o.1 = 0
    · rw [if_pos hb] at h; cases h
    · rw [if_neg hb] at h
      cases hd : fJ1_charAt_3b067 a0 a1 o.2 with
      | none => rw [hd] at h; cases h
      | some o2 =>
        rw [hd] at h
        have := (Prod.mk.inj (Option.some.inj h)).1
        rw [← this]
        rw [fJ1_charAt_3b067_eq] at hd
        exact J1_charAt_3b067_rt (m' := o2.2) hd
theorem J0_coder_7d493_rt {a0 : Nat} {x : Int32} {m m' : MM} (h : fJ0_coder_7d493_b a0 m = some (x, m')) : narrow .byte (.int x) = .int x := by
  have h : (bif (m.1 31 a0 1) == 0 || (m.1 31 a0 1) == 1 then some ((m.1 31 a0 1), m) else none) = some (x, m') := h
  cases hb : ((m.1 31 a0 1) == 0 || (m.1 31 a0 1) == 1) with
  | false => rw [hb] at h; cases h
  | true =>
    rw [hb] at h
    have e := (Prod.mk.inj (Option.some.inj h)).1
    rw [e] at hb
    simp only [Bool.or_eq_true, beq_iff_eq] at hb
    rcases hb with hb | hb <;> (rw [hb]; rfl)
theorem iX0_start {as : List AV} {c : CallR} (h : wX0_start as = some c) : (∃ (a0 : Nat) (a1 : Int32) (a2 : Int32) (a3 : Int32) (a4 : Int32), as = [aR 0 a0, aI a1, aI a2, aI a3, aI a4] ∧ c = cRV (fX0_start a0 a1 a2 a3 a4)) := by
  unfold wX0_start at h
  split at h
  · exact ⟨_, _, _, _, _, rfl, (Option.some.inj h).symm⟩
  · cases h
theorem ct_X0_start {l : Launch} {D : va_G} {cA : Nat → ClassId} {ov : Value} {aR0 : Nat → Nat → Nat} {B nS : Nat} {xs : Nat → Int32} {q : Nat} : Ctr l D cA ov aR0 B nS xs q 1 1 := by
  intro as c h
  have h : wX0_start as = some c := h
  rcases iX0_start h with ⟨a0, a1, a2, a3, a4, rfl, rfl⟩
  · refine ⟨⟨rfl, fun _ => ⟨_, _, rfl⟩⟩, fun m v m' ha => ?_⟩
    obtain ⟨x, hx, rfl⟩ := ha
    rw [fX0_start_eq] at hx
    obtain ⟨n, hn⟩ := pfX0_start q (csF_m q) a0 a1 a2 a3 a4 m (x, m') _ hx ⟨0, rfl⟩
    exact ctr_mk (t := tX0_start) (cl := []) (by decide) (tabOK_mk okX0_start (by decide +kernel)) (by decide +kernel) (by decide) fa_nil (Nat.le_of_ble_eq_true rfl) trivial hn
theorem iX0_become {as : List AV} {c : CallR} (h : wX0_become as = some c) : (∃ (a0 : Nat) (a1 : Nat), as = [aR 0 a0, aR 0 a1] ∧ c = cRV (fX0_become a0 a1)) := by
  unfold wX0_become at h
  split at h
  · exact ⟨_, _, rfl, (Option.some.inj h).symm⟩
  · cases h
theorem ct_X0_become {l : Launch} {D : va_G} {cA : Nat → ClassId} {ov : Value} {aR0 : Nat → Nat → Nat} {B nS : Nat} {xs : Nat → Int32} {q : Nat} : Ctr l D cA ov aR0 B nS xs q 1 2 := by
  intro as c h
  have h : wX0_become as = some c := h
  rcases iX0_become h with ⟨a0, a1, rfl, rfl⟩
  · refine ⟨⟨rfl, fun _ => ⟨_, _, rfl⟩⟩, fun m v m' ha => ?_⟩
    obtain ⟨x, hx, rfl⟩ := ha
    rw [fX0_become_eq] at hx
    obtain ⟨n, hn⟩ := pfX0_become q (csF_m q) a0 a1 m (x, m') _ hx ⟨0, rfl⟩
    exact ctr_mk (t := tX0_become) (cl := []) (by decide) (tabOK_mk okX0_become (by decide +kernel)) (by decide +kernel) (by decide) fa_nil (Nat.le_of_ble_eq_true rfl) trivial hn
theorem iX6_toughnessOf {as : List AV} {c : CallR} (h : wX6_toughnessOf as = some c) : (∃ (a0 : Int32) (a1 : Int32), as = [aI a0, aI a1] ∧ c = cRI (fX6_toughnessOf a0 a1)) := by
  unfold wX6_toughnessOf at h
  split at h
  · exact ⟨_, _, rfl, (Option.some.inj h).symm⟩
  · cases h
theorem ct_X6_toughnessOf {l : Launch} {D : va_G} {cA : Nat → ClassId} {ov : Value} {aR0 : Nat → Nat → Nat} {B nS : Nat} {xs : Nat → Int32} {q : Nat} : Ctr l D cA ov aR0 B nS xs q 1 123 := by
  intro as c h
  have h : wX6_toughnessOf as = some c := h
  rcases iX6_toughnessOf h with ⟨a0, a1, rfl, rfl⟩
  · refine ⟨⟨rfl, fun h => absurd h (by decide)⟩, fun m v m' ha => ?_⟩
    obtain ⟨x, hx, rfl⟩ := ha
    rw [fX6_toughnessOf_eq] at hx
    obtain ⟨n, hn⟩ := pfX6_toughnessOf q (csF_m q) a0 a1 m (x, m') _ hx ⟨0, rfl⟩
    exact ctr_mk (t := tX6_toughnessOf) (cl := []) (by decide) (tabOK_mk okX6_toughnessOf (by decide +kernel)) (by decide +kernel) (by decide) fa_nil (Nat.le_of_ble_eq_true rfl) (rfl : narrow .int (.int x) = .int x) hn
theorem iX0_tellOf {as : List AV} {c : CallR} (h : wX0_tellOf as = some c) : (∃ (a0 : Nat) (a1 : Int32), as = [aR 0 a0, aI a1] ∧ c = cRI (fX0_tellOf a0 a1)) := by
  unfold wX0_tellOf at h
  split at h
  · exact ⟨_, _, rfl, (Option.some.inj h).symm⟩
  · cases h
theorem ct_X0_tellOf {l : Launch} {D : va_G} {cA : Nat → ClassId} {ov : Value} {aR0 : Nat → Nat → Nat} {B nS : Nat} {xs : Nat → Int32} {q : Nat} : Ctr l D cA ov aR0 B nS xs q 2 3 := by
  intro as c h
  have h : wX0_tellOf as = some c := h
  rcases iX0_tellOf h with ⟨a0, a1, rfl, rfl⟩
  · refine ⟨⟨rfl, fun _ => ⟨_, _, rfl⟩⟩, fun m v m' ha => ?_⟩
    obtain ⟨x, hx, rfl⟩ := ha
    rw [fX0_tellOf_eq] at hx
    obtain ⟨n, hn⟩ := pfX0_tellOf q (csF_m q) a0 a1 m (x, m') _ hx ⟨0, rfl⟩
    exact ctr_mk (t := tX0_tellOf) (cl := [123]) (by decide) (tabOK_mk okX0_tellOf (by decide +kernel)) (by decide +kernel) (by decide) (fa_cons ⟨1, by decide, ct_X6_toughnessOf⟩ fa_nil) (Nat.le_of_ble_eq_true rfl) (rfl : narrow .int (.int x) = .int x) hn
theorem iX1_isEmpty {as : List AV} {c : CallR} (h : wX1_isEmpty as = some c) : (∃ (a0 : Nat), as = [aR 1 a0] ∧ c = cRZ (fX1_isEmpty a0)) := by
  unfold wX1_isEmpty at h
  split at h
  · exact ⟨_, rfl, (Option.some.inj h).symm⟩
  · cases h
theorem ct_X1_isEmpty {l : Launch} {D : va_G} {cA : Nat → ClassId} {ov : Value} {aR0 : Nat → Nat → Nat} {B nS : Nat} {xs : Nat → Int32} {q : Nat} : Ctr l D cA ov aR0 B nS xs q 1 5 := by
  intro as c h
  have h : wX1_isEmpty as = some c := h
  rcases iX1_isEmpty h with ⟨a0, rfl, rfl⟩
  · refine ⟨⟨rfl, fun _ => ⟨_, _, rfl⟩⟩, fun m v m' ha => ?_⟩
    obtain ⟨x, hx, rfl⟩ := ha
    rw [fX1_isEmpty_eq] at hx
    obtain ⟨n, hn⟩ := pfX1_isEmpty q (csF_m q) a0 m (x, m') _ hx ⟨0, rfl⟩
    exact ctr_mk (t := tX1_isEmpty) (cl := []) (by decide) (tabOK_mk okX1_isEmpty (by decide +kernel)) (by decide +kernel) (by decide) fa_nil (Nat.le_of_ble_eq_true rfl) (by cases x <;> rfl) hn
theorem iX1_isRow {as : List AV} {c : CallR} (h : wX1_isRow as = some c) : (∃ (a0 : Nat), as = [aR 1 a0] ∧ c = cRZ (fX1_isRow a0)) := by
  unfold wX1_isRow at h
  split at h
  · exact ⟨_, rfl, (Option.some.inj h).symm⟩
  · cases h
theorem ct_X1_isRow {l : Launch} {D : va_G} {cA : Nat → ClassId} {ov : Value} {aR0 : Nat → Nat → Nat} {B nS : Nat} {xs : Nat → Int32} {q : Nat} : Ctr l D cA ov aR0 B nS xs q 1 6 := by
  intro as c h
  have h : wX1_isRow as = some c := h
  rcases iX1_isRow h with ⟨a0, rfl, rfl⟩
  · refine ⟨⟨rfl, fun _ => ⟨_, _, rfl⟩⟩, fun m v m' ha => ?_⟩
    obtain ⟨x, hx, rfl⟩ := ha
    rw [fX1_isRow_eq] at hx
    obtain ⟨n, hn⟩ := pfX1_isRow q (csF_m q) a0 m (x, m') _ hx ⟨0, rfl⟩
    exact ctr_mk (t := tX1_isRow) (cl := []) (by decide) (tabOK_mk okX1_isRow (by decide +kernel)) (by decide +kernel) (by decide) fa_nil (Nat.le_of_ble_eq_true rfl) (by cases x <;> rfl) hn
theorem iX1_isBottle {as : List AV} {c : CallR} (h : wX1_isBottle as = some c) : (∃ (a0 : Nat), as = [aR 1 a0] ∧ c = cRZ (fX1_isBottle a0)) := by
  unfold wX1_isBottle at h
  split at h
  · exact ⟨_, rfl, (Option.some.inj h).symm⟩
  · cases h
theorem ct_X1_isBottle {l : Launch} {D : va_G} {cA : Nat → ClassId} {ov : Value} {aR0 : Nat → Nat → Nat} {B nS : Nat} {xs : Nat → Int32} {q : Nat} : Ctr l D cA ov aR0 B nS xs q 1 7 := by
  intro as c h
  have h : wX1_isBottle as = some c := h
  rcases iX1_isBottle h with ⟨a0, rfl, rfl⟩
  · refine ⟨⟨rfl, fun _ => ⟨_, _, rfl⟩⟩, fun m v m' ha => ?_⟩
    obtain ⟨x, hx, rfl⟩ := ha
    rw [fX1_isBottle_eq] at hx
    obtain ⟨n, hn⟩ := pfX1_isBottle q (csF_m q) a0 m (x, m') _ hx ⟨0, rfl⟩
    exact ctr_mk (t := tX1_isBottle) (cl := []) (by decide) (tabOK_mk okX1_isBottle (by decide +kernel)) (by decide +kernel) (by decide) fa_nil (Nat.le_of_ble_eq_true rfl) (by cases x <;> rfl) hn
theorem iX1_whyNoRow {as : List AV} {c : CallR} (h : wX1_whyNoRow as = some c) : (∃ (a0 : Nat), as = [aR 1 a0] ∧ c = cRI (fX1_whyNoRow a0)) := by
  unfold wX1_whyNoRow at h
  split at h
  · exact ⟨_, rfl, (Option.some.inj h).symm⟩
  · cases h
theorem ct_X1_whyNoRow {l : Launch} {D : va_G} {cA : Nat → ClassId} {ov : Value} {aR0 : Nat → Nat → Nat} {B nS : Nat} {xs : Nat → Int32} {q : Nat} : Ctr l D cA ov aR0 B nS xs q 2 8 := by
  intro as c h
  have h : wX1_whyNoRow as = some c := h
  rcases iX1_whyNoRow h with ⟨a0, rfl, rfl⟩
  · refine ⟨⟨rfl, fun _ => ⟨_, _, rfl⟩⟩, fun m v m' ha => ?_⟩
    obtain ⟨x, hx, rfl⟩ := ha
    rw [fX1_whyNoRow_eq] at hx
    obtain ⟨n, hn⟩ := pfX1_whyNoRow q (csF_m q) a0 m (x, m') _ hx ⟨0, rfl⟩
    exact ctr_mk (t := tX1_whyNoRow) (cl := [7]) (by decide) (tabOK_mk okX1_whyNoRow (by decide +kernel)) (by decide +kernel) (by decide) (fa_cons ⟨1, by decide, ct_X1_isBottle⟩ fa_nil) (Nat.le_of_ble_eq_true rfl) (rfl : narrow .int (.int x) = .int x) hn
theorem iX1_hasPlace {as : List AV} {c : CallR} (h : wX1_hasPlace as = some c) : (∃ (a0 : Nat) (a1 : Int32), as = [aR 1 a0, aI a1] ∧ c = cRZ (fX1_hasPlace a0 a1)) := by
  unfold wX1_hasPlace at h
  split at h
  · exact ⟨_, _, rfl, (Option.some.inj h).symm⟩
  · cases h
theorem ct_X1_hasPlace {l : Launch} {D : va_G} {cA : Nat → ClassId} {ov : Value} {aR0 : Nat → Nat → Nat} {B nS : Nat} {xs : Nat → Int32} {q : Nat} : Ctr l D cA ov aR0 B nS xs q 1 9 := by
  intro as c h
  have h : wX1_hasPlace as = some c := h
  rcases iX1_hasPlace h with ⟨a0, a1, rfl, rfl⟩
  · refine ⟨⟨rfl, fun _ => ⟨_, _, rfl⟩⟩, fun m v m' ha => ?_⟩
    obtain ⟨x, hx, rfl⟩ := ha
    rw [fX1_hasPlace_eq] at hx
    obtain ⟨n, hn⟩ := pfX1_hasPlace q (csF_m q) a0 a1 m (x, m') _ hx ⟨0, rfl⟩
    exact ctr_mk (t := tX1_hasPlace) (cl := []) (by decide) (tabOK_mk okX1_hasPlace (by decide +kernel)) (by decide +kernel) (by decide) fa_nil (Nat.le_of_ble_eq_true rfl) (by cases x <;> rfl) hn
theorem iX1_hasSpan {as : List AV} {c : CallR} (h : wX1_hasSpan as = some c) : (∃ (a0 : Nat) (a1 : Int32) (a2 : Int32), as = [aR 1 a0, aI a1, aI a2] ∧ c = cRZ (fX1_hasSpan a0 a1 a2)) := by
  unfold wX1_hasSpan at h
  split at h
  · exact ⟨_, _, _, rfl, (Option.some.inj h).symm⟩
  · cases h
theorem ct_X1_hasSpan {l : Launch} {D : va_G} {cA : Nat → ClassId} {ov : Value} {aR0 : Nat → Nat → Nat} {B nS : Nat} {xs : Nat → Int32} {q : Nat} : Ctr l D cA ov aR0 B nS xs q 1 10 := by
  intro as c h
  have h : wX1_hasSpan as = some c := h
  rcases iX1_hasSpan h with ⟨a0, a1, a2, rfl, rfl⟩
  · refine ⟨⟨rfl, fun _ => ⟨_, _, rfl⟩⟩, fun m v m' ha => ?_⟩
    obtain ⟨x, hx, rfl⟩ := ha
    rw [fX1_hasSpan_eq] at hx
    obtain ⟨n, hn⟩ := pfX1_hasSpan q (csF_m q) a0 a1 a2 m (x, m') _ hx ⟨0, rfl⟩
    exact ctr_mk (t := tX1_hasSpan) (cl := []) (by decide) (tabOK_mk okX1_hasSpan (by decide +kernel)) (by decide +kernel) (by decide) fa_nil (Nat.le_of_ble_eq_true rfl) (by cases x <;> rfl) hn
theorem iX1_startRow {as : List AV} {c : CallR} (h : wX1_startRow as = some c) : (∃ (a0 : Nat) (a1 : Int32) (a2 : Int32), as = [aR 1 a0, aI a1, aI a2] ∧ c = cRV (fX1_startRow a0 a1 a2)) := by
  unfold wX1_startRow at h
  split at h
  · exact ⟨_, _, _, rfl, (Option.some.inj h).symm⟩
  · cases h
theorem ct_X1_startRow {l : Launch} {D : va_G} {cA : Nat → ClassId} {ov : Value} {aR0 : Nat → Nat → Nat} {B nS : Nat} {xs : Nat → Int32} {q : Nat} : Ctr l D cA ov aR0 B nS xs q 1 11 := by
  intro as c h
  have h : wX1_startRow as = some c := h
  rcases iX1_startRow h with ⟨a0, a1, a2, rfl, rfl⟩
  · refine ⟨⟨rfl, fun _ => ⟨_, _, rfl⟩⟩, fun m v m' ha => ?_⟩
    obtain ⟨x, hx, rfl⟩ := ha
    rw [fX1_startRow_eq] at hx
    obtain ⟨n, hn⟩ := pfX1_startRow q (csF_m q) a0 a1 a2 m (x, m') _ hx ⟨0, rfl⟩
    exact ctr_mk (t := tX1_startRow) (cl := []) (by decide) (tabOK_mk okX1_startRow (by decide +kernel)) (by decide +kernel) (by decide) fa_nil (Nat.le_of_ble_eq_true rfl) trivial hn
theorem iX1_narrowed {as : List AV} {c : CallR} (h : wX1_narrowed as = some c) : (∃ (a0 : Nat) (a1 : Int64), as = [aR 1 a0, aL a1] ∧ c = cRJ (fX1_narrowed a0 a1)) := by
  unfold wX1_narrowed at h
  split at h
  · exact ⟨_, _, rfl, (Option.some.inj h).symm⟩
  · cases h
theorem ct_X1_narrowed {l : Launch} {D : va_G} {cA : Nat → ClassId} {ov : Value} {aR0 : Nat → Nat → Nat} {B nS : Nat} {xs : Nat → Int32} {q : Nat} : Ctr l D cA ov aR0 B nS xs q 1 14 := by
  intro as c h
  have h : wX1_narrowed as = some c := h
  rcases iX1_narrowed h with ⟨a0, a1, rfl, rfl⟩
  · refine ⟨⟨rfl, fun _ => ⟨_, _, rfl⟩⟩, fun m v m' ha => ?_⟩
    obtain ⟨x, hx, rfl⟩ := ha
    rw [fX1_narrowed_eq] at hx
    obtain ⟨n, hn⟩ := pfX1_narrowed q (csF_m q) a0 a1 m (x, m') _ hx ⟨0, rfl⟩
    exact ctr_mk (t := tX1_narrowed) (cl := []) (by decide) (tabOK_mk okX1_narrowed (by decide +kernel)) (by decide +kernel) (by decide) fa_nil (Nat.le_of_ble_eq_true rfl) trivial hn
theorem iX1_put {as : List AV} {c : CallR} (h : wX1_put as = some c) : (∃ (a0 : Nat) (a1 : Int32) (a2 : Int64), as = [aR 1 a0, aI a1, aL a2] ∧ c = cRV (fX1_put a0 a1 a2)) := by
  unfold wX1_put at h
  split at h
  · exact ⟨_, _, _, rfl, (Option.some.inj h).symm⟩
  · cases h
theorem ct_X1_put {l : Launch} {D : va_G} {cA : Nat → ClassId} {ov : Value} {aR0 : Nat → Nat → Nat} {B nS : Nat} {xs : Nat → Int32} {q : Nat} : Ctr l D cA ov aR0 B nS xs q 2 12 := by
  intro as c h
  have h : wX1_put as = some c := h
  rcases iX1_put h with ⟨a0, a1, a2, rfl, rfl⟩
  · refine ⟨⟨rfl, fun _ => ⟨_, _, rfl⟩⟩, fun m v m' ha => ?_⟩
    obtain ⟨x, hx, rfl⟩ := ha
    rw [fX1_put_eq] at hx
    obtain ⟨n, hn⟩ := pfX1_put q (csF_m q) a0 a1 a2 m (x, m') _ hx ⟨0, rfl⟩
    exact ctr_mk (t := tX1_put) (cl := [6, 9, 14]) (by decide) (tabOK_mk okX1_put (by decide +kernel)) (by decide +kernel) (by decide) (fa_cons ⟨1, by decide, ct_X1_isRow⟩ (fa_cons ⟨1, by decide, ct_X1_hasPlace⟩ (fa_cons ⟨1, by decide, ct_X1_narrowed⟩ fa_nil))) (Nat.le_of_ble_eq_true rfl) trivial hn
theorem iX1_take {as : List AV} {c : CallR} (h : wX1_take as = some c) : (∃ (a0 : Nat) (a1 : Int32), as = [aR 1 a0, aI a1] ∧ c = cRJ (fX1_take a0 a1)) := by
  unfold wX1_take at h
  split at h
  · exact ⟨_, _, rfl, (Option.some.inj h).symm⟩
  · cases h
theorem ct_X1_take {l : Launch} {D : va_G} {cA : Nat → ClassId} {ov : Value} {aR0 : Nat → Nat → Nat} {B nS : Nat} {xs : Nat → Int32} {q : Nat} : Ctr l D cA ov aR0 B nS xs q 2 13 := by
  intro as c h
  have h : wX1_take as = some c := h
  rcases iX1_take h with ⟨a0, a1, rfl, rfl⟩
  · refine ⟨⟨rfl, fun _ => ⟨_, _, rfl⟩⟩, fun m v m' ha => ?_⟩
    obtain ⟨x, hx, rfl⟩ := ha
    rw [fX1_take_eq] at hx
    obtain ⟨n, hn⟩ := pfX1_take q (csF_m q) a0 a1 m (x, m') _ hx ⟨0, rfl⟩
    exact ctr_mk (t := tX1_take) (cl := [6, 9]) (by decide) (tabOK_mk okX1_take (by decide +kernel)) (by decide +kernel) (by decide) (fa_cons ⟨1, by decide, ct_X1_isRow⟩ (fa_cons ⟨1, by decide, ct_X1_hasPlace⟩ fa_nil)) (Nat.le_of_ble_eq_true rfl) trivial hn
theorem iX2_hasRoom {as : List AV} {c : CallR} (h : wX2_hasRoom as = some c) : (∃ (a0 : Nat), as = [aR 2 a0] ∧ c = cRZ (fX2_hasRoom a0)) := by
  unfold wX2_hasRoom at h
  split at h
  · exact ⟨_, rfl, (Option.some.inj h).symm⟩
  · cases h
theorem ct_X2_hasRoom {l : Launch} {D : va_G} {cA : Nat → ClassId} {ov : Value} {aR0 : Nat → Nat → Nat} {B nS : Nat} {xs : Nat → Int32} {q : Nat} : Ctr l D cA ov aR0 B nS xs q 1 16 := by
  intro as c h
  have h : wX2_hasRoom as = some c := h
  rcases iX2_hasRoom h with ⟨a0, rfl, rfl⟩
  · refine ⟨⟨rfl, fun _ => ⟨_, _, rfl⟩⟩, fun m v m' ha => ?_⟩
    obtain ⟨x, hx, rfl⟩ := ha
    rw [fX2_hasRoom_eq] at hx
    obtain ⟨n, hn⟩ := pfX2_hasRoom q (csF_m q) a0 m (x, m') _ hx ⟨0, rfl⟩
    exact ctr_mk (t := tX2_hasRoom) (cl := []) (by decide) (tabOK_mk okX2_hasRoom (by decide +kernel)) (by decide +kernel) (by decide) fa_nil (Nat.le_of_ble_eq_true rfl) (by cases x <;> rfl) hn
theorem iX2_append {as : List AV} {c : CallR} (h : wX2_append as = some c) : (∃ (a0 : Nat) (a1 : Int32), as = [aR 2 a0, aI a1] ∧ c = cRI (fX2_append a0 a1)) := by
  unfold wX2_append at h
  split at h
  · exact ⟨_, _, rfl, (Option.some.inj h).symm⟩
  · cases h
theorem ct_X2_append {l : Launch} {D : va_G} {cA : Nat → ClassId} {ov : Value} {aR0 : Nat → Nat → Nat} {B nS : Nat} {xs : Nat → Int32} {q : Nat} : Ctr l D cA ov aR0 B nS xs q 1 17 := by
  intro as c h
  have h : wX2_append as = some c := h
  rcases iX2_append h with ⟨a0, a1, rfl, rfl⟩
  · refine ⟨⟨rfl, fun _ => ⟨_, _, rfl⟩⟩, fun m v m' ha => ?_⟩
    obtain ⟨x, hx, rfl⟩ := ha
    rw [fX2_append_eq] at hx
    obtain ⟨n, hn⟩ := pfX2_append q (csF_m q) a0 a1 m (x, m') _ hx ⟨0, rfl⟩
    exact ctr_mk (t := tX2_append) (cl := []) (by decide) (tabOK_mk okX2_append (by decide +kernel)) (by decide +kernel) (by decide) fa_nil (Nat.le_of_ble_eq_true rfl) (rfl : narrow .int (.int x) = .int x) hn
theorem iX2_mostOf {as : List AV} {c : CallR} (h : wX2_mostOf as = some c) : (∃ (a0 : Nat) (a1 : Int32) (a2 : Int32), as = [aR 5 a0, aI a1, aI a2] ∧ c = cRI (fX2_mostOf a0 a1 a2)) := by
  unfold wX2_mostOf at h
  split at h
  · exact ⟨_, _, _, rfl, (Option.some.inj h).symm⟩
  · cases h
theorem ct_X2_mostOf {l : Launch} {D : va_G} {cA : Nat → ClassId} {ov : Value} {aR0 : Nat → Nat → Nat} {B nS : Nat} {xs : Nat → Int32} {q : Nat} : Ctr l D cA ov aR0 B nS xs q 1 22 := by
  intro as c h
  have h : wX2_mostOf as = some c := h
  rcases iX2_mostOf h with ⟨a0, a1, a2, rfl, rfl⟩
  · refine ⟨⟨rfl, fun h => absurd h (by decide)⟩, fun m v m' ha => ?_⟩
    obtain ⟨x, hx, rfl⟩ := ha
    rw [fX2_mostOf_eq] at hx
    obtain ⟨n, hn⟩ := pfX2_mostOf q (csF_m q) a0 a1 a2 m (x, m') _ hx ⟨0, rfl⟩
    exact ctr_mk (t := tX2_mostOf) (cl := []) (by decide) (tabOK_mk okX2_mostOf (by decide +kernel)) (by decide +kernel) (by decide) fa_nil (Nat.le_of_ble_eq_true rfl) (rfl : narrow .int (.int x) = .int x) hn
theorem iX2_numbersOf {as : List AV} {c : CallR} (h : wX2_numbersOf as = some c) : (∃ (a0 : Int32), as = [aI a0] ∧ c = cRI (fX2_numbersOf a0)) := by
  unfold wX2_numbersOf at h
  split at h
  · exact ⟨_, rfl, (Option.some.inj h).symm⟩
  · cases h
theorem ct_X2_numbersOf {l : Launch} {D : va_G} {cA : Nat → ClassId} {ov : Value} {aR0 : Nat → Nat → Nat} {B nS : Nat} {xs : Nat → Int32} {q : Nat} : Ctr l D cA ov aR0 B nS xs q 1 21 := by
  intro as c h
  have h : wX2_numbersOf as = some c := h
  rcases iX2_numbersOf h with ⟨a0, rfl, rfl⟩
  · refine ⟨⟨rfl, fun h => absurd h (by decide)⟩, fun m v m' ha => ?_⟩
    obtain ⟨x, hx, rfl⟩ := ha
    rw [fX2_numbersOf_eq] at hx
    obtain ⟨n, hn⟩ := pfX2_numbersOf q (csF_m q) a0 m (x, m') _ hx ⟨0, rfl⟩
    exact ctr_mk (t := tX2_numbersOf) (cl := []) (by decide) (tabOK_mk okX2_numbersOf (by decide +kernel)) (by decide +kernel) (by decide) fa_nil (Nat.le_of_ble_eq_true rfl) (rfl : narrow .int (.int x) = .int x) hn
theorem iX5_bottleAt {as : List AV} {c : CallR} (h : wX5_bottleAt as = some c) : (∃ (a0 : Nat) (a1 : Int32), as = [aR 5 a0, aI a1] ∧ c = cRO 0 (fX5_bottleAt a0 a1)) := by
  unfold wX5_bottleAt at h
  split at h
  · exact ⟨_, _, rfl, (Option.some.inj h).symm⟩
  · cases h
theorem ct_X5_bottleAt {l : Launch} {D : va_G} {cA : Nat → ClassId} {ov : Value} {aR0 : Nat → Nat → Nat} {B nS : Nat} {xs : Nat → Int32} {q : Nat} : Ctr l D cA ov aR0 B nS xs q 1 42 := by
  intro as c h
  have h : wX5_bottleAt as = some c := h
  rcases iX5_bottleAt h with ⟨a0, a1, rfl, rfl⟩
  · refine ⟨⟨rfl, fun _ => ⟨_, _, rfl⟩⟩, fun m v m' ha => ?_⟩
    obtain ⟨x, hx, rfl⟩ := ha
    rw [fX5_bottleAt_eq] at hx
    cases x with
    | none =>
      obtain ⟨n, hn⟩ := pfX5_bottleAt q (csF_m q) a0 a1 m (none, m') _ hx ⟨0, rfl⟩
      exact ctr_mk (t := tX5_bottleAt) (cl := []) (by decide) (tabOK_mk okX5_bottleAt (by decide +kernel)) (by decide +kernel) (by decide) fa_nil (Nat.le_of_ble_eq_true rfl) trivial hn
    | some i =>
      obtain ⟨n, hn⟩ := pfX5_bottleAt q (csF_m q) a0 a1 m (some i, m') _ hx ⟨0, rfl⟩
      exact ctr_mk (t := tX5_bottleAt) (cl := []) (by decide) (tabOK_mk okX5_bottleAt (by decide +kernel)) (by decide +kernel) (by decide) fa_nil (Nat.le_of_ble_eq_true rfl) trivial hn
theorem iX5_hasRoomForBottle {as : List AV} {c : CallR} (h : wX5_hasRoomForBottle as = some c) : (∃ (a0 : Nat), as = [aR 5 a0] ∧ c = cRZ (fX5_hasRoomForBottle a0)) := by
  unfold wX5_hasRoomForBottle at h
  split at h
  · exact ⟨_, rfl, (Option.some.inj h).symm⟩
  · cases h
theorem ct_X5_hasRoomForBottle {l : Launch} {D : va_G} {cA : Nat → ClassId} {ov : Value} {aR0 : Nat → Nat → Nat} {B nS : Nat} {xs : Nat → Int32} {q : Nat} : Ctr l D cA ov aR0 B nS xs q 1 45 := by
  intro as c h
  have h : wX5_hasRoomForBottle as = some c := h
  rcases iX5_hasRoomForBottle h with ⟨a0, rfl, rfl⟩
  · refine ⟨⟨rfl, fun _ => ⟨_, _, rfl⟩⟩, fun m v m' ha => ?_⟩
    obtain ⟨x, hx, rfl⟩ := ha
    rw [fX5_hasRoomForBottle_eq] at hx
    obtain ⟨n, hn⟩ := pfX5_hasRoomForBottle q (csF_m q) a0 m (x, m') _ hx ⟨0, rfl⟩
    exact ctr_mk (t := tX5_hasRoomForBottle) (cl := []) (by decide) (tabOK_mk okX5_hasRoomForBottle (by decide +kernel)) (by decide +kernel) (by decide) fa_nil (Nat.le_of_ble_eq_true rfl) (by cases x <;> rfl) hn
theorem iX5_addBottle {as : List AV} {c : CallR} (h : wX5_addBottle as = some c) : (∃ (a0 : Nat) (a1 : Int32) (a2 : Int32) (a3 : Int32) (a4 : Int32), as = [aR 5 a0, aI a1, aI a2, aI a3, aI a4] ∧ c = cRI (fX5_addBottle a0 a1 a2 a3 a4)) := by
  unfold wX5_addBottle at h
  split at h
  · exact ⟨_, _, _, _, _, rfl, (Option.some.inj h).symm⟩
  · cases h
theorem ct_X5_addBottle {l : Launch} {D : va_G} {cA : Nat → ClassId} {ov : Value} {aR0 : Nat → Nat → Nat} {B nS : Nat} {xs : Nat → Int32} {q : Nat} : Ctr l D cA ov aR0 B nS xs q 2 49 := by
  intro as c h
  have h : wX5_addBottle as = some c := h
  rcases iX5_addBottle h with ⟨a0, a1, a2, a3, a4, rfl, rfl⟩
  · refine ⟨⟨rfl, fun _ => ⟨_, _, rfl⟩⟩, fun m v m' ha => ?_⟩
    obtain ⟨x, hx, rfl⟩ := ha
    rw [fX5_addBottle_eq] at hx
    obtain ⟨n, hn⟩ := pfX5_addBottle q (csF_m q) a0 a1 a2 a3 a4 m (x, m') _ hx ⟨0, rfl⟩
    exact ctr_mk (t := tX5_addBottle) (cl := [1, 42, 45]) (by decide) (tabOK_mk okX5_addBottle (by decide +kernel)) (by decide +kernel) (by decide) (fa_cons ⟨1, by decide, ct_X0_start⟩ (fa_cons ⟨1, by decide, ct_X5_bottleAt⟩ (fa_cons ⟨1, by decide, ct_X5_hasRoomForBottle⟩ fa_nil))) (Nat.le_of_ble_eq_true rfl) (rfl : narrow .int (.int x) = .int x) hn
theorem iX4_start {as : List AV} {c : CallR} (h : wX4_start as = some c) : (∃ (a0 : Nat) (a1 : Int32) (a2 : Int32) (a3 : Int32), as = [aR 4 a0, aI a1, aI a2, aI a3] ∧ c = cRV (fX4_start a0 a1 a2 a3)) := by
  unfold wX4_start at h
  split at h
  · exact ⟨_, _, _, _, rfl, (Option.some.inj h).symm⟩
  · cases h
theorem ct_X4_start {l : Launch} {D : va_G} {cA : Nat → ClassId} {ov : Value} {aR0 : Nat → Nat → Nat} {B nS : Nat} {xs : Nat → Int32} {q : Nat} : Ctr l D cA ov aR0 B nS xs q 1 36 := by
  intro as c h
  have h : wX4_start as = some c := h
  rcases iX4_start h with ⟨a0, a1, a2, a3, rfl, rfl⟩
  · refine ⟨⟨rfl, fun _ => ⟨_, _, rfl⟩⟩, fun m v m' ha => ?_⟩
    obtain ⟨x, hx, rfl⟩ := ha
    rw [fX4_start_eq] at hx
    obtain ⟨n, hn⟩ := pfX4_start q (csF_m q) a0 a1 a2 a3 m (x, m') _ hx ⟨0, rfl⟩
    exact ctr_mk (t := tX4_start) (cl := []) (by decide) (tabOK_mk okX4_start (by decide +kernel)) (by decide +kernel) (by decide) fa_nil (Nat.le_of_ble_eq_true rfl) trivial hn
theorem iX5_hasRoomForWalker {as : List AV} {c : CallR} (h : wX5_hasRoomForWalker as = some c) : (∃ (a0 : Nat), as = [aR 5 a0] ∧ c = cRZ (fX5_hasRoomForWalker a0)) := by
  unfold wX5_hasRoomForWalker at h
  split at h
  · exact ⟨_, rfl, (Option.some.inj h).symm⟩
  · cases h
theorem ct_X5_hasRoomForWalker {l : Launch} {D : va_G} {cA : Nat → ClassId} {ov : Value} {aR0 : Nat → Nat → Nat} {B nS : Nat} {xs : Nat → Int32} {q : Nat} : Ctr l D cA ov aR0 B nS xs q 1 46 := by
  intro as c h
  have h : wX5_hasRoomForWalker as = some c := h
  rcases iX5_hasRoomForWalker h with ⟨a0, rfl, rfl⟩
  · refine ⟨⟨rfl, fun _ => ⟨_, _, rfl⟩⟩, fun m v m' ha => ?_⟩
    obtain ⟨x, hx, rfl⟩ := ha
    rw [fX5_hasRoomForWalker_eq] at hx
    obtain ⟨n, hn⟩ := pfX5_hasRoomForWalker q (csF_m q) a0 m (x, m') _ hx ⟨0, rfl⟩
    exact ctr_mk (t := tX5_hasRoomForWalker) (cl := []) (by decide) (tabOK_mk okX5_hasRoomForWalker (by decide +kernel)) (by decide +kernel) (by decide) fa_nil (Nat.le_of_ble_eq_true rfl) (by cases x <;> rfl) hn
theorem iX5_walkerAt {as : List AV} {c : CallR} (h : wX5_walkerAt as = some c) : (∃ (a0 : Nat) (a1 : Int32), as = [aR 5 a0, aI a1] ∧ c = cRO 4 (fX5_walkerAt a0 a1)) := by
  unfold wX5_walkerAt at h
  split at h
  · exact ⟨_, _, rfl, (Option.some.inj h).symm⟩
  · cases h
theorem ct_X5_walkerAt {l : Launch} {D : va_G} {cA : Nat → ClassId} {ov : Value} {aR0 : Nat → Nat → Nat} {B nS : Nat} {xs : Nat → Int32} {q : Nat} : Ctr l D cA ov aR0 B nS xs q 1 43 := by
  intro as c h
  have h : wX5_walkerAt as = some c := h
  rcases iX5_walkerAt h with ⟨a0, a1, rfl, rfl⟩
  · refine ⟨⟨rfl, fun _ => ⟨_, _, rfl⟩⟩, fun m v m' ha => ?_⟩
    obtain ⟨x, hx, rfl⟩ := ha
    rw [fX5_walkerAt_eq] at hx
    cases x with
    | none =>
      obtain ⟨n, hn⟩ := pfX5_walkerAt q (csF_m q) a0 a1 m (none, m') _ hx ⟨0, rfl⟩
      exact ctr_mk (t := tX5_walkerAt) (cl := []) (by decide) (tabOK_mk okX5_walkerAt (by decide +kernel)) (by decide +kernel) (by decide) fa_nil (Nat.le_of_ble_eq_true rfl) trivial hn
    | some i =>
      obtain ⟨n, hn⟩ := pfX5_walkerAt q (csF_m q) a0 a1 m (some i, m') _ hx ⟨0, rfl⟩
      exact ctr_mk (t := tX5_walkerAt) (cl := []) (by decide) (tabOK_mk okX5_walkerAt (by decide +kernel)) (by decide +kernel) (by decide) fa_nil (Nat.le_of_ble_eq_true rfl) trivial hn
theorem iX5_addWalker {as : List AV} {c : CallR} (h : wX5_addWalker as = some c) : (∃ (a0 : Nat) (a1 : Int32) (a2 : Int32) (a3 : Int32), as = [aR 5 a0, aI a1, aI a2, aI a3] ∧ c = cRI (fX5_addWalker a0 a1 a2 a3)) := by
  unfold wX5_addWalker at h
  split at h
  · exact ⟨_, _, _, _, rfl, (Option.some.inj h).symm⟩
  · cases h
theorem ct_X5_addWalker {l : Launch} {D : va_G} {cA : Nat → ClassId} {ov : Value} {aR0 : Nat → Nat → Nat} {B nS : Nat} {xs : Nat → Int32} {q : Nat} : Ctr l D cA ov aR0 B nS xs q 2 50 := by
  intro as c h
  have h : wX5_addWalker as = some c := h
  rcases iX5_addWalker h with ⟨a0, a1, a2, a3, rfl, rfl⟩
  · refine ⟨⟨rfl, fun _ => ⟨_, _, rfl⟩⟩, fun m v m' ha => ?_⟩
    obtain ⟨x, hx, rfl⟩ := ha
    rw [fX5_addWalker_eq] at hx
    obtain ⟨n, hn⟩ := pfX5_addWalker q (csF_m q) a0 a1 a2 a3 m (x, m') _ hx ⟨0, rfl⟩
    exact ctr_mk (t := tX5_addWalker) (cl := [36, 43, 46]) (by decide) (tabOK_mk okX5_addWalker (by decide +kernel)) (by decide +kernel) (by decide) (fa_cons ⟨1, by decide, ct_X4_start⟩ (fa_cons ⟨1, by decide, ct_X5_walkerAt⟩ (fa_cons ⟨1, by decide, ct_X5_hasRoomForWalker⟩ fa_nil))) (Nat.le_of_ble_eq_true rfl) (rfl : narrow .int (.int x) = .int x) hn
theorem iX5_setFlow {as : List AV} {c : CallR} (h : wX5_setFlow as = some c) : (∃ (a0 : Nat) (a1 : Int32) (a2 : Int32), as = [aR 5 a0, aI a1, aI a2] ∧ c = cRV (fX5_setFlow a0 a1 a2)) := by
  unfold wX5_setFlow at h
  split at h
  · exact ⟨_, _, _, rfl, (Option.some.inj h).symm⟩
  · cases h
theorem ct_X5_setFlow {l : Launch} {D : va_G} {cA : Nat → ClassId} {ov : Value} {aR0 : Nat → Nat → Nat} {B nS : Nat} {xs : Nat → Int32} {q : Nat} : Ctr l D cA ov aR0 B nS xs q 1 48 := by
  intro as c h
  have h : wX5_setFlow as = some c := h
  rcases iX5_setFlow h with ⟨a0, a1, a2, rfl, rfl⟩
  · refine ⟨⟨rfl, fun _ => ⟨_, _, rfl⟩⟩, fun m v m' ha => ?_⟩
    obtain ⟨x, hx, rfl⟩ := ha
    rw [fX5_setFlow_eq] at hx
    obtain ⟨n, hn⟩ := pfX5_setFlow q (csF_m q) a0 a1 a2 m (x, m') _ hx ⟨0, rfl⟩
    exact ctr_mk (t := tX5_setFlow) (cl := []) (by decide) (tabOK_mk okX5_setFlow (by decide +kernel)) (by decide +kernel) (by decide) fa_nil (Nat.le_of_ble_eq_true rfl) trivial hn
theorem iX2_perform {as : List AV} {c : CallR} (h : wX2_perform as = some c) : (∃ (a0 : Nat) (a1 : Nat) (a2 : Int32), as = [aR 2 a0, aR 5 a1, aI a2] ∧ c = cRV (fX2_perform a0 a1 a2)) := by
  unfold wX2_perform at h
  split at h
  · exact ⟨_, _, _, rfl, (Option.some.inj h).symm⟩
  · cases h
theorem ct_X2_perform {l : Launch} {D : va_G} {cA : Nat → ClassId} {ov : Value} {aR0 : Nat → Nat → Nat} {B nS : Nat} {xs : Nat → Int32} {q : Nat} : Ctr l D cA ov aR0 B nS xs q 3 20 := by
  intro as c h
  have h : wX2_perform as = some c := h
  rcases iX2_perform h with ⟨a0, a1, a2, rfl, rfl⟩
  · refine ⟨⟨rfl, fun _ => ⟨_, _, rfl⟩⟩, fun m v m' ha => ?_⟩
    obtain ⟨x, hx, rfl⟩ := ha
    rw [fX2_perform_eq] at hx
    obtain ⟨n, hn⟩ := pfX2_perform q (csF_m q) a0 a1 a2 m (x, m') _ hx ⟨0, rfl⟩
    exact ctr_mk (t := tX2_perform) (cl := [48, 49, 50]) (by decide) (tabOK_mk okX2_perform (by decide +kernel)) (by decide +kernel) (by decide) (fa_cons ⟨1, by decide, ct_X5_setFlow⟩ (fa_cons ⟨2, by decide, ct_X5_addBottle⟩ (fa_cons ⟨2, by decide, ct_X5_addWalker⟩ fa_nil))) (Nat.le_of_ble_eq_true rfl) trivial hn
theorem iX2_byteAt {as : List AV} {c : CallR} (h : wX2_byteAt as = some c) : (∃ (a0 : Nat) (a1 : Int32), as = [aR 2 a0, aI a1] ∧ c = cRI (fX2_byteAt a0 a1)) := by
  unfold wX2_byteAt at h
  split at h
  · exact ⟨_, _, rfl, (Option.some.inj h).symm⟩
  · cases h
theorem ct_X2_byteAt {l : Launch} {D : va_G} {cA : Nat → ClassId} {ov : Value} {aR0 : Nat → Nat → Nat} {B nS : Nat} {xs : Nat → Int32} {q : Nat} : Ctr l D cA ov aR0 B nS xs q 1 25 := by
  intro as c h
  have h : wX2_byteAt as = some c := h
  rcases iX2_byteAt h with ⟨a0, a1, rfl, rfl⟩
  · refine ⟨⟨rfl, fun _ => ⟨_, _, rfl⟩⟩, fun m v m' ha => ?_⟩
    obtain ⟨x, hx, rfl⟩ := ha
    rw [fX2_byteAt_eq] at hx
    obtain ⟨n, hn⟩ := pfX2_byteAt q (csF_m q) a0 a1 m (x, m') _ hx ⟨0, rfl⟩
    exact ctr_mk (t := tX2_byteAt) (cl := []) (by decide) (tabOK_mk okX2_byteAt (by decide +kernel)) (by decide +kernel) (by decide) fa_nil (Nat.le_of_ble_eq_true rfl) (rfl : narrow .int (.int x) = .int x) hn
theorem iX2_isDigit {as : List AV} {c : CallR} (h : wX2_isDigit as = some c) : (∃ (a0 : Int32), as = [aI a0] ∧ c = cRZ (fX2_isDigit a0)) := by
  unfold wX2_isDigit at h
  split at h
  · exact ⟨_, rfl, (Option.some.inj h).symm⟩
  · cases h
theorem ct_X2_isDigit {l : Launch} {D : va_G} {cA : Nat → ClassId} {ov : Value} {aR0 : Nat → Nat → Nat} {B nS : Nat} {xs : Nat → Int32} {q : Nat} : Ctr l D cA ov aR0 B nS xs q 1 27 := by
  intro as c h
  have h : wX2_isDigit as = some c := h
  rcases iX2_isDigit h with ⟨a0, rfl, rfl⟩
  · refine ⟨⟨rfl, fun h => absurd h (by decide)⟩, fun m v m' ha => ?_⟩
    obtain ⟨x, hx, rfl⟩ := ha
    rw [fX2_isDigit_eq] at hx
    obtain ⟨n, hn⟩ := pfX2_isDigit q (csF_m q) a0 m (x, m') _ hx ⟨0, rfl⟩
    exact ctr_mk (t := tX2_isDigit) (cl := []) (by decide) (tabOK_mk okX2_isDigit (by decide +kernel)) (by decide +kernel) (by decide) fa_nil (Nat.le_of_ble_eq_true rfl) (by cases x <;> rfl) hn
theorem iX2_isLetter {as : List AV} {c : CallR} (h : wX2_isLetter as = some c) : (∃ (a0 : Int32), as = [aI a0] ∧ c = cRZ (fX2_isLetter a0)) := by
  unfold wX2_isLetter at h
  split at h
  · exact ⟨_, rfl, (Option.some.inj h).symm⟩
  · cases h
theorem ct_X2_isLetter {l : Launch} {D : va_G} {cA : Nat → ClassId} {ov : Value} {aR0 : Nat → Nat → Nat} {B nS : Nat} {xs : Nat → Int32} {q : Nat} : Ctr l D cA ov aR0 B nS xs q 1 26 := by
  intro as c h
  have h : wX2_isLetter as = some c := h
  rcases iX2_isLetter h with ⟨a0, rfl, rfl⟩
  · refine ⟨⟨rfl, fun h => absurd h (by decide)⟩, fun m v m' ha => ?_⟩
    obtain ⟨x, hx, rfl⟩ := ha
    rw [fX2_isLetter_eq] at hx
    obtain ⟨n, hn⟩ := pfX2_isLetter q (csF_m q) a0 m (x, m') _ hx ⟨0, rfl⟩
    exact ctr_mk (t := tX2_isLetter) (cl := []) (by decide) (tabOK_mk okX2_isLetter (by decide +kernel)) (by decide +kernel) (by decide) fa_nil (Nat.le_of_ble_eq_true rfl) (by cases x <;> rfl) hn
theorem iX2_scanNumber {as : List AV} {c : CallR} (h : wX2_scanNumber as = some c) : (∃ (a0 : Nat), as = [aR 2 a0] ∧ c = cRV (fX2_scanNumber a0)) := by
  unfold wX2_scanNumber at h
  split at h
  · exact ⟨_, rfl, (Option.some.inj h).symm⟩
  · cases h
theorem ct_X2_scanNumber {l : Launch} {D : va_G} {cA : Nat → ClassId} {ov : Value} {aR0 : Nat → Nat → Nat} {B nS : Nat} {xs : Nat → Int32} {q : Nat} : Ctr l D cA ov aR0 B nS xs q 2 29 := by
  intro as c h
  have h : wX2_scanNumber as = some c := h
  rcases iX2_scanNumber h with ⟨a0, rfl, rfl⟩
  · refine ⟨⟨rfl, fun _ => ⟨_, _, rfl⟩⟩, fun m v m' ha => ?_⟩
    obtain ⟨x, hx, rfl⟩ := ha
    rw [fX2_scanNumber_eq] at hx
    obtain ⟨n, hn⟩ := pfX2_scanNumber q (csF_m q) a0 m (x, m') _ hx ⟨0, rfl⟩
    exact ctr_mk (t := tX2_scanNumber) (cl := [25, 27]) (by decide) (tabOK_mk okX2_scanNumber (by decide +kernel)) (by decide +kernel) (by decide) (fa_cons ⟨1, by decide, ct_X2_byteAt⟩ (fa_cons ⟨1, by decide, ct_X2_isDigit⟩ fa_nil)) (Nat.le_of_ble_eq_true rfl) trivial hn
theorem iX2_scan {as : List AV} {c : CallR} (h : wX2_scan as = some c) : (∃ (a0 : Nat), as = [aR 2 a0] ∧ c = cRV (fX2_scan a0)) := by
  unfold wX2_scan at h
  split at h
  · exact ⟨_, rfl, (Option.some.inj h).symm⟩
  · cases h
theorem ct_X2_scan {l : Launch} {D : va_G} {cA : Nat → ClassId} {ov : Value} {aR0 : Nat → Nat → Nat} {B nS : Nat} {xs : Nat → Int32} {q : Nat} : Ctr l D cA ov aR0 B nS xs q 3 28 := by
  intro as c h
  have h : wX2_scan as = some c := h
  rcases iX2_scan h with ⟨a0, rfl, rfl⟩
  · refine ⟨⟨rfl, fun _ => ⟨_, _, rfl⟩⟩, fun m v m' ha => ?_⟩
    obtain ⟨x, hx, rfl⟩ := ha
    rw [fX2_scan_eq] at hx
    obtain ⟨n, hn⟩ := pfX2_scan q (csF_m q) a0 m (x, m') _ hx ⟨0, rfl⟩
    exact ctr_mk (t := tX2_scan) (cl := [25, 26, 27, 29]) (by decide) (tabOK_mk okX2_scan (by decide +kernel)) (by decide +kernel) (by decide) (fa_cons ⟨1, by decide, ct_X2_byteAt⟩ (fa_cons ⟨1, by decide, ct_X2_isLetter⟩ (fa_cons ⟨1, by decide, ct_X2_isDigit⟩ (fa_cons ⟨2, by decide, ct_X2_scanNumber⟩ fa_nil)))) (Nat.le_of_ble_eq_true rfl) trivial hn
theorem iJ0_isLatin1_aae02 {as : List AV} {c : CallR} (h : wJ0_isLatin1_aae02 as = some c) : (∃ (a0 : Nat), as = [aR 31 a0] ∧ c = cRZ (fJ0_isLatin1_aae02 a0)) := by
  unfold wJ0_isLatin1_aae02 at h
  split at h
  · exact ⟨_, rfl, (Option.some.inj h).symm⟩
  · cases h
theorem ct_J0_isLatin1_aae02 {l : Launch} {D : va_G} {cA : Nat → ClassId} {ov : Value} {aR0 : Nat → Nat → Nat} {B nS : Nat} {xs : Nat → Int32} {q : Nat} : Ctr l D cA ov aR0 B nS xs q 1 241 := by
  intro as c h
  have h : wJ0_isLatin1_aae02 as = some c := h
  rcases iJ0_isLatin1_aae02 h with ⟨a0, rfl, rfl⟩
  · refine ⟨⟨rfl, fun _ => ⟨_, _, rfl⟩⟩, fun m v m' ha => ?_⟩
    obtain ⟨x, hx, rfl⟩ := ha
    rw [fJ0_isLatin1_aae02_eq] at hx
    obtain ⟨n, hn⟩ := pfJ0_isLatin1_aae02 q (csF_m q) a0 m (x, m') _ hx ⟨0, rfl⟩
    exact ctr_mk (t := tJ0_isLatin1_aae02) (cl := []) (by decide) (tabOK_mk okJ0_isLatin1_aae02 (by decide +kernel)) (by decide +kernel) (by decide) fa_nil (Nat.le_of_ble_eq_true rfl) (by cases x <;> rfl) hn
theorem iJ3_checkIndex_8e157 {as : List AV} {c : CallR} (h : wJ3_checkIndex_8e157 as = some c) : (∃ (a0 : Int32) (a1 : Int32), as = [aI a0, aI a1, aR 34 0] ∧ c = cRI (fJ3_checkIndex_8e157 a0 a1)) := by
  unfold wJ3_checkIndex_8e157 at h
  split at h
  · exact ⟨_, _, rfl, (Option.some.inj h).symm⟩
  · cases h
theorem ct_J3_checkIndex_8e157 {l : Launch} {D : va_G} {cA : Nat → ClassId} {ov : Value} {aR0 : Nat → Nat → Nat} {B nS : Nat} {xs : Nat → Int32} {q : Nat} : Ctr l D cA ov aR0 B nS xs q 1 244 := by
  intro as c h
  have h : wJ3_checkIndex_8e157 as = some c := h
  rcases iJ3_checkIndex_8e157 h with ⟨a0, a1, rfl, rfl⟩
  · refine ⟨⟨rfl, fun h => absurd h (by decide)⟩, fun m v m' ha => ?_⟩
    obtain ⟨x, hx, rfl⟩ := ha
    rw [fJ3_checkIndex_8e157_eq] at hx
    obtain ⟨n, hn⟩ := pfJ3_checkIndex_8e157 q (csF_m q) a0 a1 m (x, m') _ hx ⟨0, rfl⟩
    exact ctr_mk (t := tJ3_checkIndex_8e157) (cl := []) (by decide) (tabOK_mk okJ3_checkIndex_8e157 (by decide +kernel)) (by decide +kernel) (by decide) fa_nil (Nat.le_of_ble_eq_true rfl) (rfl : narrow .int (.int x) = .int x) hn
theorem iJ0_checkIndex_df160 {as : List AV} {c : CallR} (h : wJ0_checkIndex_df160 as = some c) : (∃ (a0 : Int32) (a1 : Int32), as = [aI a0, aI a1] ∧ c = cRV (fJ0_checkIndex_df160 a0 a1)) := by
  unfold wJ0_checkIndex_df160 at h
  split at h
  · exact ⟨_, _, rfl, (Option.some.inj h).symm⟩
  · cases h
theorem ct_J0_checkIndex_df160 {l : Launch} {D : va_G} {cA : Nat → ClassId} {ov : Value} {aR0 : Nat → Nat → Nat} {B nS : Nat} {xs : Nat → Int32} {q : Nat} : Ctr l D cA ov aR0 B nS xs q 2 242 := by
  intro as c h
  have h : wJ0_checkIndex_df160 as = some c := h
  rcases iJ0_checkIndex_df160 h with ⟨a0, a1, rfl, rfl⟩
  · refine ⟨⟨rfl, fun h => absurd h (by decide)⟩, fun m v m' ha => ?_⟩
    obtain ⟨x, hx, rfl⟩ := ha
    rw [fJ0_checkIndex_df160_eq] at hx
    obtain ⟨n, hn⟩ := pfJ0_checkIndex_df160 q (csF_m q) a0 a1 m (x, m') _ hx ⟨0, rfl⟩
    exact ctr_mk (t := tJ0_checkIndex_df160) (cl := [244]) (by decide) (tabOK_mk okJ0_checkIndex_df160 (by decide +kernel)) (by decide +kernel) (by decide) (fa_cons ⟨1, by decide, ct_J3_checkIndex_8e157⟩ fa_nil) (Nat.le_of_ble_eq_true rfl) trivial hn
theorem iJ1_charAt_3b067 {as : List AV} {c : CallR} (h : wJ1_charAt_3b067 as = some c) : (∃ (a0 : Nat) (a1 : Int32), as = [aR 30 a0, aI a1] ∧ c = cRI (fJ1_charAt_3b067 a0 a1)) := by
  unfold wJ1_charAt_3b067 at h
  split at h
  · exact ⟨_, _, rfl, (Option.some.inj h).symm⟩
  · cases h
theorem ct_J1_charAt_3b067 {l : Launch} {D : va_G} {cA : Nat → ClassId} {ov : Value} {aR0 : Nat → Nat → Nat} {B nS : Nat} {xs : Nat → Int32} {q : Nat} : Ctr l D cA ov aR0 B nS xs q 3 243 := by
  intro as c h
  have h : wJ1_charAt_3b067 as = some c := h
  rcases iJ1_charAt_3b067 h with ⟨a0, a1, rfl, rfl⟩
  · refine ⟨⟨rfl, fun h => absurd h (by decide)⟩, fun m v m' ha => ?_⟩
    obtain ⟨x, hx, rfl⟩ := ha
    rw [fJ1_charAt_3b067_eq] at hx
    obtain ⟨n, hn⟩ := pfJ1_charAt_3b067 q (csF_m q) a0 a1 m (x, m') _ hx ⟨0, rfl⟩
    exact ctr_mk (t := tJ1_charAt_3b067) (cl := [242]) (by decide) (tabOK_mk okJ1_charAt_3b067 (by decide +kernel)) (by decide +kernel) (by decide) (fa_cons ⟨2, by decide, ct_J0_checkIndex_df160⟩ fa_nil) (Nat.le_of_ble_eq_true rfl) (J1_charAt_3b067_rt hx) hn
theorem iJ0_charAt_5068e {as : List AV} {c : CallR} (h : wJ0_charAt_5068e as = some c) : (∃ (a0 : Nat) (a1 : Int32), as = [aR 31 a0, aI a1] ∧ c = cRI (fJ0_charAt_5068e a0 a1)) := by
  unfold wJ0_charAt_5068e at h
  split at h
  · exact ⟨_, _, rfl, (Option.some.inj h).symm⟩
  · cases h
theorem ct_J0_charAt_5068e {l : Launch} {D : va_G} {cA : Nat → ClassId} {ov : Value} {aR0 : Nat → Nat → Nat} {B nS : Nat} {xs : Nat → Int32} {q : Nat} : Ctr l D cA ov aR0 B nS xs q 4 239 := by
  intro as c h
  have h : wJ0_charAt_5068e as = some c := h
  rcases iJ0_charAt_5068e h with ⟨a0, a1, rfl, rfl⟩
  · refine ⟨⟨rfl, fun _ => ⟨_, _, rfl⟩⟩, fun m v m' ha => ?_⟩
    obtain ⟨x, hx, rfl⟩ := ha
    rw [fJ0_charAt_5068e_eq] at hx
    obtain ⟨n, hn⟩ := pfJ0_charAt_5068e q (csF_m q) a0 a1 m (x, m') _ hx ⟨0, rfl⟩
    exact ctr_mk (t := tJ0_charAt_5068e) (cl := [241, 243]) (by decide) (tabOK_mk okJ0_charAt_5068e (by decide +kernel)) (by decide +kernel) (by decide) (fa_cons ⟨1, by decide, ct_J0_isLatin1_aae02⟩ (fa_cons ⟨3, by decide, ct_J1_charAt_3b067⟩ fa_nil)) (Nat.le_of_ble_eq_true rfl) (J0_charAt_5068e_rt hx) hn
theorem iJ0_coder_7d493 {as : List AV} {c : CallR} (h : wJ0_coder_7d493 as = some c) : (∃ (a0 : Nat), as = [aR 31 a0] ∧ c = cRI (fJ0_coder_7d493 a0)) := by
  unfold wJ0_coder_7d493 at h
  split at h
  · exact ⟨_, rfl, (Option.some.inj h).symm⟩
  · cases h
theorem ct_J0_coder_7d493 {l : Launch} {D : va_G} {cA : Nat → ClassId} {ov : Value} {aR0 : Nat → Nat → Nat} {B nS : Nat} {xs : Nat → Int32} {q : Nat} : Ctr l D cA ov aR0 B nS xs q 1 240 := by
  intro as c h
  have h : wJ0_coder_7d493 as = some c := h
  rcases iJ0_coder_7d493 h with ⟨a0, rfl, rfl⟩
  · refine ⟨⟨rfl, fun _ => ⟨_, _, rfl⟩⟩, fun m v m' ha => ?_⟩
    obtain ⟨x, hx, rfl⟩ := ha
    rw [fJ0_coder_7d493_eq] at hx
    obtain ⟨n, hn⟩ := pfJ0_coder_7d493 q (csF_m q) a0 m (x, m') _ hx ⟨0, rfl⟩
    exact ctr_mk (t := tJ0_coder_7d493) (cl := []) (by decide) (tabOK_mk okJ0_coder_7d493 (by decide +kernel)) (by decide +kernel) (by decide) fa_nil (Nat.le_of_ble_eq_true rfl) (J0_coder_7d493_rt hx) hn
theorem iJ0_length_8abf5 {as : List AV} {c : CallR} (h : wJ0_length_8abf5 as = some c) : (∃ (a0 : Nat), as = [aR 31 a0] ∧ c = cRI (fJ0_length_8abf5 a0)) := by
  unfold wJ0_length_8abf5 at h
  split at h
  · exact ⟨_, rfl, (Option.some.inj h).symm⟩
  · cases h
theorem ct_J0_length_8abf5 {l : Launch} {D : va_G} {cA : Nat → ClassId} {ov : Value} {aR0 : Nat → Nat → Nat} {B nS : Nat} {xs : Nat → Int32} {q : Nat} : Ctr l D cA ov aR0 B nS xs q 2 238 := by
  intro as c h
  have h : wJ0_length_8abf5 as = some c := h
  rcases iJ0_length_8abf5 h with ⟨a0, rfl, rfl⟩
  · refine ⟨⟨rfl, fun _ => ⟨_, _, rfl⟩⟩, fun m v m' ha => ?_⟩
    obtain ⟨x, hx, rfl⟩ := ha
    rw [fJ0_length_8abf5_eq] at hx
    obtain ⟨n, hn⟩ := pfJ0_length_8abf5 q (csF_m q) a0 m (x, m') _ hx ⟨0, rfl⟩
    exact ctr_mk (t := tJ0_length_8abf5) (cl := [240]) (by decide) (tabOK_mk okJ0_length_8abf5 (by decide +kernel)) (by decide +kernel) (by decide) (fa_cons ⟨1, by decide, ct_J0_coder_7d493⟩ fa_nil) (Nat.le_of_ble_eq_true rfl) (rfl : narrow .int (.int x) = .int x) hn
theorem iX2_spells {as : List AV} {c : CallR} (h : wX2_spells as = some c) : (∃ (a0 : Nat) (a1 : Nat), as = [aR 2 a0, aR 31 a1] ∧ c = cRZ (fX2_spells a0 a1)) := by
  unfold wX2_spells at h
  split at h
  · exact ⟨_, _, rfl, (Option.some.inj h).symm⟩
  · cases h
theorem ct_X2_spells {l : Launch} {D : va_G} {cA : Nat → ClassId} {ov : Value} {aR0 : Nat → Nat → Nat} {B nS : Nat} {xs : Nat → Int32} {q : Nat} : Ctr l D cA ov aR0 B nS xs q 5 24 := by
  intro as c h
  have h : wX2_spells as = some c := h
  rcases iX2_spells h with ⟨a0, a1, rfl, rfl⟩
  · refine ⟨⟨rfl, fun _ => ⟨_, _, rfl⟩⟩, fun m v m' ha => ?_⟩
    obtain ⟨x, hx, rfl⟩ := ha
    rw [fX2_spells_eq] at hx
    obtain ⟨n, hn⟩ := pfX2_spells q (csF_m q) a0 a1 m (x, m') _ hx ⟨0, rfl⟩
    exact ctr_mk (t := tX2_spells) (cl := [25, 238, 239]) (by decide) (tabOK_mk okX2_spells (by decide +kernel)) (by decide +kernel) (by decide) (fa_cons ⟨1, by decide, ct_X2_byteAt⟩ (fa_cons ⟨2, by decide, ct_J0_length_8abf5⟩ (fa_cons ⟨4, by decide, ct_J0_charAt_5068e⟩ fa_nil))) (Nat.le_of_ble_eq_true rfl) (by cases x <;> rfl) hn
theorem iX2_wordNumber {as : List AV} {c : CallR} (h : wX2_wordNumber as = some c) : (∃ (a0 : Nat), as = [aR 2 a0] ∧ c = cRI (fX2_wordNumber a0)) := by
  unfold wX2_wordNumber at h
  split at h
  · exact ⟨_, rfl, (Option.some.inj h).symm⟩
  · cases h
theorem ct_X2_wordNumber {l : Launch} {D : va_G} {cA : Nat → ClassId} {ov : Value} {aR0 : Nat → Nat → Nat} {B nS : Nat} {xs : Nat → Int32} {q : Nat} : Ctr l D cA ov aR0 B nS xs q 6 23 := by
  intro as c h
  have h : wX2_wordNumber as = some c := h
  rcases iX2_wordNumber h with ⟨a0, rfl, rfl⟩
  · refine ⟨⟨rfl, fun _ => ⟨_, _, rfl⟩⟩, fun m v m' ha => ?_⟩
    obtain ⟨x, hx, rfl⟩ := ha
    rw [fX2_wordNumber_eq] at hx
    obtain ⟨n, hn⟩ := pfX2_wordNumber q (csF_m q) a0 m (x, m') _ hx ⟨0, rfl⟩
    exact ctr_mk (t := tX2_wordNumber) (cl := [24]) (by decide) (tabOK_mk okX2_wordNumber (by decide +kernel)) (by decide +kernel) (by decide) (fa_cons ⟨5, by decide, ct_X2_spells⟩ fa_nil) (Nat.le_of_ble_eq_true rfl) (rfl : narrow .int (.int x) = .int x) hn
theorem iX2_readStatement {as : List AV} {c : CallR} (h : wX2_readStatement as = some c) : (∃ (a0 : Nat) (a1 : Nat), as = [aR 2 a0, aR 5 a1] ∧ c = cRZ (fX2_readStatement a0 a1)) := by
  unfold wX2_readStatement at h
  split at h
  · exact ⟨_, _, rfl, (Option.some.inj h).symm⟩
  · cases h
theorem ct_X2_readStatement {l : Launch} {D : va_G} {cA : Nat → ClassId} {ov : Value} {aR0 : Nat → Nat → Nat} {B nS : Nat} {xs : Nat → Int32} {q : Nat} : Ctr l D cA ov aR0 B nS xs q 7 19 := by
  intro as c h
  have h : wX2_readStatement as = some c := h
  rcases iX2_readStatement h with ⟨a0, a1, rfl, rfl⟩
  · refine ⟨⟨rfl, fun _ => ⟨_, _, rfl⟩⟩, fun m v m' ha => ?_⟩
    obtain ⟨x, hx, rfl⟩ := ha
    rw [fX2_readStatement_eq] at hx
    obtain ⟨n, hn⟩ := pfX2_readStatement q (csF_m q) a0 a1 m (x, m') _ hx ⟨0, rfl⟩
    exact ctr_mk (t := tX2_readStatement) (cl := [20, 21, 22, 23, 28, 45, 46]) (by decide) (tabOK_mk okX2_readStatement (by decide +kernel)) (by decide +kernel) (by decide) (fa_cons ⟨3, by decide, ct_X2_perform⟩ (fa_cons ⟨1, by decide, ct_X2_numbersOf⟩ (fa_cons ⟨1, by decide, ct_X2_mostOf⟩ (fa_cons ⟨6, by decide, ct_X2_wordNumber⟩ (fa_cons ⟨3, by decide, ct_X2_scan⟩ (fa_cons ⟨1, by decide, ct_X5_hasRoomForBottle⟩ (fa_cons ⟨1, by decide, ct_X5_hasRoomForWalker⟩ fa_nil))))))) (Nat.le_of_ble_eq_true rfl) (by cases x <;> rfl) hn
theorem iX2_readInto {as : List AV} {c : CallR} (h : wX2_readInto as = some c) : (∃ (a0 : Nat) (a1 : Nat), as = [aR 2 a0, aR 5 a1] ∧ c = cRI (fX2_readInto a0 a1)) := by
  unfold wX2_readInto at h
  split at h
  · exact ⟨_, _, rfl, (Option.some.inj h).symm⟩
  · cases h
theorem ct_X2_readInto {l : Launch} {D : va_G} {cA : Nat → ClassId} {ov : Value} {aR0 : Nat → Nat → Nat} {B nS : Nat} {xs : Nat → Int32} {q : Nat} : Ctr l D cA ov aR0 B nS xs q 8 18 := by
  intro as c h
  have h : wX2_readInto as = some c := h
  rcases iX2_readInto h with ⟨a0, a1, rfl, rfl⟩
  · refine ⟨⟨rfl, fun _ => ⟨_, _, rfl⟩⟩, fun m v m' ha => ?_⟩
    obtain ⟨x, hx, rfl⟩ := ha
    rw [fX2_readInto_eq] at hx
    obtain ⟨n, hn⟩ := pfX2_readInto q (csF_m q) a0 a1 m (x, m') _ hx ⟨0, rfl⟩
    exact ctr_mk (t := tX2_readInto) (cl := [19, 28]) (by decide) (tabOK_mk okX2_readInto (by decide +kernel)) (by decide +kernel) (by decide) (fa_cons ⟨7, by decide, ct_X2_readStatement⟩ (fa_cons ⟨3, by decide, ct_X2_scan⟩ fa_nil)) (Nat.le_of_ble_eq_true rfl) (rfl : narrow .int (.int x) = .int x) hn
theorem iX3_mark {as : List AV} {c : CallR} (h : wX3_mark as = some c) : (∃ (a0 : Nat) (a1 : Int32) (a2 : Nat), as = [aR 3 a0, aI a1, aR 0 a2] ∧ c = cRV (fX3_mark a0 a1 a2)) := by
  unfold wX3_mark at h
  split at h
  · exact ⟨_, _, _, rfl, (Option.some.inj h).symm⟩
  · cases h
theorem ct_X3_mark {l : Launch} {D : va_G} {cA : Nat → ClassId} {ov : Value} {aR0 : Nat → Nat → Nat} {B nS : Nat} {xs : Nat → Int32} {q : Nat} : Ctr l D cA ov aR0 B nS xs q 1 31 := by
  intro as c h
  have h : wX3_mark as = some c := h
  rcases iX3_mark h with ⟨a0, a1, a2, rfl, rfl⟩
  · refine ⟨⟨rfl, fun _ => ⟨_, _, rfl⟩⟩, fun m v m' ha => ?_⟩
    obtain ⟨x, hx, rfl⟩ := ha
    rw [fX3_mark_eq] at hx
    obtain ⟨n, hn⟩ := pfX3_mark q (csF_m q) a0 a1 a2 m (x, m') _ hx ⟨0, rfl⟩
    exact ctr_mk (t := tX3_mark) (cl := []) (by decide) (tabOK_mk okX3_mark (by decide +kernel)) (by decide +kernel) (by decide) fa_nil (Nat.le_of_ble_eq_true rfl) trivial hn
theorem iX3_cellAt {as : List AV} {c : CallR} (h : wX3_cellAt as = some c) : (∃ (a0 : Nat) (a1 : Int32), as = [aR 3 a0, aI a1] ∧ c = cRI (fX3_cellAt a0 a1)) := by
  unfold wX3_cellAt at h
  split at h
  · exact ⟨_, _, rfl, (Option.some.inj h).symm⟩
  · cases h
theorem ct_X3_cellAt {l : Launch} {D : va_G} {cA : Nat → ClassId} {ov : Value} {aR0 : Nat → Nat → Nat} {B nS : Nat} {xs : Nat → Int32} {q : Nat} : Ctr l D cA ov aR0 B nS xs q 1 32 := by
  intro as c h
  have h : wX3_cellAt as = some c := h
  rcases iX3_cellAt h with ⟨a0, a1, rfl, rfl⟩
  · refine ⟨⟨rfl, fun _ => ⟨_, _, rfl⟩⟩, fun m v m' ha => ?_⟩
    obtain ⟨x, hx, rfl⟩ := ha
    rw [fX3_cellAt_eq] at hx
    obtain ⟨n, hn⟩ := pfX3_cellAt q (csF_m q) a0 a1 m (x, m') _ hx ⟨0, rfl⟩
    exact ctr_mk (t := tX3_cellAt) (cl := []) (by decide) (tabOK_mk okX3_cellAt (by decide +kernel)) (by decide +kernel) (by decide) fa_nil (Nat.le_of_ble_eq_true rfl) (rfl : narrow .int (.int x) = .int x) hn
theorem iX3_howAt {as : List AV} {c : CallR} (h : wX3_howAt as = some c) : (∃ (a0 : Nat) (a1 : Int32), as = [aR 3 a0, aI a1] ∧ c = cRI (fX3_howAt a0 a1)) := by
  unfold wX3_howAt at h
  split at h
  · exact ⟨_, _, rfl, (Option.some.inj h).symm⟩
  · cases h
theorem ct_X3_howAt {l : Launch} {D : va_G} {cA : Nat → ClassId} {ov : Value} {aR0 : Nat → Nat → Nat} {B nS : Nat} {xs : Nat → Int32} {q : Nat} : Ctr l D cA ov aR0 B nS xs q 1 33 := by
  intro as c h
  have h : wX3_howAt as = some c := h
  rcases iX3_howAt h with ⟨a0, a1, rfl, rfl⟩
  · refine ⟨⟨rfl, fun _ => ⟨_, _, rfl⟩⟩, fun m v m' ha => ?_⟩
    obtain ⟨x, hx, rfl⟩ := ha
    rw [fX3_howAt_eq] at hx
    obtain ⟨n, hn⟩ := pfX3_howAt q (csF_m q) a0 a1 m (x, m') _ hx ⟨0, rfl⟩
    exact ctr_mk (t := tX3_howAt) (cl := []) (by decide) (tabOK_mk okX3_howAt (by decide +kernel)) (by decide +kernel) (by decide) fa_nil (Nat.le_of_ble_eq_true rfl) (rfl : narrow .int (.int x) = .int x) hn
theorem iX3_cellsVisited {as : List AV} {c : CallR} (h : wX3_cellsVisited as = some c) : (∃ (a0 : Nat) (a1 : Int32), as = [aR 3 a0, aI a1] ∧ c = cRI (fX3_cellsVisited a0 a1)) := by
  unfold wX3_cellsVisited at h
  split at h
  · exact ⟨_, _, rfl, (Option.some.inj h).symm⟩
  · cases h
theorem ct_X3_cellsVisited {l : Launch} {D : va_G} {cA : Nat → ClassId} {ov : Value} {aR0 : Nat → Nat → Nat} {B nS : Nat} {xs : Nat → Int32} {q : Nat} : Ctr l D cA ov aR0 B nS xs q 2 34 := by
  intro as c h
  have h : wX3_cellsVisited as = some c := h
  rcases iX3_cellsVisited h with ⟨a0, a1, rfl, rfl⟩
  · refine ⟨⟨rfl, fun _ => ⟨_, _, rfl⟩⟩, fun m v m' ha => ?_⟩
    obtain ⟨x, hx, rfl⟩ := ha
    rw [fX3_cellsVisited_eq] at hx
    obtain ⟨n, hn⟩ := pfX3_cellsVisited q (csF_m q) a0 a1 m (x, m') _ hx ⟨0, rfl⟩
    exact ctr_mk (t := tX3_cellsVisited) (cl := [32]) (by decide) (tabOK_mk okX3_cellsVisited (by decide +kernel)) (by decide +kernel) (by decide) (fa_cons ⟨1, by decide, ct_X3_cellAt⟩ fa_nil) (Nat.le_of_ble_eq_true rfl) (rfl : narrow .int (.int x) = .int x) hn
theorem iX4_become {as : List AV} {c : CallR} (h : wX4_become as = some c) : (∃ (a0 : Nat) (a1 : Nat), as = [aR 4 a0, aR 4 a1] ∧ c = cRV (fX4_become a0 a1)) := by
  unfold wX4_become at h
  split at h
  · exact ⟨_, _, rfl, (Option.some.inj h).symm⟩
  · cases h
theorem ct_X4_become {l : Launch} {D : va_G} {cA : Nat → ClassId} {ov : Value} {aR0 : Nat → Nat → Nat} {B nS : Nat} {xs : Nat → Int32} {q : Nat} : Ctr l D cA ov aR0 B nS xs q 2 37 := by
  intro as c h
  have h : wX4_become as = some c := h
  rcases iX4_become h with ⟨a0, a1, rfl, rfl⟩
  · refine ⟨⟨rfl, fun _ => ⟨_, _, rfl⟩⟩, fun m v m' ha => ?_⟩
    obtain ⟨x, hx, rfl⟩ := ha
    rw [fX4_become_eq] at hx
    obtain ⟨n, hn⟩ := pfX4_become q (csF_m q) a0 a1 m (x, m') _ hx ⟨0, rfl⟩
    exact ctr_mk (t := tX4_become) (cl := [36]) (by decide) (tabOK_mk okX4_become (by decide +kernel)) (by decide +kernel) (by decide) (fa_cons ⟨1, by decide, ct_X4_start⟩ fa_nil) (Nat.le_of_ble_eq_true rfl) trivial hn
theorem iX4_tellOf {as : List AV} {c : CallR} (h : wX4_tellOf as = some c) : (∃ (a0 : Nat) (a1 : Int32), as = [aR 4 a0, aI a1] ∧ c = cRI (fX4_tellOf a0 a1)) := by
  unfold wX4_tellOf at h
  split at h
  · exact ⟨_, _, rfl, (Option.some.inj h).symm⟩
  · cases h
theorem ct_X4_tellOf {l : Launch} {D : va_G} {cA : Nat → ClassId} {ov : Value} {aR0 : Nat → Nat → Nat} {B nS : Nat} {xs : Nat → Int32} {q : Nat} : Ctr l D cA ov aR0 B nS xs q 1 38 := by
  intro as c h
  have h : wX4_tellOf as = some c := h
  rcases iX4_tellOf h with ⟨a0, a1, rfl, rfl⟩
  · refine ⟨⟨rfl, fun _ => ⟨_, _, rfl⟩⟩, fun m v m' ha => ?_⟩
    obtain ⟨x, hx, rfl⟩ := ha
    rw [fX4_tellOf_eq] at hx
    obtain ⟨n, hn⟩ := pfX4_tellOf q (csF_m q) a0 a1 m (x, m') _ hx ⟨0, rfl⟩
    exact ctr_mk (t := tX4_tellOf) (cl := []) (by decide) (tabOK_mk okX4_tellOf (by decide +kernel)) (by decide +kernel) (by decide) fa_nil (Nat.le_of_ble_eq_true rfl) (rfl : narrow .int (.int x) = .int x) hn
theorem iX4_stroll {as : List AV} {c : CallR} (h : wX4_stroll as = some c) : (∃ (a0 : Nat) (a1 : Int32), as = [aR 4 a0, aI a1] ∧ c = cRV (fX4_stroll a0 a1)) := by
  unfold wX4_stroll at h
  split at h
  · exact ⟨_, _, rfl, (Option.some.inj h).symm⟩
  · cases h
theorem ct_X4_stroll {l : Launch} {D : va_G} {cA : Nat → ClassId} {ov : Value} {aR0 : Nat → Nat → Nat} {B nS : Nat} {xs : Nat → Int32} {q : Nat} : Ctr l D cA ov aR0 B nS xs q 1 39 := by
  intro as c h
  have h : wX4_stroll as = some c := h
  rcases iX4_stroll h with ⟨a0, a1, rfl, rfl⟩
  · refine ⟨⟨rfl, fun _ => ⟨_, _, rfl⟩⟩, fun m v m' ha => ?_⟩
    obtain ⟨x, hx, rfl⟩ := ha
    rw [fX4_stroll_eq] at hx
    obtain ⟨n, hn⟩ := pfX4_stroll q (csF_m q) a0 a1 m (x, m') _ hx ⟨0, rfl⟩
    exact ctr_mk (t := tX4_stroll) (cl := []) (by decide) (tabOK_mk okX4_stroll (by decide +kernel)) (by decide +kernel) (by decide) fa_nil (Nat.le_of_ble_eq_true rfl) trivial hn
theorem iX5_flow {as : List AV} {c : CallR} (h : wX5_flow as = some c) : (∃ (a0 : Nat) (a1 : Int32), as = [aR 5 a0, aI a1] ∧ c = cRI (fX5_flow a0 a1)) := by
  unfold wX5_flow at h
  split at h
  · exact ⟨_, _, rfl, (Option.some.inj h).symm⟩
  · cases h
theorem ct_X5_flow {l : Launch} {D : va_G} {cA : Nat → ClassId} {ov : Value} {aR0 : Nat → Nat → Nat} {B nS : Nat} {xs : Nat → Int32} {q : Nat} : Ctr l D cA ov aR0 B nS xs q 1 47 := by
  intro as c h
  have h : wX5_flow as = some c := h
  rcases iX5_flow h with ⟨a0, a1, rfl, rfl⟩
  · refine ⟨⟨rfl, fun _ => ⟨_, _, rfl⟩⟩, fun m v m' ha => ?_⟩
    obtain ⟨x, hx, rfl⟩ := ha
    rw [fX5_flow_eq] at hx
    obtain ⟨n, hn⟩ := pfX5_flow q (csF_m q) a0 a1 m (x, m') _ hx ⟨0, rfl⟩
    exact ctr_mk (t := tX5_flow) (cl := []) (by decide) (tabOK_mk okX5_flow (by decide +kernel)) (by decide +kernel) (by decide) fa_nil (Nat.le_of_ble_eq_true rfl) (rfl : narrow .int (.int x) = .int x) hn
theorem iX5_become {as : List AV} {c : CallR} (h : wX5_become as = some c) : (∃ (a0 : Nat) (a1 : Nat), as = [aR 5 a0, aR 5 a1] ∧ c = cRV (fX5_become a0 a1)) := by
  unfold wX5_become at h
  split at h
  · exact ⟨_, _, rfl, (Option.some.inj h).symm⟩
  · cases h
theorem ct_X5_become {l : Launch} {D : va_G} {cA : Nat → ClassId} {ov : Value} {aR0 : Nat → Nat → Nat} {B nS : Nat} {xs : Nat → Int32} {q : Nat} : Ctr l D cA ov aR0 B nS xs q 3 41 := by
  intro as c h
  have h : wX5_become as = some c := h
  rcases iX5_become h with ⟨a0, a1, rfl, rfl⟩
  · refine ⟨⟨rfl, fun _ => ⟨_, _, rfl⟩⟩, fun m v m' ha => ?_⟩
    obtain ⟨x, hx, rfl⟩ := ha
    rw [fX5_become_eq] at hx
    obtain ⟨n, hn⟩ := pfX5_become q (csF_m q) a0 a1 m (x, m') _ hx ⟨0, rfl⟩
    exact ctr_mk (t := tX5_become) (cl := [2, 37, 42, 43, 47]) (by decide) (tabOK_mk okX5_become (by decide +kernel)) (by decide +kernel) (by decide) (fa_cons ⟨1, by decide, ct_X0_become⟩ (fa_cons ⟨2, by decide, ct_X4_become⟩ (fa_cons ⟨1, by decide, ct_X5_bottleAt⟩ (fa_cons ⟨1, by decide, ct_X5_walkerAt⟩ (fa_cons ⟨1, by decide, ct_X5_flow⟩ fa_nil))))) (Nat.le_of_ble_eq_true rfl) trivial hn
theorem iX5_hasCell {as : List AV} {c : CallR} (h : wX5_hasCell as = some c) : (∃ (a0 : Nat) (a1 : Int32), as = [aR 5 a0, aI a1] ∧ c = cRZ (fX5_hasCell a0 a1)) := by
  unfold wX5_hasCell at h
  split at h
  · exact ⟨_, _, rfl, (Option.some.inj h).symm⟩
  · cases h
theorem ct_X5_hasCell {l : Launch} {D : va_G} {cA : Nat → ClassId} {ov : Value} {aR0 : Nat → Nat → Nat} {B nS : Nat} {xs : Nat → Int32} {q : Nat} : Ctr l D cA ov aR0 B nS xs q 1 44 := by
  intro as c h
  have h : wX5_hasCell as = some c := h
  rcases iX5_hasCell h with ⟨a0, a1, rfl, rfl⟩
  · refine ⟨⟨rfl, fun _ => ⟨_, _, rfl⟩⟩, fun m v m' ha => ?_⟩
    obtain ⟨x, hx, rfl⟩ := ha
    rw [fX5_hasCell_eq] at hx
    obtain ⟨n, hn⟩ := pfX5_hasCell q (csF_m q) a0 a1 m (x, m') _ hx ⟨0, rfl⟩
    exact ctr_mk (t := tX5_hasCell) (cl := []) (by decide) (tabOK_mk okX5_hasCell (by decide +kernel)) (by decide +kernel) (by decide) fa_nil (Nat.le_of_ble_eq_true rfl) (by cases x <;> rfl) hn
theorem iX5_addressedTo {as : List AV} {c : CallR} (h : wX5_addressedTo as = some c) : (∃ (a0 : Nat) (a1 : Int32), as = [aR 5 a0, aI a1] ∧ c = cRI (fX5_addressedTo a0 a1)) := by
  unfold wX5_addressedTo at h
  split at h
  · exact ⟨_, _, rfl, (Option.some.inj h).symm⟩
  · cases h
theorem ct_X5_addressedTo {l : Launch} {D : va_G} {cA : Nat → ClassId} {ov : Value} {aR0 : Nat → Nat → Nat} {B nS : Nat} {xs : Nat → Int32} {q : Nat} : Ctr l D cA ov aR0 B nS xs q 2 51 := by
  intro as c h
  have h : wX5_addressedTo as = some c := h
  rcases iX5_addressedTo h with ⟨a0, a1, rfl, rfl⟩
  · refine ⟨⟨rfl, fun _ => ⟨_, _, rfl⟩⟩, fun m v m' ha => ?_⟩
    obtain ⟨x, hx, rfl⟩ := ha
    rw [fX5_addressedTo_eq] at hx
    obtain ⟨n, hn⟩ := pfX5_addressedTo q (csF_m q) a0 a1 m (x, m') _ hx ⟨0, rfl⟩
    exact ctr_mk (t := tX5_addressedTo) (cl := [42]) (by decide) (tabOK_mk okX5_addressedTo (by decide +kernel)) (by decide +kernel) (by decide) (fa_cons ⟨1, by decide, ct_X5_bottleAt⟩ fa_nil) (Nat.le_of_ble_eq_true rfl) (rfl : narrow .int (.int x) = .int x) hn
theorem iX5_afloatIn {as : List AV} {c : CallR} (h : wX5_afloatIn as = some c) : (∃ (a0 : Nat) (a1 : Int32), as = [aR 5 a0, aI a1] ∧ c = cRI (fX5_afloatIn a0 a1)) := by
  unfold wX5_afloatIn at h
  split at h
  · exact ⟨_, _, rfl, (Option.some.inj h).symm⟩
  · cases h
theorem ct_X5_afloatIn {l : Launch} {D : va_G} {cA : Nat → ClassId} {ov : Value} {aR0 : Nat → Nat → Nat} {B nS : Nat} {xs : Nat → Int32} {q : Nat} : Ctr l D cA ov aR0 B nS xs q 2 52 := by
  intro as c h
  have h : wX5_afloatIn as = some c := h
  rcases iX5_afloatIn h with ⟨a0, a1, rfl, rfl⟩
  · refine ⟨⟨rfl, fun _ => ⟨_, _, rfl⟩⟩, fun m v m' ha => ?_⟩
    obtain ⟨x, hx, rfl⟩ := ha
    rw [fX5_afloatIn_eq] at hx
    obtain ⟨n, hn⟩ := pfX5_afloatIn q (csF_m q) a0 a1 m (x, m') _ hx ⟨0, rfl⟩
    exact ctr_mk (t := tX5_afloatIn) (cl := [42]) (by decide) (tabOK_mk okX5_afloatIn (by decide +kernel)) (by decide +kernel) (by decide) (fa_cons ⟨1, by decide, ct_X5_bottleAt⟩ fa_nil) (Nat.le_of_ble_eq_true rfl) (rfl : narrow .int (.int x) = .int x) hn
theorem iX5_walkersAt {as : List AV} {c : CallR} (h : wX5_walkersAt as = some c) : (∃ (a0 : Nat) (a1 : Int32), as = [aR 5 a0, aI a1] ∧ c = cRI (fX5_walkersAt a0 a1)) := by
  unfold wX5_walkersAt at h
  split at h
  · exact ⟨_, _, rfl, (Option.some.inj h).symm⟩
  · cases h
theorem ct_X5_walkersAt {l : Launch} {D : va_G} {cA : Nat → ClassId} {ov : Value} {aR0 : Nat → Nat → Nat} {B nS : Nat} {xs : Nat → Int32} {q : Nat} : Ctr l D cA ov aR0 B nS xs q 2 53 := by
  intro as c h
  have h : wX5_walkersAt as = some c := h
  rcases iX5_walkersAt h with ⟨a0, a1, rfl, rfl⟩
  · refine ⟨⟨rfl, fun _ => ⟨_, _, rfl⟩⟩, fun m v m' ha => ?_⟩
    obtain ⟨x, hx, rfl⟩ := ha
    rw [fX5_walkersAt_eq] at hx
    obtain ⟨n, hn⟩ := pfX5_walkersAt q (csF_m q) a0 a1 m (x, m') _ hx ⟨0, rfl⟩
    exact ctr_mk (t := tX5_walkersAt) (cl := [43]) (by decide) (tabOK_mk okX5_walkersAt (by decide +kernel)) (by decide +kernel) (by decide) (fa_cons ⟨1, by decide, ct_X5_walkerAt⟩ fa_nil) (Nat.le_of_ble_eq_true rfl) (rfl : narrow .int (.int x) = .int x) hn
theorem iX5_dayBehind {as : List AV} {c : CallR} (h : wX5_dayBehind as = some c) : (∃ (a0 : Nat) (a1 : Int32), as = [aR 5 a0, aI a1] ∧ c = cRI (fX5_dayBehind a0 a1)) := by
  unfold wX5_dayBehind at h
  split at h
  · exact ⟨_, _, rfl, (Option.some.inj h).symm⟩
  · cases h
theorem ct_X5_dayBehind {l : Launch} {D : va_G} {cA : Nat → ClassId} {ov : Value} {aR0 : Nat → Nat → Nat} {B nS : Nat} {xs : Nat → Int32} {q : Nat} : Ctr l D cA ov aR0 B nS xs q 1 54 := by
  intro as c h
  have h : wX5_dayBehind as = some c := h
  rcases iX5_dayBehind h with ⟨a0, a1, rfl, rfl⟩
  · refine ⟨⟨rfl, fun _ => ⟨_, _, rfl⟩⟩, fun m v m' ha => ?_⟩
    obtain ⟨x, hx, rfl⟩ := ha
    rw [fX5_dayBehind_eq] at hx
    obtain ⟨n, hn⟩ := pfX5_dayBehind q (csF_m q) a0 a1 m (x, m') _ hx ⟨0, rfl⟩
    exact ctr_mk (t := tX5_dayBehind) (cl := []) (by decide) (tabOK_mk okX5_dayBehind (by decide +kernel)) (by decide +kernel) (by decide) fa_nil (Nat.le_of_ble_eq_true rfl) (rfl : narrow .int (.int x) = .int x) hn
theorem iX5_push {as : List AV} {c : CallR} (h : wX5_push as = some c) : (∃ (a0 : Nat) (a1 : Nat) (a2 : Int32), as = [aR 5 a0, aR 0 a1, aI a2] ∧ c = cRI (fX5_push a0 a1 a2)) := by
  unfold wX5_push at h
  split at h
  · exact ⟨_, _, _, rfl, (Option.some.inj h).symm⟩
  · cases h
theorem ct_X5_push {l : Launch} {D : va_G} {cA : Nat → ClassId} {ov : Value} {aR0 : Nat → Nat → Nat} {B nS : Nat} {xs : Nat → Int32} {q : Nat} : Ctr l D cA ov aR0 B nS xs q 2 55 := by
  intro as c h
  have h : wX5_push as = some c := h
  rcases iX5_push h with ⟨a0, a1, a2, rfl, rfl⟩
  · refine ⟨⟨rfl, fun _ => ⟨_, _, rfl⟩⟩, fun m v m' ha => ?_⟩
    obtain ⟨x, hx, rfl⟩ := ha
    rw [fX5_push_eq] at hx
    obtain ⟨n, hn⟩ := pfX5_push q (csF_m q) a0 a1 a2 m (x, m') _ hx ⟨0, rfl⟩
    exact ctr_mk (t := tX5_push) (cl := [47]) (by decide) (tabOK_mk okX5_push (by decide +kernel)) (by decide +kernel) (by decide) (fa_cons ⟨1, by decide, ct_X5_flow⟩ fa_nil) (Nat.le_of_ble_eq_true rfl) (rfl : narrow .int (.int x) = .int x) hn
theorem iX5_spend {as : List AV} {c : CallR} (h : wX5_spend as = some c) : (∃ (a0 : Nat) (a1 : Nat) (a2 : Int32) (a3 : Int32), as = [aR 5 a0, aR 0 a1, aI a2, aI a3] ∧ c = cRV (fX5_spend a0 a1 a2 a3)) := by
  unfold wX5_spend at h
  split at h
  · exact ⟨_, _, _, _, rfl, (Option.some.inj h).symm⟩
  · cases h
theorem ct_X5_spend {l : Launch} {D : va_G} {cA : Nat → ClassId} {ov : Value} {aR0 : Nat → Nat → Nat} {B nS : Nat} {xs : Nat → Int32} {q : Nat} : Ctr l D cA ov aR0 B nS xs q 3 56 := by
  intro as c h
  have h : wX5_spend as = some c := h
  rcases iX5_spend h with ⟨a0, a1, a2, a3, rfl, rfl⟩
  · refine ⟨⟨rfl, fun _ => ⟨_, _, rfl⟩⟩, fun m v m' ha => ?_⟩
    obtain ⟨x, hx, rfl⟩ := ha
    rw [fX5_spend_eq] at hx
    obtain ⟨n, hn⟩ := pfX5_spend q (csF_m q) a0 a1 a2 a3 m (x, m') _ hx ⟨0, rfl⟩
    exact ctr_mk (t := tX5_spend) (cl := [55, 123]) (by decide) (tabOK_mk okX5_spend (by decide +kernel)) (by decide +kernel) (by decide) (fa_cons ⟨2, by decide, ct_X5_push⟩ (fa_cons ⟨1, by decide, ct_X6_toughnessOf⟩ fa_nil)) (Nat.le_of_ble_eq_true rfl) trivial hn
theorem iX5_follow {as : List AV} {c : CallR} (h : wX5_follow as = some c) : (∃ (a0 : Nat) (a1 : Nat) (a2 : Nat) (a4 : Int32), as = [aR 5 a0, aR 3 a1, aR 0 a2, aN, aI a4] ∧ c = cRV (fX5_follow a0 a1 a2 none a4)) ∨ (∃ (a0 : Nat) (a1 : Nat) (a2 : Nat) (a3 : Nat) (a4 : Int32), as = [aR 5 a0, aR 3 a1, aR 0 a2, aR 4 a3, aI a4] ∧ c = cRV (fX5_follow a0 a1 a2 (some a3) a4)) := by
  unfold wX5_follow at h
  split at h
  · exact Or.inl ⟨_, _, _, _, rfl, (Option.some.inj h).symm⟩
  · exact Or.inr ⟨_, _, _, _, _, rfl, (Option.some.inj h).symm⟩
  · cases h
theorem ct_X5_follow {l : Launch} {D : va_G} {cA : Nat → ClassId} {ov : Value} {aR0 : Nat → Nat → Nat} {B nS : Nat} {xs : Nat → Int32} {q : Nat} : Ctr l D cA ov aR0 B nS xs q 4 57 := by
  intro as c h
  have h : wX5_follow as = some c := h
  rcases iX5_follow h with ⟨a0, a1, a2, a4, rfl, rfl⟩ | ⟨a0, a1, a2, a3, a4, rfl, rfl⟩
  · refine ⟨⟨rfl, fun _ => ⟨_, _, rfl⟩⟩, fun m v m' ha => ?_⟩
    obtain ⟨x, hx, rfl⟩ := ha
    rw [fX5_follow_eq] at hx
    obtain ⟨n, hn⟩ := pfX5_follow0 q (csF_m q) a0 a1 a2 a4 m (x, m') _ hx ⟨0, rfl⟩
    exact ctr_mk (t := tX5_follow) (cl := [2, 31, 37, 39, 54, 56]) (by decide) (tabOK_mk okX5_follow (by decide +kernel)) (by decide +kernel) (by decide) (fa_cons ⟨1, by decide, ct_X0_become⟩ (fa_cons ⟨1, by decide, ct_X3_mark⟩ (fa_cons ⟨2, by decide, ct_X4_become⟩ (fa_cons ⟨1, by decide, ct_X4_stroll⟩ (fa_cons ⟨1, by decide, ct_X5_dayBehind⟩ (fa_cons ⟨3, by decide, ct_X5_spend⟩ fa_nil)))))) (Nat.le_of_ble_eq_true rfl) trivial hn
  · refine ⟨⟨rfl, fun _ => ⟨_, _, rfl⟩⟩, fun m v m' ha => ?_⟩
    obtain ⟨x, hx, rfl⟩ := ha
    rw [fX5_follow_eq] at hx
    obtain ⟨n, hn⟩ := pfX5_follow1 q (csF_m q) a0 a1 a2 a3 a4 m (x, m') _ hx ⟨0, rfl⟩
    exact ctr_mk (t := tX5_follow) (cl := [2, 31, 37, 39, 54, 56]) (by decide) (tabOK_mk okX5_follow (by decide +kernel)) (by decide +kernel) (by decide) (fa_cons ⟨1, by decide, ct_X0_become⟩ (fa_cons ⟨1, by decide, ct_X3_mark⟩ (fa_cons ⟨2, by decide, ct_X4_become⟩ (fa_cons ⟨1, by decide, ct_X4_stroll⟩ (fa_cons ⟨1, by decide, ct_X5_dayBehind⟩ (fa_cons ⟨3, by decide, ct_X5_spend⟩ fa_nil)))))) (Nat.le_of_ble_eq_true rfl) trivial hn
