/-! CONTRACTS, 1 -/
theorem iX5_soonest {as : List AV} {c : CallR} (h : wX5_soonest as = some c) : (∃ (a0 : Nat) (a1 : Nat) (a3 : Int32), as = [aR 5 a0, aR 0 a1, aN, aI a3] ∧ c = cRI (fX5_soonest a0 a1 none a3)) ∨ (∃ (a0 : Nat) (a1 : Nat) (a2 : Nat) (a3 : Int32), as = [aR 5 a0, aR 0 a1, aR 4 a2, aI a3] ∧ c = cRI (fX5_soonest a0 a1 (some a2) a3)) := by
  unfold wX5_soonest at h
  split at h
  · exact Or.inl ⟨_, _, _, rfl, (Option.some.inj h).symm⟩
  · exact Or.inr ⟨_, _, _, _, rfl, (Option.some.inj h).symm⟩
  · cases h
theorem ct_X5_soonest {l : Launch} {D : va_G} {cA : Nat → ClassId} {ov : Value} {aR0 : Nat → Nat → Nat} {B nS : Nat} {xs : Nat → Int32} {q : Nat} : Ctr l D cA ov aR0 B nS xs q 4 58 := by
  intro as c h
  have h : wX5_soonest as = some c := h
  rcases iX5_soonest h with ⟨a0, a1, a3, rfl, rfl⟩ | ⟨a0, a1, a2, a3, rfl, rfl⟩
  · refine ⟨⟨rfl, fun _ => ⟨_, _, rfl⟩⟩, fun m v m' ha => ?_⟩
    obtain ⟨x, hx, rfl⟩ := ha
    rw [fX5_soonest_eq] at hx
    obtain ⟨n, hn⟩ := pfX5_soonest0 q (csF_m q) a0 a1 a3 m (x, m') _ hx ⟨0, rfl⟩
    exact ctr_mk (t := tX5_soonest) (cl := [2, 37, 39, 54, 56]) (by decide) (tabOK_mk okX5_soonest (by decide +kernel)) (by decide +kernel) (by decide) (fa_cons ⟨1, by decide, ct_X0_become⟩ (fa_cons ⟨2, by decide, ct_X4_become⟩ (fa_cons ⟨1, by decide, ct_X4_stroll⟩ (fa_cons ⟨1, by decide, ct_X5_dayBehind⟩ (fa_cons ⟨3, by decide, ct_X5_spend⟩ fa_nil))))) (Nat.le_of_ble_eq_true rfl) (rfl : narrow .int (.int x) = .int x) hn
  · refine ⟨⟨rfl, fun _ => ⟨_, _, rfl⟩⟩, fun m v m' ha => ?_⟩
    obtain ⟨x, hx, rfl⟩ := ha
    rw [fX5_soonest_eq] at hx
    obtain ⟨n, hn⟩ := pfX5_soonest1 q (csF_m q) a0 a1 a2 a3 m (x, m') _ hx ⟨0, rfl⟩
    exact ctr_mk (t := tX5_soonest) (cl := [2, 37, 39, 54, 56]) (by decide) (tabOK_mk okX5_soonest (by decide +kernel)) (by decide +kernel) (by decide) (fa_cons ⟨1, by decide, ct_X0_become⟩ (fa_cons ⟨2, by decide, ct_X4_become⟩ (fa_cons ⟨1, by decide, ct_X4_stroll⟩ (fa_cons ⟨1, by decide, ct_X5_dayBehind⟩ (fa_cons ⟨3, by decide, ct_X5_spend⟩ fa_nil))))) (Nat.le_of_ble_eq_true rfl) (rfl : narrow .int (.int x) = .int x) hn
theorem iX5_daysTillFound {as : List AV} {c : CallR} (h : wX5_daysTillFound as = some c) : (∃ (a0 : Nat) (a1 : Nat), as = [aR 5 a0, aR 0 a1] ∧ c = cRI (fX5_daysTillFound a0 a1)) := by
  unfold wX5_daysTillFound at h
  split at h
  · exact ⟨_, _, rfl, (Option.some.inj h).symm⟩
  · cases h
theorem ct_X5_daysTillFound {l : Launch} {D : va_G} {cA : Nat → ClassId} {ov : Value} {aR0 : Nat → Nat → Nat} {B nS : Nat} {xs : Nat → Int32} {q : Nat} : Ctr l D cA ov aR0 B nS xs q 5 59 := by
  intro as c h
  have h : wX5_daysTillFound as = some c := h
  rcases iX5_daysTillFound h with ⟨a0, a1, rfl, rfl⟩
  · refine ⟨⟨rfl, fun _ => ⟨_, _, rfl⟩⟩, fun m v m' ha => ?_⟩
    obtain ⟨x, hx, rfl⟩ := ha
    rw [fX5_daysTillFound_eq] at hx
    obtain ⟨n, hn⟩ := pfX5_daysTillFound q (csF_m q) a0 a1 m (x, m') _ hx ⟨0, rfl⟩
    exact ctr_mk (t := tX5_daysTillFound) (cl := [43, 58]) (by decide) (tabOK_mk okX5_daysTillFound (by decide +kernel)) (by decide +kernel) (by decide) (fa_cons ⟨1, by decide, ct_X5_walkerAt⟩ (fa_cons ⟨4, by decide, ct_X5_soonest⟩ fa_nil)) (Nat.le_of_ble_eq_true rfl) (rfl : narrow .int (.int x) = .int x) hn
theorem iX5_countFound {as : List AV} {c : CallR} (h : wX5_countFound as = some c) : (∃ (a0 : Nat) (a1 : Int32), as = [aR 5 a0, aI a1] ∧ c = cRI (fX5_countFound a0 a1)) := by
  unfold wX5_countFound at h
  split at h
  · exact ⟨_, _, rfl, (Option.some.inj h).symm⟩
  · cases h
theorem ct_X5_countFound {l : Launch} {D : va_G} {cA : Nat → ClassId} {ov : Value} {aR0 : Nat → Nat → Nat} {B nS : Nat} {xs : Nat → Int32} {q : Nat} : Ctr l D cA ov aR0 B nS xs q 5 60 := by
  intro as c h
  have h : wX5_countFound as = some c := h
  rcases iX5_countFound h with ⟨a0, a1, rfl, rfl⟩
  · refine ⟨⟨rfl, fun _ => ⟨_, _, rfl⟩⟩, fun m v m' ha => ?_⟩
    obtain ⟨x, hx, rfl⟩ := ha
    rw [fX5_countFound_eq] at hx
    obtain ⟨n, hn⟩ := pfX5_countFound q (csF_m q) a0 a1 m (x, m') _ hx ⟨0, rfl⟩
    exact ctr_mk (t := tX5_countFound) (cl := [42, 43, 58]) (by decide) (tabOK_mk okX5_countFound (by decide +kernel)) (by decide +kernel) (by decide) (fa_cons ⟨1, by decide, ct_X5_bottleAt⟩ (fa_cons ⟨1, by decide, ct_X5_walkerAt⟩ (fa_cons ⟨4, by decide, ct_X5_soonest⟩ fa_nil))) (Nat.le_of_ble_eq_true rfl) (rfl : narrow .int (.int x) = .int x) hn
theorem iX5_passDay {as : List AV} {c : CallR} (h : wX5_passDay as = some c) : (∃ (a0 : Nat), as = [aR 5 a0] ∧ c = cRI (fX5_passDay a0)) := by
  unfold wX5_passDay at h
  split at h
  · exact ⟨_, rfl, (Option.some.inj h).symm⟩
  · cases h
theorem ct_X5_passDay {l : Launch} {D : va_G} {cA : Nat → ClassId} {ov : Value} {aR0 : Nat → Nat → Nat} {B nS : Nat} {xs : Nat → Int32} {q : Nat} : Ctr l D cA ov aR0 B nS xs q 4 61 := by
  intro as c h
  have h : wX5_passDay as = some c := h
  rcases iX5_passDay h with ⟨a0, rfl, rfl⟩
  · refine ⟨⟨rfl, fun _ => ⟨_, _, rfl⟩⟩, fun m v m' ha => ?_⟩
    obtain ⟨x, hx, rfl⟩ := ha
    rw [fX5_passDay_eq] at hx
    obtain ⟨n, hn⟩ := pfX5_passDay q (csF_m q) a0 m (x, m') _ hx ⟨0, rfl⟩
    exact ctr_mk (t := tX5_passDay) (cl := [39, 42, 43, 54, 56]) (by decide) (tabOK_mk okX5_passDay (by decide +kernel)) (by decide +kernel) (by decide) (fa_cons ⟨1, by decide, ct_X4_stroll⟩ (fa_cons ⟨1, by decide, ct_X5_bottleAt⟩ (fa_cons ⟨1, by decide, ct_X5_walkerAt⟩ (fa_cons ⟨1, by decide, ct_X5_dayBehind⟩ (fa_cons ⟨3, by decide, ct_X5_spend⟩ fa_nil))))) (Nat.le_of_ble_eq_true rfl) (rfl : narrow .int (.int x) = .int x) hn
theorem iX5_draw {as : List AV} {c : CallR} (h : wX5_draw as = some c) : (∃ (a0 : Nat) (a1 : Int32), as = [aR 5 a0, aI a1] ∧ c = cRI (fX5_draw a0 a1)) := by
  unfold wX5_draw at h
  split at h
  · exact ⟨_, _, rfl, (Option.some.inj h).symm⟩
  · cases h
theorem ct_X5_draw {l : Launch} {D : va_G} {cA : Nat → ClassId} {ov : Value} {aR0 : Nat → Nat → Nat} {B nS : Nat} {xs : Nat → Int32} {q : Nat} : Ctr l D cA ov aR0 B nS xs q 1 63 := by
  intro as c h
  have h : wX5_draw as = some c := h
  rcases iX5_draw h with ⟨a0, a1, rfl, rfl⟩
  · refine ⟨⟨rfl, fun _ => ⟨_, _, rfl⟩⟩, fun m v m' ha => ?_⟩
    obtain ⟨x, hx, rfl⟩ := ha
    rw [fX5_draw_eq] at hx
    obtain ⟨n, hn⟩ := pfX5_draw q (csF_m q) a0 a1 m (x, m') _ hx ⟨0, rfl⟩
    exact ctr_mk (t := tX5_draw) (cl := []) (by decide) (tabOK_mk okX5_draw (by decide +kernel)) (by decide +kernel) (by decide) fa_nil (Nat.le_of_ble_eq_true rfl) (rfl : narrow .int (.int x) = .int x) hn
theorem iX5_passDrawnDay {as : List AV} {c : CallR} (h : wX5_passDrawnDay as = some c) : (∃ (a0 : Nat), as = [aR 5 a0] ∧ c = cRI (fX5_passDrawnDay a0)) := by
  unfold wX5_passDrawnDay at h
  split at h
  · exact ⟨_, rfl, (Option.some.inj h).symm⟩
  · cases h
theorem ct_X5_passDrawnDay {l : Launch} {D : va_G} {cA : Nat → ClassId} {ov : Value} {aR0 : Nat → Nat → Nat} {B nS : Nat} {xs : Nat → Int32} {q : Nat} : Ctr l D cA ov aR0 B nS xs q 5 62 := by
  intro as c h
  have h : wX5_passDrawnDay as = some c := h
  rcases iX5_passDrawnDay h with ⟨a0, rfl, rfl⟩
  · refine ⟨⟨rfl, fun _ => ⟨_, _, rfl⟩⟩, fun m v m' ha => ?_⟩
    obtain ⟨x, hx, rfl⟩ := ha
    rw [fX5_passDrawnDay_eq] at hx
    obtain ⟨n, hn⟩ := pfX5_passDrawnDay q (csF_m q) a0 m (x, m') _ hx ⟨0, rfl⟩
    exact ctr_mk (t := tX5_passDrawnDay) (cl := [42, 61, 63]) (by decide) (tabOK_mk okX5_passDrawnDay (by decide +kernel)) (by decide +kernel) (by decide) (fa_cons ⟨1, by decide, ct_X5_bottleAt⟩ (fa_cons ⟨4, by decide, ct_X5_passDay⟩ (fa_cons ⟨1, by decide, ct_X5_draw⟩ fa_nil))) (Nat.le_of_ble_eq_true rfl) (rfl : narrow .int (.int x) = .int x) hn
theorem iX6_refuse {as : List AV} {c : CallR} (h : wX6_refuse as = some c) : (∃ (a0 : Nat) (a1 : Int32), as = [aR 6 a0, aI a1] ∧ c = cRI (fX6_refuse a0 a1)) := by
  unfold wX6_refuse at h
  split at h
  · exact ⟨_, _, rfl, (Option.some.inj h).symm⟩
  · cases h
theorem ct_X6_refuse {l : Launch} {D : va_G} {cA : Nat → ClassId} {ov : Value} {aR0 : Nat → Nat → Nat} {B nS : Nat} {xs : Nat → Int32} {q : Nat} : Ctr l D cA ov aR0 B nS xs q 1 124 := by
  intro as c h
  have h : wX6_refuse as = some c := h
  rcases iX6_refuse h with ⟨a0, a1, rfl, rfl⟩
  · refine ⟨⟨rfl, fun _ => ⟨_, _, rfl⟩⟩, fun m v m' ha => ?_⟩
    obtain ⟨x, hx, rfl⟩ := ha
    rw [fX6_refuse_eq] at hx
    obtain ⟨n, hn⟩ := pfX6_refuse q (csF_m q) a0 a1 m (x, m') _ hx ⟨0, rfl⟩
    exact ctr_mk (t := tX6_refuse) (cl := []) (by decide) (tabOK_mk okX6_refuse (by decide +kernel)) (by decide +kernel) (by decide) fa_nil (Nat.le_of_ble_eq_true rfl) (rfl : narrow .int (.int x) = .int x) hn
theorem iX6_shelfAt {as : List AV} {c : CallR} (h : wX6_shelfAt as = some c) : (∃ (a0 : Nat) (a1 : Int32), as = [aR 6 a0, aI a1] ∧ c = cRO 1 (fX6_shelfAt a0 a1)) := by
  unfold wX6_shelfAt at h
  split at h
  · exact ⟨_, _, rfl, (Option.some.inj h).symm⟩
  · cases h
theorem ct_X6_shelfAt {l : Launch} {D : va_G} {cA : Nat → ClassId} {ov : Value} {aR0 : Nat → Nat → Nat} {B nS : Nat} {xs : Nat → Int32} {q : Nat} : Ctr l D cA ov aR0 B nS xs q 1 125 := by
  intro as c h
  have h : wX6_shelfAt as = some c := h
  rcases iX6_shelfAt h with ⟨a0, a1, rfl, rfl⟩
  · refine ⟨⟨rfl, fun _ => ⟨_, _, rfl⟩⟩, fun m v m' ha => ?_⟩
    obtain ⟨x, hx, rfl⟩ := ha
    rw [fX6_shelfAt_eq] at hx
    cases x with
    | none =>
      obtain ⟨n, hn⟩ := pfX6_shelfAt q (csF_m q) a0 a1 m (none, m') _ hx ⟨0, rfl⟩
      exact ctr_mk (t := tX6_shelfAt) (cl := []) (by decide) (tabOK_mk okX6_shelfAt (by decide +kernel)) (by decide +kernel) (by decide) fa_nil (Nat.le_of_ble_eq_true rfl) trivial hn
    | some i =>
      obtain ⟨n, hn⟩ := pfX6_shelfAt q (csF_m q) a0 a1 m (some i, m') _ hx ⟨0, rfl⟩
      exact ctr_mk (t := tX6_shelfAt) (cl := []) (by decide) (tabOK_mk okX6_shelfAt (by decide +kernel)) (by decide +kernel) (by decide) fa_nil (Nat.le_of_ble_eq_true rfl) trivial hn
theorem iX6_within {as : List AV} {c : CallR} (h : wX6_within as = some c) : (∃ (a0 : Int32) (a1 : Int32) (a2 : Int32), as = [aI a0, aI a1, aI a2] ∧ c = cRZ (fX6_within a0 a1 a2)) := by
  unfold wX6_within at h
  split at h
  · exact ⟨_, _, _, rfl, (Option.some.inj h).symm⟩
  · cases h
theorem ct_X6_within {l : Launch} {D : va_G} {cA : Nat → ClassId} {ov : Value} {aR0 : Nat → Nat → Nat} {B nS : Nat} {xs : Nat → Int32} {q : Nat} : Ctr l D cA ov aR0 B nS xs q 1 120 := by
  intro as c h
  have h : wX6_within as = some c := h
  rcases iX6_within h with ⟨a0, a1, a2, rfl, rfl⟩
  · refine ⟨⟨rfl, fun h => absurd h (by decide)⟩, fun m v m' ha => ?_⟩
    obtain ⟨x, hx, rfl⟩ := ha
    rw [fX6_within_eq] at hx
    obtain ⟨n, hn⟩ := pfX6_within q (csF_m q) a0 a1 a2 m (x, m') _ hx ⟨0, rfl⟩
    exact ctr_mk (t := tX6_within) (cl := []) (by decide) (tabOK_mk okX6_within (by decide +kernel)) (by decide +kernel) (by decide) fa_nil (Nat.le_of_ble_eq_true rfl) (by cases x <;> rfl) hn
theorem iX6_row {as : List AV} {c : CallR} (h : wX6_row as = some c) : (∃ (a0 : Nat) (a1 : Int32) (a2 : Int32) (a3 : Int32), as = [aR 6 a0, aI a1, aI a2, aI a3] ∧ c = cRI (fX6_row a0 a1 a2 a3)) := by
  unfold wX6_row at h
  split at h
  · exact ⟨_, _, _, _, rfl, (Option.some.inj h).symm⟩
  · cases h
theorem ct_X6_row {l : Launch} {D : va_G} {cA : Nat → ClassId} {ov : Value} {aR0 : Nat → Nat → Nat} {B nS : Nat} {xs : Nat → Int32} {q : Nat} : Ctr l D cA ov aR0 B nS xs q 2 65 := by
  intro as c h
  have h : wX6_row as = some c := h
  rcases iX6_row h with ⟨a0, a1, a2, a3, rfl, rfl⟩
  · refine ⟨⟨rfl, fun _ => ⟨_, _, rfl⟩⟩, fun m v m' ha => ?_⟩
    obtain ⟨x, hx, rfl⟩ := ha
    rw [fX6_row_eq] at hx
    obtain ⟨n, hn⟩ := pfX6_row q (csF_m q) a0 a1 a2 a3 m (x, m') _ hx ⟨0, rfl⟩
    exact ctr_mk (t := tX6_row) (cl := [11, 120, 124, 125]) (by decide) (tabOK_mk okX6_row (by decide +kernel)) (by decide +kernel) (by decide) (fa_cons ⟨1, by decide, ct_X1_startRow⟩ (fa_cons ⟨1, by decide, ct_X6_within⟩ (fa_cons ⟨1, by decide, ct_X6_refuse⟩ (fa_cons ⟨1, by decide, ct_X6_shelfAt⟩ fa_nil)))) (Nat.le_of_ble_eq_true rfl) (rfl : narrow .int (.int x) = .int x) hn
theorem iX6_set {as : List AV} {c : CallR} (h : wX6_set as = some c) : (∃ (a0 : Nat) (a1 : Int32) (a2 : Int32) (a3 : Int64), as = [aR 6 a0, aI a1, aI a2, aL a3] ∧ c = cRI (fX6_set a0 a1 a2 a3)) := by
  unfold wX6_set at h
  split at h
  · exact ⟨_, _, _, _, rfl, (Option.some.inj h).symm⟩
  · cases h
theorem ct_X6_set {l : Launch} {D : va_G} {cA : Nat → ClassId} {ov : Value} {aR0 : Nat → Nat → Nat} {B nS : Nat} {xs : Nat → Int32} {q : Nat} : Ctr l D cA ov aR0 B nS xs q 3 66 := by
  intro as c h
  have h : wX6_set as = some c := h
  rcases iX6_set h with ⟨a0, a1, a2, a3, rfl, rfl⟩
  · refine ⟨⟨rfl, fun _ => ⟨_, _, rfl⟩⟩, fun m v m' ha => ?_⟩
    obtain ⟨x, hx, rfl⟩ := ha
    rw [fX6_set_eq] at hx
    obtain ⟨n, hn⟩ := pfX6_set q (csF_m q) a0 a1 a2 a3 m (x, m') _ hx ⟨0, rfl⟩
    exact ctr_mk (t := tX6_set) (cl := [6, 8, 9, 12, 124, 125]) (by decide) (tabOK_mk okX6_set (by decide +kernel)) (by decide +kernel) (by decide) (fa_cons ⟨1, by decide, ct_X1_isRow⟩ (fa_cons ⟨2, by decide, ct_X1_whyNoRow⟩ (fa_cons ⟨1, by decide, ct_X1_hasPlace⟩ (fa_cons ⟨2, by decide, ct_X1_put⟩ (fa_cons ⟨1, by decide, ct_X6_refuse⟩ (fa_cons ⟨1, by decide, ct_X6_shelfAt⟩ fa_nil)))))) (Nat.le_of_ble_eq_true rfl) (rfl : narrow .int (.int x) = .int x) hn
theorem iX6_copy {as : List AV} {c : CallR} (h : wX6_copy as = some c) : (∃ (a0 : Nat) (a1 : Int32) (a2 : Int32) (a3 : Int32) (a4 : Int32) (a5 : Int32), as = [aR 6 a0, aI a1, aI a2, aI a3, aI a4, aI a5] ∧ c = cRI (fX6_copy a0 a1 a2 a3 a4 a5)) := by
  unfold wX6_copy at h
  split at h
  · exact ⟨_, _, _, _, _, _, rfl, (Option.some.inj h).symm⟩
  · cases h
theorem ct_X6_copy {l : Launch} {D : va_G} {cA : Nat → ClassId} {ov : Value} {aR0 : Nat → Nat → Nat} {B nS : Nat} {xs : Nat → Int32} {q : Nat} : Ctr l D cA ov aR0 B nS xs q 2 67 := by
  intro as c h
  have h : wX6_copy as = some c := h
  rcases iX6_copy h with ⟨a0, a1, a2, a3, a4, a5, rfl, rfl⟩
  · refine ⟨⟨rfl, fun _ => ⟨_, _, rfl⟩⟩, fun m v m' ha => ?_⟩
    obtain ⟨x, hx, rfl⟩ := ha
    rw [fX6_copy_eq] at hx
    obtain ⟨n, hn⟩ := pfX6_copy q (csF_m q) a0 a1 a2 a3 a4 a5 m (x, m') _ hx ⟨0, rfl⟩
    exact ctr_mk (t := tX6_copy) (cl := [6, 7, 10, 124, 125]) (by decide) (tabOK_mk okX6_copy (by decide +kernel)) (by decide +kernel) (by decide) (fa_cons ⟨1, by decide, ct_X1_isRow⟩ (fa_cons ⟨1, by decide, ct_X1_isBottle⟩ (fa_cons ⟨1, by decide, ct_X1_hasSpan⟩ (fa_cons ⟨1, by decide, ct_X6_refuse⟩ (fa_cons ⟨1, by decide, ct_X6_shelfAt⟩ fa_nil))))) (Nat.le_of_ble_eq_true rfl) (rfl : narrow .int (.int x) = .int x) hn
theorem iX6_element {as : List AV} {c : CallR} (h : wX6_element as = some c) : (∃ (a0 : Nat) (a1 : Int32) (a2 : Int32), as = [aR 6 a0, aI a1, aI a2] ∧ c = cRJ (fX6_element a0 a1 a2)) := by
  unfold wX6_element at h
  split at h
  · exact ⟨_, _, _, rfl, (Option.some.inj h).symm⟩
  · cases h
theorem ct_X6_element {l : Launch} {D : va_G} {cA : Nat → ClassId} {ov : Value} {aR0 : Nat → Nat → Nat} {B nS : Nat} {xs : Nat → Int32} {q : Nat} : Ctr l D cA ov aR0 B nS xs q 3 68 := by
  intro as c h
  have h : wX6_element as = some c := h
  rcases iX6_element h with ⟨a0, a1, a2, rfl, rfl⟩
  · refine ⟨⟨rfl, fun _ => ⟨_, _, rfl⟩⟩, fun m v m' ha => ?_⟩
    obtain ⟨x, hx, rfl⟩ := ha
    rw [fX6_element_eq] at hx
    obtain ⟨n, hn⟩ := pfX6_element q (csF_m q) a0 a1 a2 m (x, m') _ hx ⟨0, rfl⟩
    exact ctr_mk (t := tX6_element) (cl := [13, 125]) (by decide) (tabOK_mk okX6_element (by decide +kernel)) (by decide +kernel) (by decide) (fa_cons ⟨2, by decide, ct_X1_take⟩ (fa_cons ⟨1, by decide, ct_X6_shelfAt⟩ fa_nil)) (Nat.le_of_ble_eq_true rfl) trivial hn
theorem iX6_holds {as : List AV} {c : CallR} (h : wX6_holds as = some c) : (∃ (a0 : Nat) (a1 : Int32), as = [aR 6 a0, aI a1] ∧ c = cRI (fX6_holds a0 a1)) := by
  unfold wX6_holds at h
  split at h
  · exact ⟨_, _, rfl, (Option.some.inj h).symm⟩
  · cases h
theorem ct_X6_holds {l : Launch} {D : va_G} {cA : Nat → ClassId} {ov : Value} {aR0 : Nat → Nat → Nat} {B nS : Nat} {xs : Nat → Int32} {q : Nat} : Ctr l D cA ov aR0 B nS xs q 2 69 := by
  intro as c h
  have h : wX6_holds as = some c := h
  rcases iX6_holds h with ⟨a0, a1, rfl, rfl⟩
  · refine ⟨⟨rfl, fun _ => ⟨_, _, rfl⟩⟩, fun m v m' ha => ?_⟩
    obtain ⟨x, hx, rfl⟩ := ha
    rw [fX6_holds_eq] at hx
    obtain ⟨n, hn⟩ := pfX6_holds q (csF_m q) a0 a1 m (x, m') _ hx ⟨0, rfl⟩
    exact ctr_mk (t := tX6_holds) (cl := [125]) (by decide) (tabOK_mk okX6_holds (by decide +kernel)) (by decide +kernel) (by decide) (fa_cons ⟨1, by decide, ct_X6_shelfAt⟩ fa_nil) (Nat.le_of_ble_eq_true rfl) (rfl : narrow .int (.int x) = .int x) hn
theorem iX6_show {as : List AV} {c : CallR} (h : wX6_show as = some c) : (∃ (a0 : Nat) (a1 : Int32) (a2 : Int32), as = [aR 6 a0, aI a1, aI a2] ∧ c = cRI (fX6_show a0 a1 a2)) := by
  unfold wX6_show at h
  split at h
  · exact ⟨_, _, _, rfl, (Option.some.inj h).symm⟩
  · cases h
theorem ct_X6_show {l : Launch} {D : va_G} {cA : Nat → ClassId} {ov : Value} {aR0 : Nat → Nat → Nat} {B nS : Nat} {xs : Nat → Int32} {q : Nat} : Ctr l D cA ov aR0 B nS xs q 2 70 := by
  intro as c h
  have h : wX6_show as = some c := h
  rcases iX6_show h with ⟨a0, a1, a2, rfl, rfl⟩
  · refine ⟨⟨rfl, fun _ => ⟨_, _, rfl⟩⟩, fun m v m' ha => ?_⟩
    obtain ⟨x, hx, rfl⟩ := ha
    rw [fX6_show_eq] at hx
    obtain ⟨n, hn⟩ := pfX6_show q (csF_m q) a0 a1 a2 m (x, m') _ hx ⟨0, rfl⟩
    exact ctr_mk (t := tX6_show) (cl := [42, 124, 125]) (by decide) (tabOK_mk okX6_show (by decide +kernel)) (by decide +kernel) (by decide) (fa_cons ⟨1, by decide, ct_X5_bottleAt⟩ (fa_cons ⟨1, by decide, ct_X6_refuse⟩ (fa_cons ⟨1, by decide, ct_X6_shelfAt⟩ fa_nil))) (Nat.le_of_ble_eq_true rfl) (rfl : narrow .int (.int x) = .int x) hn
theorem iX6_isKind {as : List AV} {c : CallR} (h : wX6_isKind as = some c) : (∃ (a0 : Int32), as = [aI a0] ∧ c = cRZ (fX6_isKind a0)) := by
  unfold wX6_isKind at h
  split at h
  · exact ⟨_, rfl, (Option.some.inj h).symm⟩
  · cases h
theorem ct_X6_isKind {l : Launch} {D : va_G} {cA : Nat → ClassId} {ov : Value} {aR0 : Nat → Nat → Nat} {B nS : Nat} {xs : Nat → Int32} {q : Nat} : Ctr l D cA ov aR0 B nS xs q 2 121 := by
  intro as c h
  have h : wX6_isKind as = some c := h
  rcases iX6_isKind h with ⟨a0, rfl, rfl⟩
  · refine ⟨⟨rfl, fun h => absurd h (by decide)⟩, fun m v m' ha => ?_⟩
    obtain ⟨x, hx, rfl⟩ := ha
    rw [fX6_isKind_eq] at hx
    obtain ⟨n, hn⟩ := pfX6_isKind q (csF_m q) a0 m (x, m') _ hx ⟨0, rfl⟩
    exact ctr_mk (t := tX6_isKind) (cl := [120]) (by decide) (tabOK_mk okX6_isKind (by decide +kernel)) (by decide +kernel) (by decide) (fa_cons ⟨1, by decide, ct_X6_within⟩ fa_nil) (Nat.le_of_ble_eq_true rfl) (by cases x <;> rfl) hn
theorem iX6_isOrIsUnder {as : List AV} {c : CallR} (h : wX6_isOrIsUnder as = some c) : (∃ (a0 : Int32) (a1 : Int32), as = [aI a0, aI a1] ∧ c = cRZ (fX6_isOrIsUnder a0 a1)) := by
  unfold wX6_isOrIsUnder at h
  split at h
  · exact ⟨_, _, rfl, (Option.some.inj h).symm⟩
  · cases h
theorem ct_X6_isOrIsUnder {l : Launch} {D : va_G} {cA : Nat → ClassId} {ov : Value} {aR0 : Nat → Nat → Nat} {B nS : Nat} {xs : Nat → Int32} {q : Nat} : Ctr l D cA ov aR0 B nS xs q 3 122 := by
  intro as c h
  have h : wX6_isOrIsUnder as = some c := h
  rcases iX6_isOrIsUnder h with ⟨a0, a1, rfl, rfl⟩
  · refine ⟨⟨rfl, fun h => absurd h (by decide)⟩, fun m v m' ha => ?_⟩
    obtain ⟨x, hx, rfl⟩ := ha
    rw [fX6_isOrIsUnder_eq] at hx
    obtain ⟨n, hn⟩ := pfX6_isOrIsUnder q (csF_m q) a0 a1 m (x, m') _ hx ⟨0, rfl⟩
    exact ctr_mk (t := tX6_isOrIsUnder) (cl := [121]) (by decide) (tabOK_mk okX6_isOrIsUnder (by decide +kernel)) (by decide +kernel) (by decide) (fa_cons ⟨2, by decide, ct_X6_isKind⟩ fa_nil) (Nat.le_of_ble_eq_true rfl) (by cases x <;> rfl) hn
theorem iX6_says {as : List AV} {c : CallR} (h : wX6_says as = some c) : (∃ (a0 : Nat) (a1 : Int32) (a2 : Int32), as = [aR 6 a0, aI a1, aI a2] ∧ c = cRI (fX6_says a0 a1 a2)) := by
  unfold wX6_says at h
  split at h
  · exact ⟨_, _, _, rfl, (Option.some.inj h).symm⟩
  · cases h
theorem ct_X6_says {l : Launch} {D : va_G} {cA : Nat → ClassId} {ov : Value} {aR0 : Nat → Nat → Nat} {B nS : Nat} {xs : Nat → Int32} {q : Nat} : Ctr l D cA ov aR0 B nS xs q 4 71 := by
  intro as c h
  have h : wX6_says as = some c := h
  rcases iX6_says h with ⟨a0, a1, a2, rfl, rfl⟩
  · refine ⟨⟨rfl, fun _ => ⟨_, _, rfl⟩⟩, fun m v m' ha => ?_⟩
    obtain ⟨x, hx, rfl⟩ := ha
    rw [fX6_says_eq] at hx
    obtain ⟨n, hn⟩ := pfX6_says q (csF_m q) a0 a1 a2 m (x, m') _ hx ⟨0, rfl⟩
    exact ctr_mk (t := tX6_says) (cl := [5, 6, 42, 55, 121, 122, 124, 125]) (by decide) (tabOK_mk okX6_says (by decide +kernel)) (by decide +kernel) (by decide) (fa_cons ⟨1, by decide, ct_X1_isEmpty⟩ (fa_cons ⟨1, by decide, ct_X1_isRow⟩ (fa_cons ⟨1, by decide, ct_X5_bottleAt⟩ (fa_cons ⟨2, by decide, ct_X5_push⟩ (fa_cons ⟨2, by decide, ct_X6_isKind⟩ (fa_cons ⟨3, by decide, ct_X6_isOrIsUnder⟩ (fa_cons ⟨1, by decide, ct_X6_refuse⟩ (fa_cons ⟨1, by decide, ct_X6_shelfAt⟩ fa_nil)))))))) (Nat.le_of_ble_eq_true rfl) (rfl : narrow .int (.int x) = .int x) hn
theorem iX6_paves {as : List AV} {c : CallR} (h : wX6_paves as = some c) : (∃ (a0 : Nat) (a1 : Int32), as = [aR 6 a0, aI a1] ∧ c = cRI (fX6_paves a0 a1)) := by
  unfold wX6_paves at h
  split at h
  · exact ⟨_, _, rfl, (Option.some.inj h).symm⟩
  · cases h
theorem ct_X6_paves {l : Launch} {D : va_G} {cA : Nat → ClassId} {ov : Value} {aR0 : Nat → Nat → Nat} {B nS : Nat} {xs : Nat → Int32} {q : Nat} : Ctr l D cA ov aR0 B nS xs q 2 72 := by
  intro as c h
  have h : wX6_paves as = some c := h
  rcases iX6_paves h with ⟨a0, a1, rfl, rfl⟩
  · refine ⟨⟨rfl, fun _ => ⟨_, _, rfl⟩⟩, fun m v m' ha => ?_⟩
    obtain ⟨x, hx, rfl⟩ := ha
    rw [fX6_paves_eq] at hx
    obtain ⟨n, hn⟩ := pfX6_paves q (csF_m q) a0 a1 m (x, m') _ hx ⟨0, rfl⟩
    exact ctr_mk (t := tX6_paves) (cl := [120, 124]) (by decide) (tabOK_mk okX6_paves (by decide +kernel)) (by decide +kernel) (by decide) (fa_cons ⟨1, by decide, ct_X6_within⟩ (fa_cons ⟨1, by decide, ct_X6_refuse⟩ fa_nil)) (Nat.le_of_ble_eq_true rfl) (rfl : narrow .int (.int x) = .int x) hn
theorem iX6_walker {as : List AV} {c : CallR} (h : wX6_walker as = some c) : (∃ (a0 : Nat) (a1 : Int32) (a2 : Int32) (a3 : Int32), as = [aR 6 a0, aI a1, aI a2, aI a3] ∧ c = cRI (fX6_walker a0 a1 a2 a3)) := by
  unfold wX6_walker at h
  split at h
  · exact ⟨_, _, _, _, rfl, (Option.some.inj h).symm⟩
  · cases h
theorem ct_X6_walker {l : Launch} {D : va_G} {cA : Nat → ClassId} {ov : Value} {aR0 : Nat → Nat → Nat} {B nS : Nat} {xs : Nat → Int32} {q : Nat} : Ctr l D cA ov aR0 B nS xs q 3 73 := by
  intro as c h
  have h : wX6_walker as = some c := h
  rcases iX6_walker h with ⟨a0, a1, a2, a3, rfl, rfl⟩
  · refine ⟨⟨rfl, fun _ => ⟨_, _, rfl⟩⟩, fun m v m' ha => ?_⟩
    obtain ⟨x, hx, rfl⟩ := ha
    rw [fX6_walker_eq] at hx
    obtain ⟨n, hn⟩ := pfX6_walker q (csF_m q) a0 a1 a2 a3 m (x, m') _ hx ⟨0, rfl⟩
    exact ctr_mk (t := tX6_walker) (cl := [44, 46, 50, 120, 124]) (by decide) (tabOK_mk okX6_walker (by decide +kernel)) (by decide +kernel) (by decide) (fa_cons ⟨1, by decide, ct_X5_hasCell⟩ (fa_cons ⟨1, by decide, ct_X5_hasRoomForWalker⟩ (fa_cons ⟨2, by decide, ct_X5_addWalker⟩ (fa_cons ⟨1, by decide, ct_X6_within⟩ (fa_cons ⟨1, by decide, ct_X6_refuse⟩ fa_nil))))) (Nat.le_of_ble_eq_true rfl) (rfl : narrow .int (.int x) = .int x) hn
theorem iX6_sends {as : List AV} {c : CallR} (h : wX6_sends as = some c) : (∃ (a0 : Nat) (a1 : Int32) (a2 : Int32) (a3 : Int32), as = [aR 6 a0, aI a1, aI a2, aI a3] ∧ c = cRI (fX6_sends a0 a1 a2 a3)) := by
  unfold wX6_sends at h
  split at h
  · exact ⟨_, _, _, _, rfl, (Option.some.inj h).symm⟩
  · cases h
theorem ct_X6_sends {l : Launch} {D : va_G} {cA : Nat → ClassId} {ov : Value} {aR0 : Nat → Nat → Nat} {B nS : Nat} {xs : Nat → Int32} {q : Nat} : Ctr l D cA ov aR0 B nS xs q 2 74 := by
  intro as c h
  have h : wX6_sends as = some c := h
  rcases iX6_sends h with ⟨a0, a1, a2, a3, rfl, rfl⟩
  · refine ⟨⟨rfl, fun _ => ⟨_, _, rfl⟩⟩, fun m v m' ha => ?_⟩
    obtain ⟨x, hx, rfl⟩ := ha
    rw [fX6_sends_eq] at hx
    obtain ⟨n, hn⟩ := pfX6_sends q (csF_m q) a0 a1 a2 a3 m (x, m') _ hx ⟨0, rfl⟩
    exact ctr_mk (t := tX6_sends) (cl := [38, 43, 120, 124]) (by decide) (tabOK_mk okX6_sends (by decide +kernel)) (by decide +kernel) (by decide) (fa_cons ⟨1, by decide, ct_X4_tellOf⟩ (fa_cons ⟨1, by decide, ct_X5_walkerAt⟩ (fa_cons ⟨1, by decide, ct_X6_within⟩ (fa_cons ⟨1, by decide, ct_X6_refuse⟩ fa_nil)))) (Nat.le_of_ble_eq_true rfl) (rfl : narrow .int (.int x) = .int x) hn
theorem iX6_current {as : List AV} {c : CallR} (h : wX6_current as = some c) : (∃ (a0 : Nat) (a1 : Int32) (a2 : Int32), as = [aR 6 a0, aI a1, aI a2] ∧ c = cRI (fX6_current a0 a1 a2)) := by
  unfold wX6_current at h
  split at h
  · exact ⟨_, _, _, rfl, (Option.some.inj h).symm⟩
  · cases h
theorem ct_X6_current {l : Launch} {D : va_G} {cA : Nat → ClassId} {ov : Value} {aR0 : Nat → Nat → Nat} {B nS : Nat} {xs : Nat → Int32} {q : Nat} : Ctr l D cA ov aR0 B nS xs q 2 75 := by
  intro as c h
  have h : wX6_current as = some c := h
  rcases iX6_current h with ⟨a0, a1, a2, rfl, rfl⟩
  · refine ⟨⟨rfl, fun _ => ⟨_, _, rfl⟩⟩, fun m v m' ha => ?_⟩
    obtain ⟨x, hx, rfl⟩ := ha
    rw [fX6_current_eq] at hx
    obtain ⟨n, hn⟩ := pfX6_current q (csF_m q) a0 a1 a2 m (x, m') _ hx ⟨0, rfl⟩
    exact ctr_mk (t := tX6_current) (cl := [44, 47, 48, 120, 124]) (by decide) (tabOK_mk okX6_current (by decide +kernel)) (by decide +kernel) (by decide) (fa_cons ⟨1, by decide, ct_X5_hasCell⟩ (fa_cons ⟨1, by decide, ct_X5_flow⟩ (fa_cons ⟨1, by decide, ct_X5_setFlow⟩ (fa_cons ⟨1, by decide, ct_X6_within⟩ (fa_cons ⟨1, by decide, ct_X6_refuse⟩ fa_nil))))) (Nat.le_of_ble_eq_true rfl) (rfl : narrow .int (.int x) = .int x) hn
theorem iX6_tell {as : List AV} {c : CallR} (h : wX6_tell as = some c) : (∃ (a0 : Nat) (a1 : Int32) (a2 : Int32), as = [aR 6 a0, aI a1, aI a2] ∧ c = cRI (fX6_tell a0 a1 a2)) := by
  unfold wX6_tell at h
  split at h
  · exact ⟨_, _, _, rfl, (Option.some.inj h).symm⟩
  · cases h
theorem ct_X6_tell {l : Launch} {D : va_G} {cA : Nat → ClassId} {ov : Value} {aR0 : Nat → Nat → Nat} {B nS : Nat} {xs : Nat → Int32} {q : Nat} : Ctr l D cA ov aR0 B nS xs q 2 76 := by
  intro as c h
  have h : wX6_tell as = some c := h
  rcases iX6_tell h with ⟨a0, a1, a2, rfl, rfl⟩
  · refine ⟨⟨rfl, fun _ => ⟨_, _, rfl⟩⟩, fun m v m' ha => ?_⟩
    obtain ⟨x, hx, rfl⟩ := ha
    rw [fX6_tell_eq] at hx
    obtain ⟨n, hn⟩ := pfX6_tell q (csF_m q) a0 a1 a2 m (x, m') _ hx ⟨0, rfl⟩
    exact ctr_mk (t := tX6_tell) (cl := [120, 124]) (by decide) (tabOK_mk okX6_tell (by decide +kernel)) (by decide +kernel) (by decide) (fa_cons ⟨1, by decide, ct_X6_within⟩ (fa_cons ⟨1, by decide, ct_X6_refuse⟩ fa_nil)) (Nat.le_of_ble_eq_true rfl) (rfl : narrow .int (.int x) = .int x) hn
theorem iX6_feed {as : List AV} {c : CallR} (h : wX6_feed as = some c) : (∃ (a0 : Nat) (a1 : Int32), as = [aR 6 a0, aI a1] ∧ c = cRI (fX6_feed a0 a1)) := by
  unfold wX6_feed at h
  split at h
  · exact ⟨_, _, rfl, (Option.some.inj h).symm⟩
  · cases h
theorem ct_X6_feed {l : Launch} {D : va_G} {cA : Nat → ClassId} {ov : Value} {aR0 : Nat → Nat → Nat} {B nS : Nat} {xs : Nat → Int32} {q : Nat} : Ctr l D cA ov aR0 B nS xs q 2 77 := by
  intro as c h
  have h : wX6_feed as = some c := h
  rcases iX6_feed h with ⟨a0, a1, rfl, rfl⟩
  · refine ⟨⟨rfl, fun _ => ⟨_, _, rfl⟩⟩, fun m v m' ha => ?_⟩
    obtain ⟨x, hx, rfl⟩ := ha
    rw [fX6_feed_eq] at hx
    obtain ⟨n, hn⟩ := pfX6_feed q (csF_m q) a0 a1 m (x, m') _ hx ⟨0, rfl⟩
    exact ctr_mk (t := tX6_feed) (cl := [16, 17, 120, 124]) (by decide) (tabOK_mk okX6_feed (by decide +kernel)) (by decide +kernel) (by decide) (fa_cons ⟨1, by decide, ct_X2_hasRoom⟩ (fa_cons ⟨1, by decide, ct_X2_append⟩ (fa_cons ⟨1, by decide, ct_X6_within⟩ (fa_cons ⟨1, by decide, ct_X6_refuse⟩ fa_nil)))) (Nat.le_of_ble_eq_true rfl) (rfl : narrow .int (.int x) = .int x) hn
theorem iX6_wipe {as : List AV} {c : CallR} (h : wX6_wipe as = some c) : (∃ (a0 : Nat), as = [aR 6 a0] ∧ c = cRI (fX6_wipe a0)) := by
  unfold wX6_wipe at h
  split at h
  · exact ⟨_, rfl, (Option.some.inj h).symm⟩
  · cases h
theorem ct_X6_wipe {l : Launch} {D : va_G} {cA : Nat → ClassId} {ov : Value} {aR0 : Nat → Nat → Nat} {B nS : Nat} {xs : Nat → Int32} {q : Nat} : Ctr l D cA ov aR0 B nS xs q 1 78 := by
  intro as c h
  have h : wX6_wipe as = some c := h
  rcases iX6_wipe h with ⟨a0, rfl, rfl⟩
  · refine ⟨⟨rfl, fun _ => ⟨_, _, rfl⟩⟩, fun m v m' ha => ?_⟩
    obtain ⟨x, hx, rfl⟩ := ha
    rw [fX6_wipe_eq] at hx
    obtain ⟨n, hn⟩ := pfX6_wipe q (csF_m q) a0 m (x, m') _ hx ⟨0, rfl⟩
    exact ctr_mk (t := tX6_wipe) (cl := []) (by decide) (tabOK_mk okX6_wipe (by decide +kernel)) (by decide +kernel) (by decide) fa_nil (Nat.le_of_ble_eq_true rfl) (rfl : narrow .int (.int x) = .int x) hn
theorem iX6_coast {as : List AV} {c : CallR} (h : wX6_coast as = some c) : (∃ (a0 : Nat), as = [aR 6 a0] ∧ c = cRI (fX6_coast a0)) := by
  unfold wX6_coast at h
  split at h
  · exact ⟨_, rfl, (Option.some.inj h).symm⟩
  · cases h
theorem ct_X6_coast {l : Launch} {D : va_G} {cA : Nat → ClassId} {ov : Value} {aR0 : Nat → Nat → Nat} {B nS : Nat} {xs : Nat → Int32} {q : Nat} : Ctr l D cA ov aR0 B nS xs q 9 79 := by
  intro as c h
  have h : wX6_coast as = some c := h
  rcases iX6_coast h with ⟨a0, rfl, rfl⟩
  · refine ⟨⟨rfl, fun _ => ⟨_, _, rfl⟩⟩, fun m v m' ha => ?_⟩
    obtain ⟨x, hx, rfl⟩ := ha
    rw [fX6_coast_eq] at hx
    obtain ⟨n, hn⟩ := pfX6_coast q (csF_m q) a0 m (x, m') _ hx ⟨0, rfl⟩
    exact ctr_mk (t := tX6_coast) (cl := [18, 41, 124]) (by decide) (tabOK_mk okX6_coast (by decide +kernel)) (by decide +kernel) (by decide) (fa_cons ⟨8, by decide, ct_X2_readInto⟩ (fa_cons ⟨3, by decide, ct_X5_become⟩ (fa_cons ⟨1, by decide, ct_X6_refuse⟩ fa_nil))) (Nat.le_of_ble_eq_true rfl) (rfl : narrow .int (.int x) = .int x) hn
theorem iX6_bottleOf {as : List AV} {c : CallR} (h : wX6_bottleOf as = some c) : (∃ (a0 : Nat) (a1 : Int32) (a2 : Int32), as = [aR 6 a0, aI a1, aI a2] ∧ c = cRI (fX6_bottleOf a0 a1 a2)) := by
  unfold wX6_bottleOf at h
  split at h
  · exact ⟨_, _, _, rfl, (Option.some.inj h).symm⟩
  · cases h
theorem ct_X6_bottleOf {l : Launch} {D : va_G} {cA : Nat → ClassId} {ov : Value} {aR0 : Nat → Nat → Nat} {B nS : Nat} {xs : Nat → Int32} {q : Nat} : Ctr l D cA ov aR0 B nS xs q 3 80 := by
  intro as c h
  have h : wX6_bottleOf as = some c := h
  rcases iX6_bottleOf h with ⟨a0, a1, a2, rfl, rfl⟩
  · refine ⟨⟨rfl, fun _ => ⟨_, _, rfl⟩⟩, fun m v m' ha => ?_⟩
    obtain ⟨x, hx, rfl⟩ := ha
    rw [fX6_bottleOf_eq] at hx
    obtain ⟨n, hn⟩ := pfX6_bottleOf q (csF_m q) a0 a1 a2 m (x, m') _ hx ⟨0, rfl⟩
    exact ctr_mk (t := tX6_bottleOf) (cl := [3, 42, 120, 124]) (by decide) (tabOK_mk okX6_bottleOf (by decide +kernel)) (by decide +kernel) (by decide) (fa_cons ⟨2, by decide, ct_X0_tellOf⟩ (fa_cons ⟨1, by decide, ct_X5_bottleAt⟩ (fa_cons ⟨1, by decide, ct_X6_within⟩ (fa_cons ⟨1, by decide, ct_X6_refuse⟩ fa_nil)))) (Nat.le_of_ble_eq_true rfl) (rfl : narrow .int (.int x) = .int x) hn
theorem iX6_walkerOf {as : List AV} {c : CallR} (h : wX6_walkerOf as = some c) : (∃ (a0 : Nat) (a1 : Int32) (a2 : Int32), as = [aR 6 a0, aI a1, aI a2] ∧ c = cRI (fX6_walkerOf a0 a1 a2)) := by
  unfold wX6_walkerOf at h
  split at h
  · exact ⟨_, _, _, rfl, (Option.some.inj h).symm⟩
  · cases h
theorem ct_X6_walkerOf {l : Launch} {D : va_G} {cA : Nat → ClassId} {ov : Value} {aR0 : Nat → Nat → Nat} {B nS : Nat} {xs : Nat → Int32} {q : Nat} : Ctr l D cA ov aR0 B nS xs q 3 81 := by
  intro as c h
  have h : wX6_walkerOf as = some c := h
  rcases iX6_walkerOf h with ⟨a0, a1, a2, rfl, rfl⟩
  · refine ⟨⟨rfl, fun _ => ⟨_, _, rfl⟩⟩, fun m v m' ha => ?_⟩
    obtain ⟨x, hx, rfl⟩ := ha
    rw [fX6_walkerOf_eq] at hx
    obtain ⟨n, hn⟩ := pfX6_walkerOf q (csF_m q) a0 a1 a2 m (x, m') _ hx ⟨0, rfl⟩
    exact ctr_mk (t := tX6_walkerOf) (cl := [38, 43, 51, 120, 124]) (by decide) (tabOK_mk okX6_walkerOf (by decide +kernel)) (by decide +kernel) (by decide) (fa_cons ⟨1, by decide, ct_X4_tellOf⟩ (fa_cons ⟨1, by decide, ct_X5_walkerAt⟩ (fa_cons ⟨2, by decide, ct_X5_addressedTo⟩ (fa_cons ⟨1, by decide, ct_X6_within⟩ (fa_cons ⟨1, by decide, ct_X6_refuse⟩ fa_nil))))) (Nat.le_of_ble_eq_true rfl) (rfl : narrow .int (.int x) = .int x) hn
theorem iX6_currentAt {as : List AV} {c : CallR} (h : wX6_currentAt as = some c) : (∃ (a0 : Nat) (a1 : Int32), as = [aR 6 a0, aI a1] ∧ c = cRI (fX6_currentAt a0 a1)) := by
  unfold wX6_currentAt at h
  split at h
  · exact ⟨_, _, rfl, (Option.some.inj h).symm⟩
  · cases h
theorem ct_X6_currentAt {l : Launch} {D : va_G} {cA : Nat → ClassId} {ov : Value} {aR0 : Nat → Nat → Nat} {B nS : Nat} {xs : Nat → Int32} {q : Nat} : Ctr l D cA ov aR0 B nS xs q 2 82 := by
  intro as c h
  have h : wX6_currentAt as = some c := h
  rcases iX6_currentAt h with ⟨a0, a1, rfl, rfl⟩
  · refine ⟨⟨rfl, fun _ => ⟨_, _, rfl⟩⟩, fun m v m' ha => ?_⟩
    obtain ⟨x, hx, rfl⟩ := ha
    rw [fX6_currentAt_eq] at hx
    obtain ⟨n, hn⟩ := pfX6_currentAt q (csF_m q) a0 a1 m (x, m') _ hx ⟨0, rfl⟩
    exact ctr_mk (t := tX6_currentAt) (cl := [44, 47, 124]) (by decide) (tabOK_mk okX6_currentAt (by decide +kernel)) (by decide +kernel) (by decide) (fa_cons ⟨1, by decide, ct_X5_hasCell⟩ (fa_cons ⟨1, by decide, ct_X5_flow⟩ (fa_cons ⟨1, by decide, ct_X6_refuse⟩ fa_nil))) (Nat.le_of_ble_eq_true rfl) (rfl : narrow .int (.int x) = .int x) hn
theorem iX6_ahead {as : List AV} {c : CallR} (h : wX6_ahead as = some c) : (∃ (a0 : Nat) (a1 : Int32) (a2 : Int32) (a3 : Int32), as = [aR 6 a0, aI a1, aI a2, aI a3] ∧ c = cRI (fX6_ahead a0 a1 a2 a3)) := by
  unfold wX6_ahead at h
  split at h
  · exact ⟨_, _, _, _, rfl, (Option.some.inj h).symm⟩
  · cases h
theorem ct_X6_ahead {l : Launch} {D : va_G} {cA : Nat → ClassId} {ov : Value} {aR0 : Nat → Nat → Nat} {B nS : Nat} {xs : Nat → Int32} {q : Nat} : Ctr l D cA ov aR0 B nS xs q 5 83 := by
  intro as c h
  have h : wX6_ahead as = some c := h
  rcases iX6_ahead h with ⟨a0, a1, a2, a3, rfl, rfl⟩
  · refine ⟨⟨rfl, fun _ => ⟨_, _, rfl⟩⟩, fun m v m' ha => ?_⟩
    obtain ⟨x, hx, rfl⟩ := ha
    rw [fX6_ahead_eq] at hx
    obtain ⟨n, hn⟩ := pfX6_ahead q (csF_m q) a0 a1 a2 a3 m (x, m') _ hx ⟨0, rfl⟩
    exact ctr_mk (t := tX6_ahead) (cl := [32, 33, 42, 43, 57, 120, 124]) (by decide) (tabOK_mk okX6_ahead (by decide +kernel)) (by decide +kernel) (by decide) (fa_cons ⟨1, by decide, ct_X3_cellAt⟩ (fa_cons ⟨1, by decide, ct_X3_howAt⟩ (fa_cons ⟨1, by decide, ct_X5_bottleAt⟩ (fa_cons ⟨1, by decide, ct_X5_walkerAt⟩ (fa_cons ⟨4, by decide, ct_X5_follow⟩ (fa_cons ⟨1, by decide, ct_X6_within⟩ (fa_cons ⟨1, by decide, ct_X6_refuse⟩ fa_nil))))))) (Nat.le_of_ble_eq_true rfl) (rfl : narrow .int (.int x) = .int x) hn
theorem iX6_walks {as : List AV} {c : CallR} (h : wX6_walks as = some c) : (∃ (a0 : Nat) (a1 : Int32) (a2 : Int32), as = [aR 6 a0, aI a1, aI a2] ∧ c = cRI (fX6_walks a0 a1 a2)) := by
  unfold wX6_walks at h
  split at h
  · exact ⟨_, _, _, rfl, (Option.some.inj h).symm⟩
  · cases h
theorem ct_X6_walks {l : Launch} {D : va_G} {cA : Nat → ClassId} {ov : Value} {aR0 : Nat → Nat → Nat} {B nS : Nat} {xs : Nat → Int32} {q : Nat} : Ctr l D cA ov aR0 B nS xs q 3 84 := by
  intro as c h
  have h : wX6_walks as = some c := h
  rcases iX6_walks h with ⟨a0, a1, a2, rfl, rfl⟩
  · refine ⟨⟨rfl, fun _ => ⟨_, _, rfl⟩⟩, fun m v m' ha => ?_⟩
    obtain ⟨x, hx, rfl⟩ := ha
    rw [fX6_walks_eq] at hx
    obtain ⟨n, hn⟩ := pfX6_walks q (csF_m q) a0 a1 a2 m (x, m') _ hx ⟨0, rfl⟩
    exact ctr_mk (t := tX6_walks) (cl := [37, 39, 43, 120, 124]) (by decide) (tabOK_mk okX6_walks (by decide +kernel)) (by decide +kernel) (by decide) (fa_cons ⟨2, by decide, ct_X4_become⟩ (fa_cons ⟨1, by decide, ct_X4_stroll⟩ (fa_cons ⟨1, by decide, ct_X5_walkerAt⟩ (fa_cons ⟨1, by decide, ct_X6_within⟩ (fa_cons ⟨1, by decide, ct_X6_refuse⟩ fa_nil))))) (Nat.le_of_ble_eq_true rfl) (rfl : narrow .int (.int x) = .int x) hn
theorem iX6_found {as : List AV} {c : CallR} (h : wX6_found as = some c) : (∃ (a0 : Nat) (a1 : Int32), as = [aR 6 a0, aI a1] ∧ c = cRI (fX6_found a0 a1)) := by
  unfold wX6_found at h
  split at h
  · exact ⟨_, _, rfl, (Option.some.inj h).symm⟩
  · cases h
theorem ct_X6_found {l : Launch} {D : va_G} {cA : Nat → ClassId} {ov : Value} {aR0 : Nat → Nat → Nat} {B nS : Nat} {xs : Nat → Int32} {q : Nat} : Ctr l D cA ov aR0 B nS xs q 6 85 := by
  intro as c h
  have h : wX6_found as = some c := h
  rcases iX6_found h with ⟨a0, a1, rfl, rfl⟩
  · refine ⟨⟨rfl, fun _ => ⟨_, _, rfl⟩⟩, fun m v m' ha => ?_⟩
    obtain ⟨x, hx, rfl⟩ := ha
    rw [fX6_found_eq] at hx
    obtain ⟨n, hn⟩ := pfX6_found q (csF_m q) a0 a1 m (x, m') _ hx ⟨0, rfl⟩
    exact ctr_mk (t := tX6_found) (cl := [60, 120, 124]) (by decide) (tabOK_mk okX6_found (by decide +kernel)) (by decide +kernel) (by decide) (fa_cons ⟨5, by decide, ct_X5_countFound⟩ (fa_cons ⟨1, by decide, ct_X6_within⟩ (fa_cons ⟨1, by decide, ct_X6_refuse⟩ fa_nil))) (Nat.le_of_ble_eq_true rfl) (rfl : narrow .int (.int x) = .int x) hn
theorem iX6_when {as : List AV} {c : CallR} (h : wX6_when as = some c) : (∃ (a0 : Nat) (a1 : Int32), as = [aR 6 a0, aI a1] ∧ c = cRI (fX6_when a0 a1)) := by
  unfold wX6_when at h
  split at h
  · exact ⟨_, _, rfl, (Option.some.inj h).symm⟩
  · cases h
theorem ct_X6_when {l : Launch} {D : va_G} {cA : Nat → ClassId} {ov : Value} {aR0 : Nat → Nat → Nat} {B nS : Nat} {xs : Nat → Int32} {q : Nat} : Ctr l D cA ov aR0 B nS xs q 6 86 := by
  intro as c h
  have h : wX6_when as = some c := h
  rcases iX6_when h with ⟨a0, a1, rfl, rfl⟩
  · refine ⟨⟨rfl, fun _ => ⟨_, _, rfl⟩⟩, fun m v m' ha => ?_⟩
    obtain ⟨x, hx, rfl⟩ := ha
    rw [fX6_when_eq] at hx
    obtain ⟨n, hn⟩ := pfX6_when q (csF_m q) a0 a1 m (x, m') _ hx ⟨0, rfl⟩
    exact ctr_mk (t := tX6_when) (cl := [42, 59, 124]) (by decide) (tabOK_mk okX6_when (by decide +kernel)) (by decide +kernel) (by decide) (fa_cons ⟨1, by decide, ct_X5_bottleAt⟩ (fa_cons ⟨5, by decide, ct_X5_daysTillFound⟩ (fa_cons ⟨1, by decide, ct_X6_refuse⟩ fa_nil))) (Nat.le_of_ble_eq_true rfl) (rfl : narrow .int (.int x) = .int x) hn
theorem iX6_firstMeeting {as : List AV} {c : CallR} (h : wX6_firstMeeting as = some c) : (∃ (a0 : Nat) (a2 : Int32), as = [aR 6 a0, aN, aI a2] ∧ c = cRI (fX6_firstMeeting a0 none a2)) ∨ (∃ (a0 : Nat) (a1 : Nat) (a2 : Int32), as = [aR 6 a0, aR 4 a1, aI a2] ∧ c = cRI (fX6_firstMeeting a0 (some a1) a2)) := by
  unfold wX6_firstMeeting at h
  split at h
  · exact Or.inl ⟨_, _, rfl, (Option.some.inj h).symm⟩
  · exact Or.inr ⟨_, _, _, rfl, (Option.some.inj h).symm⟩
  · cases h
theorem ct_X6_firstMeeting {l : Launch} {D : va_G} {cA : Nat → ClassId} {ov : Value} {aR0 : Nat → Nat → Nat} {B nS : Nat} {xs : Nat → Int32} {q : Nat} : Ctr l D cA ov aR0 B nS xs q 3 127 := by
  intro as c h
  have h : wX6_firstMeeting as = some c := h
  rcases iX6_firstMeeting h with ⟨a0, a2, rfl, rfl⟩ | ⟨a0, a1, a2, rfl, rfl⟩
  · refine ⟨⟨rfl, fun _ => ⟨_, _, rfl⟩⟩, fun m v m' ha => ?_⟩
    obtain ⟨x, hx, rfl⟩ := ha
    rw [fX6_firstMeeting_eq] at hx
    obtain ⟨n, hn⟩ := pfX6_firstMeeting0 q (csF_m q) a0 a2 m (x, m') _ hx ⟨0, rfl⟩
    exact ctr_mk (t := tX6_firstMeeting) (cl := [32, 33, 37, 39]) (by decide) (tabOK_mk okX6_firstMeeting (by decide +kernel)) (by decide +kernel) (by decide) (fa_cons ⟨1, by decide, ct_X3_cellAt⟩ (fa_cons ⟨1, by decide, ct_X3_howAt⟩ (fa_cons ⟨2, by decide, ct_X4_become⟩ (fa_cons ⟨1, by decide, ct_X4_stroll⟩ fa_nil)))) (Nat.le_of_ble_eq_true rfl) (rfl : narrow .int (.int x) = .int x) hn
  · refine ⟨⟨rfl, fun _ => ⟨_, _, rfl⟩⟩, fun m v m' ha => ?_⟩
    obtain ⟨x, hx, rfl⟩ := ha
    rw [fX6_firstMeeting_eq] at hx
    obtain ⟨n, hn⟩ := pfX6_firstMeeting1 q (csF_m q) a0 a1 a2 m (x, m') _ hx ⟨0, rfl⟩
    exact ctr_mk (t := tX6_firstMeeting) (cl := [32, 33, 37, 39]) (by decide) (tabOK_mk okX6_firstMeeting (by decide +kernel)) (by decide +kernel) (by decide) (fa_cons ⟨1, by decide, ct_X3_cellAt⟩ (fa_cons ⟨1, by decide, ct_X3_howAt⟩ (fa_cons ⟨2, by decide, ct_X4_become⟩ (fa_cons ⟨1, by decide, ct_X4_stroll⟩ fa_nil)))) (Nat.le_of_ble_eq_true rfl) (rfl : narrow .int (.int x) = .int x) hn
theorem iX6_meets {as : List AV} {c : CallR} (h : wX6_meets as = some c) : (∃ (a0 : Nat) (a1 : Int32) (a2 : Int32), as = [aR 6 a0, aI a1, aI a2] ∧ c = cRI (fX6_meets a0 a1 a2)) := by
  unfold wX6_meets at h
  split at h
  · exact ⟨_, _, _, rfl, (Option.some.inj h).symm⟩
  · cases h
theorem ct_X6_meets {l : Launch} {D : va_G} {cA : Nat → ClassId} {ov : Value} {aR0 : Nat → Nat → Nat} {B nS : Nat} {xs : Nat → Int32} {q : Nat} : Ctr l D cA ov aR0 B nS xs q 5 87 := by
  intro as c h
  have h : wX6_meets as = some c := h
  rcases iX6_meets h with ⟨a0, a1, a2, rfl, rfl⟩
  · refine ⟨⟨rfl, fun _ => ⟨_, _, rfl⟩⟩, fun m v m' ha => ?_⟩
    obtain ⟨x, hx, rfl⟩ := ha
    rw [fX6_meets_eq] at hx
    obtain ⟨n, hn⟩ := pfX6_meets q (csF_m q) a0 a1 a2 m (x, m') _ hx ⟨0, rfl⟩
    exact ctr_mk (t := tX6_meets) (cl := [42, 43, 57, 124, 127]) (by decide) (tabOK_mk okX6_meets (by decide +kernel)) (by decide +kernel) (by decide) (fa_cons ⟨1, by decide, ct_X5_bottleAt⟩ (fa_cons ⟨1, by decide, ct_X5_walkerAt⟩ (fa_cons ⟨4, by decide, ct_X5_follow⟩ (fa_cons ⟨1, by decide, ct_X6_refuse⟩ (fa_cons ⟨3, by decide, ct_X6_firstMeeting⟩ fa_nil))))) (Nat.le_of_ble_eq_true rfl) (rfl : narrow .int (.int x) = .int x) hn
theorem iX6_finder {as : List AV} {c : CallR} (h : wX6_finder as = some c) : (∃ (a0 : Nat) (a1 : Int32), as = [aR 6 a0, aI a1] ∧ c = cRI (fX6_finder a0 a1)) := by
  unfold wX6_finder at h
  split at h
  · exact ⟨_, _, rfl, (Option.some.inj h).symm⟩
  · cases h
theorem ct_X6_finder {l : Launch} {D : va_G} {cA : Nat → ClassId} {ov : Value} {aR0 : Nat → Nat → Nat} {B nS : Nat} {xs : Nat → Int32} {q : Nat} : Ctr l D cA ov aR0 B nS xs q 5 88 := by
  intro as c h
  have h : wX6_finder as = some c := h
  rcases iX6_finder h with ⟨a0, a1, rfl, rfl⟩
  · refine ⟨⟨rfl, fun _ => ⟨_, _, rfl⟩⟩, fun m v m' ha => ?_⟩
    obtain ⟨x, hx, rfl⟩ := ha
    rw [fX6_finder_eq] at hx
    obtain ⟨n, hn⟩ := pfX6_finder q (csF_m q) a0 a1 m (x, m') _ hx ⟨0, rfl⟩
    exact ctr_mk (t := tX6_finder) (cl := [42, 43, 57, 124, 127]) (by decide) (tabOK_mk okX6_finder (by decide +kernel)) (by decide +kernel) (by decide) (fa_cons ⟨1, by decide, ct_X5_bottleAt⟩ (fa_cons ⟨1, by decide, ct_X5_walkerAt⟩ (fa_cons ⟨4, by decide, ct_X5_follow⟩ (fa_cons ⟨1, by decide, ct_X6_refuse⟩ (fa_cons ⟨3, by decide, ct_X6_firstMeeting⟩ fa_nil))))) (Nat.le_of_ble_eq_true rfl) (rfl : narrow .int (.int x) = .int x) hn
theorem iX6_two {as : List AV} {c : CallR} (h : wX6_two as = some c) : (∃ (a0 : Nat) (a1 : Int32) (a2 : Int32), as = [aR 6 a0, aI a1, aI a2] ∧ c = cRI (fX6_two a0 a1 a2)) := by
  unfold wX6_two at h
  split at h
  · exact ⟨_, _, _, rfl, (Option.some.inj h).symm⟩
  · cases h
theorem ct_X6_two {l : Launch} {D : va_G} {cA : Nat → ClassId} {ov : Value} {aR0 : Nat → Nat → Nat} {B nS : Nat} {xs : Nat → Int32} {q : Nat} : Ctr l D cA ov aR0 B nS xs q 3 89 := by
  intro as c h
  have h : wX6_two as = some c := h
  rcases iX6_two h with ⟨a0, a1, a2, rfl, rfl⟩
  · refine ⟨⟨rfl, fun _ => ⟨_, _, rfl⟩⟩, fun m v m' ha => ?_⟩
    obtain ⟨x, hx, rfl⟩ := ha
    rw [fX6_two_eq] at hx
    obtain ⟨n, hn⟩ := pfX6_two q (csF_m q) a0 a1 a2 m (x, m') _ hx ⟨0, rfl⟩
    exact ctr_mk (t := tX6_two) (cl := [37, 39, 43, 124]) (by decide) (tabOK_mk okX6_two (by decide +kernel)) (by decide +kernel) (by decide) (fa_cons ⟨2, by decide, ct_X4_become⟩ (fa_cons ⟨1, by decide, ct_X4_stroll⟩ (fa_cons ⟨1, by decide, ct_X5_walkerAt⟩ (fa_cons ⟨1, by decide, ct_X6_refuse⟩ fa_nil)))) (Nat.le_of_ble_eq_true rfl) (rfl : narrow .int (.int x) = .int x) hn
theorem iX6_aim {as : List AV} {c : CallR} (h : wX6_aim as = some c) : (∃ (a0 : Nat) (a1 : Int32) (a2 : Int32) (a3 : Int32) (a4 : Int32), as = [aR 6 a0, aI a1, aI a2, aI a3, aI a4] ∧ c = cRI (fX6_aim a0 a1 a2 a3 a4)) := by
  unfold wX6_aim at h
  split at h
  · exact ⟨_, _, _, _, _, rfl, (Option.some.inj h).symm⟩
  · cases h
theorem ct_X6_aim {l : Launch} {D : va_G} {cA : Nat → ClassId} {ov : Value} {aR0 : Nat → Nat → Nat} {B nS : Nat} {xs : Nat → Int32} {q : Nat} : Ctr l D cA ov aR0 B nS xs q 5 90 := by
  intro as c h
  have h : wX6_aim as = some c := h
  rcases iX6_aim h with ⟨a0, a1, a2, a3, a4, rfl, rfl⟩
  · refine ⟨⟨rfl, fun _ => ⟨_, _, rfl⟩⟩, fun m v m' ha => ?_⟩
    obtain ⟨x, hx, rfl⟩ := ha
    rw [fX6_aim_eq] at hx
    obtain ⟨n, hn⟩ := pfX6_aim q (csF_m q) a0 a1 a2 a3 a4 m (x, m') _ hx ⟨0, rfl⟩
    exact ctr_mk (t := tX6_aim) (cl := [1, 43, 58, 120, 121, 124]) (by decide) (tabOK_mk okX6_aim (by decide +kernel)) (by decide +kernel) (by decide) (fa_cons ⟨1, by decide, ct_X0_start⟩ (fa_cons ⟨1, by decide, ct_X5_walkerAt⟩ (fa_cons ⟨4, by decide, ct_X5_soonest⟩ (fa_cons ⟨1, by decide, ct_X6_within⟩ (fa_cons ⟨2, by decide, ct_X6_isKind⟩ (fa_cons ⟨1, by decide, ct_X6_refuse⟩ fa_nil)))))) (Nat.le_of_ble_eq_true rfl) (rfl : narrow .int (.int x) = .int x) hn
theorem iX6_foundWalking {as : List AV} {c : CallR} (h : wX6_foundWalking as = some c) : (∃ (a0 : Nat) (a1 : Int32) (a2 : Int32) (a3 : Int32) (a4 : Int32), as = [aR 6 a0, aI a1, aI a2, aI a3, aI a4] ∧ c = cRI (fX6_foundWalking a0 a1 a2 a3 a4)) := by
  unfold wX6_foundWalking at h
  split at h
  · exact ⟨_, _, _, _, _, rfl, (Option.some.inj h).symm⟩
  · cases h
theorem ct_X6_foundWalking {l : Launch} {D : va_G} {cA : Nat → ClassId} {ov : Value} {aR0 : Nat → Nat → Nat} {B nS : Nat} {xs : Nat → Int32} {q : Nat} : Ctr l D cA ov aR0 B nS xs q 5 128 := by
  intro as c h
  have h : wX6_foundWalking as = some c := h
  rcases iX6_foundWalking h with ⟨a0, a1, a2, a3, a4, rfl, rfl⟩
  · refine ⟨⟨rfl, fun _ => ⟨_, _, rfl⟩⟩, fun m v m' ha => ?_⟩
    obtain ⟨x, hx, rfl⟩ := ha
    rw [fX6_foundWalking_eq] at hx
    obtain ⟨n, hn⟩ := pfX6_foundWalking q (csF_m q) a0 a1 a2 a3 a4 m (x, m') _ hx ⟨0, rfl⟩
    exact ctr_mk (t := tX6_foundWalking) (cl := [36, 42, 43, 58]) (by decide) (tabOK_mk okX6_foundWalking (by decide +kernel)) (by decide +kernel) (by decide) (fa_cons ⟨1, by decide, ct_X4_start⟩ (fa_cons ⟨1, by decide, ct_X5_bottleAt⟩ (fa_cons ⟨1, by decide, ct_X5_walkerAt⟩ (fa_cons ⟨4, by decide, ct_X5_soonest⟩ fa_nil)))) (Nat.le_of_ble_eq_true rfl) (rfl : narrow .int (.int x) = .int x) hn
theorem iX6_walk {as : List AV} {c : CallR} (h : wX6_walk as = some c) : (∃ (a0 : Nat) (a1 : Int32) (a2 : Int32) (a3 : Int32), as = [aR 6 a0, aI a1, aI a2, aI a3] ∧ c = cRI (fX6_walk a0 a1 a2 a3)) := by
  unfold wX6_walk at h
  split at h
  · exact ⟨_, _, _, _, rfl, (Option.some.inj h).symm⟩
  · cases h
theorem ct_X6_walk {l : Launch} {D : va_G} {cA : Nat → ClassId} {ov : Value} {aR0 : Nat → Nat → Nat} {B nS : Nat} {xs : Nat → Int32} {q : Nat} : Ctr l D cA ov aR0 B nS xs q 6 91 := by
  intro as c h
  have h : wX6_walk as = some c := h
  rcases iX6_walk h with ⟨a0, a1, a2, a3, rfl, rfl⟩
  · refine ⟨⟨rfl, fun _ => ⟨_, _, rfl⟩⟩, fun m v m' ha => ?_⟩
    obtain ⟨x, hx, rfl⟩ := ha
    rw [fX6_walk_eq] at hx
    obtain ⟨n, hn⟩ := pfX6_walk q (csF_m q) a0 a1 a2 a3 m (x, m') _ hx ⟨0, rfl⟩
    exact ctr_mk (t := tX6_walk) (cl := [43, 120, 124, 128]) (by decide) (tabOK_mk okX6_walk (by decide +kernel)) (by decide +kernel) (by decide) (fa_cons ⟨1, by decide, ct_X5_walkerAt⟩ (fa_cons ⟨1, by decide, ct_X6_within⟩ (fa_cons ⟨1, by decide, ct_X6_refuse⟩ (fa_cons ⟨5, by decide, ct_X6_foundWalking⟩ fa_nil)))) (Nat.le_of_ble_eq_true rfl) (rfl : narrow .int (.int x) = .int x) hn
theorem iX6_driftsAlong {as : List AV} {c : CallR} (h : wX6_driftsAlong as = some c) : (∃ (a0 : Nat) (a1 : Nat) (a2 : Int32) (a3 : Int32) (a4 : Int32), as = [aR 6 a0, aR 1 a1, aI a2, aI a3, aI a4] ∧ c = cRZ (fX6_driftsAlong a0 a1 a2 a3 a4)) := by
  unfold wX6_driftsAlong at h
  split at h
  · exact ⟨_, _, _, _, _, rfl, (Option.some.inj h).symm⟩
  · cases h
theorem ct_X6_driftsAlong {l : Launch} {D : va_G} {cA : Nat → ClassId} {ov : Value} {aR0 : Nat → Nat → Nat} {B nS : Nat} {xs : Nat → Int32} {q : Nat} : Ctr l D cA ov aR0 B nS xs q 4 129 := by
  intro as c h
  have h : wX6_driftsAlong as = some c := h
  rcases iX6_driftsAlong h with ⟨a0, a1, a2, a3, a4, rfl, rfl⟩
  · refine ⟨⟨rfl, fun _ => ⟨_, _, rfl⟩⟩, fun m v m' ha => ?_⟩
    obtain ⟨x, hx, rfl⟩ := ha
    rw [fX6_driftsAlong_eq] at hx
    obtain ⟨n, hn⟩ := pfX6_driftsAlong q (csF_m q) a0 a1 a2 a3 a4 m (x, m') _ hx ⟨0, rfl⟩
    exact ctr_mk (t := tX6_driftsAlong) (cl := [1, 13, 54, 56]) (by decide) (tabOK_mk okX6_driftsAlong (by decide +kernel)) (by decide +kernel) (by decide) (fa_cons ⟨1, by decide, ct_X0_start⟩ (fa_cons ⟨2, by decide, ct_X1_take⟩ (fa_cons ⟨1, by decide, ct_X5_dayBehind⟩ (fa_cons ⟨3, by decide, ct_X5_spend⟩ fa_nil)))) (Nat.le_of_ble_eq_true rfl) (by cases x <;> rfl) hn
theorem iX6_fits {as : List AV} {c : CallR} (h : wX6_fits as = some c) : (∃ (a0 : Nat) (a1 : Int32) (a2 : Int32) (a3 : Int32) (a4 : Int32), as = [aR 6 a0, aI a1, aI a2, aI a3, aI a4] ∧ c = cRI (fX6_fits a0 a1 a2 a3 a4)) := by
  unfold wX6_fits at h
  split at h
  · exact ⟨_, _, _, _, _, rfl, (Option.some.inj h).symm⟩
  · cases h
theorem ct_X6_fits {l : Launch} {D : va_G} {cA : Nat → ClassId} {ov : Value} {aR0 : Nat → Nat → Nat} {B nS : Nat} {xs : Nat → Int32} {q : Nat} : Ctr l D cA ov aR0 B nS xs q 5 92 := by
  intro as c h
  have h : wX6_fits as = some c := h
  rcases iX6_fits h with ⟨a0, a1, a2, a3, a4, rfl, rfl⟩
  · refine ⟨⟨rfl, fun _ => ⟨_, _, rfl⟩⟩, fun m v m' ha => ?_⟩
    obtain ⟨x, hx, rfl⟩ := ha
    rw [fX6_fits_eq] at hx
    obtain ⟨n, hn⟩ := pfX6_fits q (csF_m q) a0 a1 a2 a3 a4 m (x, m') _ hx ⟨0, rfl⟩
    exact ctr_mk (t := tX6_fits) (cl := [6, 8, 41, 42, 120, 124, 125, 129]) (by decide) (tabOK_mk okX6_fits (by decide +kernel)) (by decide +kernel) (by decide) (fa_cons ⟨1, by decide, ct_X1_isRow⟩ (fa_cons ⟨2, by decide, ct_X1_whyNoRow⟩ (fa_cons ⟨3, by decide, ct_X5_become⟩ (fa_cons ⟨1, by decide, ct_X5_bottleAt⟩ (fa_cons ⟨1, by decide, ct_X6_within⟩ (fa_cons ⟨1, by decide, ct_X6_refuse⟩ (fa_cons ⟨1, by decide, ct_X6_shelfAt⟩ (fa_cons ⟨4, by decide, ct_X6_driftsAlong⟩ fa_nil)))))))) (Nat.le_of_ble_eq_true rfl) (rfl : narrow .int (.int x) = .int x) hn
theorem iX6_from {as : List AV} {c : CallR} (h : wX6_from as = some c) : (∃ (a0 : Nat) (a1 : Int32) (a2 : Int32) (a3 : Int32), as = [aR 6 a0, aI a1, aI a2, aI a3] ∧ c = cRI (fX6_from a0 a1 a2 a3)) := by
  unfold wX6_from at h
  split at h
  · exact ⟨_, _, _, _, rfl, (Option.some.inj h).symm⟩
  · cases h
theorem ct_X6_from {l : Launch} {D : va_G} {cA : Nat → ClassId} {ov : Value} {aR0 : Nat → Nat → Nat} {B nS : Nat} {xs : Nat → Int32} {q : Nat} : Ctr l D cA ov aR0 B nS xs q 5 93 := by
  intro as c h
  have h : wX6_from as = some c := h
  rcases iX6_from h with ⟨a0, a1, a2, a3, rfl, rfl⟩
  · refine ⟨⟨rfl, fun _ => ⟨_, _, rfl⟩⟩, fun m v m' ha => ?_⟩
    obtain ⟨x, hx, rfl⟩ := ha
    rw [fX6_from_eq] at hx
    obtain ⟨n, hn⟩ := pfX6_from q (csF_m q) a0 a1 a2 a3 m (x, m') _ hx ⟨0, rfl⟩
    exact ctr_mk (t := tX6_from) (cl := [1, 32, 33, 42, 44, 57, 120, 124]) (by decide) (tabOK_mk okX6_from (by decide +kernel)) (by decide +kernel) (by decide) (fa_cons ⟨1, by decide, ct_X0_start⟩ (fa_cons ⟨1, by decide, ct_X3_cellAt⟩ (fa_cons ⟨1, by decide, ct_X3_howAt⟩ (fa_cons ⟨1, by decide, ct_X5_bottleAt⟩ (fa_cons ⟨1, by decide, ct_X5_hasCell⟩ (fa_cons ⟨4, by decide, ct_X5_follow⟩ (fa_cons ⟨1, by decide, ct_X6_within⟩ (fa_cons ⟨1, by decide, ct_X6_refuse⟩ fa_nil)))))))) (Nat.le_of_ble_eq_true rfl) (rfl : narrow .int (.int x) = .int x) hn
theorem iX6_bestFrom {as : List AV} {c : CallR} (h : wX6_bestFrom as = some c) : (∃ (a0 : Nat) (a1 : Int32) (a2 : Int32), as = [aR 6 a0, aI a1, aI a2] ∧ c = cRI (fX6_bestFrom a0 a1 a2)) := by
  unfold wX6_bestFrom at h
  split at h
  · exact ⟨_, _, _, rfl, (Option.some.inj h).symm⟩
  · cases h
theorem ct_X6_bestFrom {l : Launch} {D : va_G} {cA : Nat → ClassId} {ov : Value} {aR0 : Nat → Nat → Nat} {B nS : Nat} {xs : Nat → Int32} {q : Nat} : Ctr l D cA ov aR0 B nS xs q 2 134 := by
  intro as c h
  have h : wX6_bestFrom as = some c := h
  rcases iX6_bestFrom h with ⟨a0, a1, a2, rfl, rfl⟩
  · refine ⟨⟨rfl, fun _ => ⟨_, _, rfl⟩⟩, fun m v m' ha => ?_⟩
    obtain ⟨x, hx, rfl⟩ := ha
    rw [fX6_bestFrom_eq] at hx
    obtain ⟨n, hn⟩ := pfX6_bestFrom q (csF_m q) a0 a1 a2 m (x, m') _ hx ⟨0, rfl⟩
    exact ctr_mk (t := tX6_bestFrom) (cl := [120]) (by decide) (tabOK_mk okX6_bestFrom (by decide +kernel)) (by decide +kernel) (by decide) (fa_cons ⟨1, by decide, ct_X6_within⟩ fa_nil) (Nat.le_of_ble_eq_true rfl) (rfl : narrow .int (.int x) = .int x) hn
theorem iX6_pairingScore {as : List AV} {c : CallR} (h : wX6_pairingScore as = some c) : (∃ (a0 : Nat) (a1 : Int32) (a2 : Int32) (a3 : Int32), as = [aR 6 a0, aI a1, aI a2, aI a3] ∧ c = cRI (fX6_pairingScore a0 a1 a2 a3)) := by
  unfold wX6_pairingScore at h
  split at h
  · exact ⟨_, _, _, _, rfl, (Option.some.inj h).symm⟩
  · cases h
theorem ct_X6_pairingScore {l : Launch} {D : va_G} {cA : Nat → ClassId} {ov : Value} {aR0 : Nat → Nat → Nat} {B nS : Nat} {xs : Nat → Int32} {q : Nat} : Ctr l D cA ov aR0 B nS xs q 3 135 := by
  intro as c h
  have h : wX6_pairingScore as = some c := h
  rcases iX6_pairingScore h with ⟨a0, a1, a2, a3, rfl, rfl⟩
  · refine ⟨⟨rfl, fun _ => ⟨_, _, rfl⟩⟩, fun m v m' ha => ?_⟩
    obtain ⟨x, hx, rfl⟩ := ha
    rw [fX6_pairingScore_eq] at hx
    obtain ⟨n, hn⟩ := pfX6_pairingScore q (csF_m q) a0 a1 a2 a3 m (x, m') _ hx ⟨0, rfl⟩
    exact ctr_mk (t := tX6_pairingScore) (cl := [120, 134]) (by decide) (tabOK_mk okX6_pairingScore (by decide +kernel)) (by decide +kernel) (by decide) (fa_cons ⟨1, by decide, ct_X6_within⟩ (fa_cons ⟨2, by decide, ct_X6_bestFrom⟩ fa_nil)) (Nat.le_of_ble_eq_true rfl) (rfl : narrow .int (.int x) = .int x) hn
theorem iX6_fillBestPairs {as : List AV} {c : CallR} (h : wX6_fillBestPairs as = some c) : (∃ (a0 : Nat), as = [aR 6 a0] ∧ c = cRV (fX6_fillBestPairs a0)) := by
  unfold wX6_fillBestPairs at h
  split at h
  · exact ⟨_, rfl, (Option.some.inj h).symm⟩
  · cases h
theorem ct_X6_fillBestPairs {l : Launch} {D : va_G} {cA : Nat → ClassId} {ov : Value} {aR0 : Nat → Nat → Nat} {B nS : Nat} {xs : Nat → Int32} {q : Nat} : Ctr l D cA ov aR0 B nS xs q 4 133 := by
  intro as c h
  have h : wX6_fillBestPairs as = some c := h
  rcases iX6_fillBestPairs h with ⟨a0, rfl, rfl⟩
  · refine ⟨⟨rfl, fun _ => ⟨_, _, rfl⟩⟩, fun m v m' ha => ?_⟩
    obtain ⟨x, hx, rfl⟩ := ha
    rw [fX6_fillBestPairs_eq] at hx
    obtain ⟨n, hn⟩ := pfX6_fillBestPairs q (csF_m q) a0 m (x, m') _ hx ⟨0, rfl⟩
    exact ctr_mk (t := tX6_fillBestPairs) (cl := [134, 135]) (by decide) (tabOK_mk okX6_fillBestPairs (by decide +kernel)) (by decide +kernel) (by decide) (fa_cons ⟨2, by decide, ct_X6_bestFrom⟩ (fa_cons ⟨3, by decide, ct_X6_pairingScore⟩ fa_nil)) (Nat.le_of_ble_eq_true rfl) trivial hn
theorem iX6_fillMeetings {as : List AV} {c : CallR} (h : wX6_fillMeetings as = some c) : (∃ (a0 : Nat) (a1 : Int32), as = [aR 6 a0, aI a1] ∧ c = cRV (fX6_fillMeetings a0 a1)) := by
  unfold wX6_fillMeetings at h
  split at h
  · exact ⟨_, _, rfl, (Option.some.inj h).symm⟩
  · cases h
theorem ct_X6_fillMeetings {l : Launch} {D : va_G} {cA : Nat → ClassId} {ov : Value} {aR0 : Nat → Nat → Nat} {B nS : Nat} {xs : Nat → Int32} {q : Nat} : Ctr l D cA ov aR0 B nS xs q 5 132 := by
  intro as c h
  have h : wX6_fillMeetings as = some c := h
  rcases iX6_fillMeetings h with ⟨a0, a1, rfl, rfl⟩
  · refine ⟨⟨rfl, fun _ => ⟨_, _, rfl⟩⟩, fun m v m' ha => ?_⟩
    obtain ⟨x, hx, rfl⟩ := ha
    rw [fX6_fillMeetings_eq] at hx
    obtain ⟨n, hn⟩ := pfX6_fillMeetings q (csF_m q) a0 a1 m (x, m') _ hx ⟨0, rfl⟩
    exact ctr_mk (t := tX6_fillMeetings) (cl := [42, 43, 57, 127]) (by decide) (tabOK_mk okX6_fillMeetings (by decide +kernel)) (by decide +kernel) (by decide) (fa_cons ⟨1, by decide, ct_X5_bottleAt⟩ (fa_cons ⟨1, by decide, ct_X5_walkerAt⟩ (fa_cons ⟨4, by decide, ct_X5_follow⟩ (fa_cons ⟨3, by decide, ct_X6_firstMeeting⟩ fa_nil)))) (Nat.le_of_ble_eq_true rfl) trivial hn
theorem iX6_partnerOf {as : List AV} {c : CallR} (h : wX6_partnerOf as = some c) : (∃ (a0 : Nat) (a1 : Int32), as = [aR 6 a0, aI a1] ∧ c = cRI (fX6_partnerOf a0 a1)) := by
  unfold wX6_partnerOf at h
  split at h
  · exact ⟨_, _, rfl, (Option.some.inj h).symm⟩
  · cases h
theorem ct_X6_partnerOf {l : Launch} {D : va_G} {cA : Nat → ClassId} {ov : Value} {aR0 : Nat → Nat → Nat} {B nS : Nat} {xs : Nat → Int32} {q : Nat} : Ctr l D cA ov aR0 B nS xs q 4 136 := by
  intro as c h
  have h : wX6_partnerOf as = some c := h
  rcases iX6_partnerOf h with ⟨a0, a1, rfl, rfl⟩
  · refine ⟨⟨rfl, fun _ => ⟨_, _, rfl⟩⟩, fun m v m' ha => ?_⟩
    obtain ⟨x, hx, rfl⟩ := ha
    rw [fX6_partnerOf_eq] at hx
    obtain ⟨n, hn⟩ := pfX6_partnerOf q (csF_m q) a0 a1 m (x, m') _ hx ⟨0, rfl⟩
    exact ctr_mk (t := tX6_partnerOf) (cl := [134, 135]) (by decide) (tabOK_mk okX6_partnerOf (by decide +kernel)) (by decide +kernel) (by decide) (fa_cons ⟨2, by decide, ct_X6_bestFrom⟩ (fa_cons ⟨3, by decide, ct_X6_pairingScore⟩ fa_nil)) (Nat.le_of_ble_eq_true rfl) (rfl : narrow .int (.int x) = .int x) hn
theorem iX6_pairs {as : List AV} {c : CallR} (h : wX6_pairs as = some c) : (∃ (a0 : Nat) (a1 : Int32) (a2 : Int32), as = [aR 6 a0, aI a1, aI a2] ∧ c = cRI (fX6_pairs a0 a1 a2)) := by
  unfold wX6_pairs at h
  split at h
  · exact ⟨_, _, _, rfl, (Option.some.inj h).symm⟩
  · cases h
theorem ct_X6_pairs {l : Launch} {D : va_G} {cA : Nat → ClassId} {ov : Value} {aR0 : Nat → Nat → Nat} {B nS : Nat} {xs : Nat → Int32} {q : Nat} : Ctr l D cA ov aR0 B nS xs q 6 94 := by
  intro as c h
  have h : wX6_pairs as = some c := h
  rcases iX6_pairs h with ⟨a0, a1, a2, rfl, rfl⟩
  · refine ⟨⟨rfl, fun _ => ⟨_, _, rfl⟩⟩, fun m v m' ha => ?_⟩
    obtain ⟨x, hx, rfl⟩ := ha
    rw [fX6_pairs_eq] at hx
    obtain ⟨n, hn⟩ := pfX6_pairs q (csF_m q) a0 a1 a2 m (x, m') _ hx ⟨0, rfl⟩
    exact ctr_mk (t := tX6_pairs) (cl := [42, 120, 124, 132, 133, 134, 136]) (by decide) (tabOK_mk okX6_pairs (by decide +kernel)) (by decide +kernel) (by decide) (fa_cons ⟨1, by decide, ct_X5_bottleAt⟩ (fa_cons ⟨1, by decide, ct_X6_within⟩ (fa_cons ⟨1, by decide, ct_X6_refuse⟩ (fa_cons ⟨5, by decide, ct_X6_fillMeetings⟩ (fa_cons ⟨4, by decide, ct_X6_fillBestPairs⟩ (fa_cons ⟨2, by decide, ct_X6_bestFrom⟩ (fa_cons ⟨4, by decide, ct_X6_partnerOf⟩ fa_nil))))))) (Nat.le_of_ble_eq_true rfl) (rfl : narrow .int (.int x) = .int x) hn
theorem iX6_mended {as : List AV} {c : CallR} (h : wX6_mended as = some c) : (∃ (a0 : Nat) (a1 : Int32) (a2 : Int32), as = [aR 6 a0, aI a1, aI a2] ∧ c = cRI (fX6_mended a0 a1 a2)) := by
  unfold wX6_mended at h
  split at h
  · exact ⟨_, _, _, rfl, (Option.some.inj h).symm⟩
  · cases h
theorem ct_X6_mended {l : Launch} {D : va_G} {cA : Nat → ClassId} {ov : Value} {aR0 : Nat → Nat → Nat} {B nS : Nat} {xs : Nat → Int32} {q : Nat} : Ctr l D cA ov aR0 B nS xs q 6 95 := by
  intro as c h
  have h : wX6_mended as = some c := h
  rcases iX6_mended h with ⟨a0, a1, a2, rfl, rfl⟩
  · refine ⟨⟨rfl, fun _ => ⟨_, _, rfl⟩⟩, fun m v m' ha => ?_⟩
    obtain ⟨x, hx, rfl⟩ := ha
    rw [fX6_mended_eq] at hx
    obtain ⟨n, hn⟩ := pfX6_mended q (csF_m q) a0 a1 a2 m (x, m') _ hx ⟨0, rfl⟩
    exact ctr_mk (t := tX6_mended) (cl := [34, 41, 42, 43, 47, 48, 57, 59, 120, 124]) (by decide) (tabOK_mk okX6_mended (by decide +kernel)) (by decide +kernel) (by decide) (fa_cons ⟨2, by decide, ct_X3_cellsVisited⟩ (fa_cons ⟨3, by decide, ct_X5_become⟩ (fa_cons ⟨1, by decide, ct_X5_bottleAt⟩ (fa_cons ⟨1, by decide, ct_X5_walkerAt⟩ (fa_cons ⟨1, by decide, ct_X5_flow⟩ (fa_cons ⟨1, by decide, ct_X5_setFlow⟩ (fa_cons ⟨4, by decide, ct_X5_follow⟩ (fa_cons ⟨5, by decide, ct_X5_daysTillFound⟩ (fa_cons ⟨1, by decide, ct_X6_within⟩ (fa_cons ⟨1, by decide, ct_X6_refuse⟩ fa_nil)))))))))) (Nat.le_of_ble_eq_true rfl) (rfl : narrow .int (.int x) = .int x) hn
theorem iX6_endsBy {as : List AV} {c : CallR} (h : wX6_endsBy as = some c) : (∃ (a0 : Nat) (a1 : Nat) (a2 : Int32) (a3 : Int32), as = [aR 6 a0, aR 0 a1, aI a2, aI a3] ∧ c = cRI (fX6_endsBy a0 a1 a2 a3)) := by
  unfold wX6_endsBy at h
  split at h
  · exact ⟨_, _, _, _, rfl, (Option.some.inj h).symm⟩
  · cases h
theorem ct_X6_endsBy {l : Launch} {D : va_G} {cA : Nat → ClassId} {ov : Value} {aR0 : Nat → Nat → Nat} {B nS : Nat} {xs : Nat → Int32} {q : Nat} : Ctr l D cA ov aR0 B nS xs q 4 130 := by
  intro as c h
  have h : wX6_endsBy as = some c := h
  rcases iX6_endsBy h with ⟨a0, a1, a2, a3, rfl, rfl⟩
  · refine ⟨⟨rfl, fun _ => ⟨_, _, rfl⟩⟩, fun m v m' ha => ?_⟩
    obtain ⟨x, hx, rfl⟩ := ha
    rw [fX6_endsBy_eq] at hx
    obtain ⟨n, hn⟩ := pfX6_endsBy q (csF_m q) a0 a1 a2 a3 m (x, m') _ hx ⟨0, rfl⟩
    exact ctr_mk (t := tX6_endsBy) (cl := [2, 37, 39, 43, 54, 56]) (by decide) (tabOK_mk okX6_endsBy (by decide +kernel)) (by decide +kernel) (by decide) (fa_cons ⟨1, by decide, ct_X0_become⟩ (fa_cons ⟨2, by decide, ct_X4_become⟩ (fa_cons ⟨1, by decide, ct_X4_stroll⟩ (fa_cons ⟨1, by decide, ct_X5_walkerAt⟩ (fa_cons ⟨1, by decide, ct_X5_dayBehind⟩ (fa_cons ⟨3, by decide, ct_X5_spend⟩ fa_nil)))))) (Nat.le_of_ble_eq_true rfl) (rfl : narrow .int (.int x) = .int x) hn
theorem iX6_odds {as : List AV} {c : CallR} (h : wX6_odds as = some c) : (∃ (a0 : Nat) (a1 : Int32) (a2 : Int32) (a3 : Int32), as = [aR 6 a0, aI a1, aI a2, aI a3] ∧ c = cRI (fX6_odds a0 a1 a2 a3)) := by
  unfold wX6_odds at h
  split at h
  · exact ⟨_, _, _, _, rfl, (Option.some.inj h).symm⟩
  · cases h
theorem ct_X6_odds {l : Launch} {D : va_G} {cA : Nat → ClassId} {ov : Value} {aR0 : Nat → Nat → Nat} {B nS : Nat} {xs : Nat → Int32} {q : Nat} : Ctr l D cA ov aR0 B nS xs q 5 96 := by
  intro as c h
  have h : wX6_odds as = some c := h
  rcases iX6_odds h with ⟨a0, a1, a2, a3, rfl, rfl⟩
  · refine ⟨⟨rfl, fun _ => ⟨_, _, rfl⟩⟩, fun m v m' ha => ?_⟩
    obtain ⟨x, hx, rfl⟩ := ha
    rw [fX6_odds_eq] at hx
    obtain ⟨n, hn⟩ := pfX6_odds q (csF_m q) a0 a1 a2 a3 m (x, m') _ hx ⟨0, rfl⟩
    exact ctr_mk (t := tX6_odds) (cl := [41, 42, 120, 124, 130]) (by decide) (tabOK_mk okX6_odds (by decide +kernel)) (by decide +kernel) (by decide) (fa_cons ⟨3, by decide, ct_X5_become⟩ (fa_cons ⟨1, by decide, ct_X5_bottleAt⟩ (fa_cons ⟨1, by decide, ct_X6_within⟩ (fa_cons ⟨1, by decide, ct_X6_refuse⟩ (fa_cons ⟨4, by decide, ct_X6_endsBy⟩ fa_nil))))) (Nat.le_of_ble_eq_true rfl) (rfl : narrow .int (.int x) = .int x) hn
theorem iX6_windFor {as : List AV} {c : CallR} (h : wX6_windFor as = some c) : (∃ (a0 : Nat) (a1 : Int32), as = [aR 6 a0, aI a1] ∧ c = cRI (fX6_windFor a0 a1)) := by
  unfold wX6_windFor at h
  split at h
  · exact ⟨_, _, rfl, (Option.some.inj h).symm⟩
  · cases h
theorem ct_X6_windFor {l : Launch} {D : va_G} {cA : Nat → ClassId} {ov : Value} {aR0 : Nat → Nat → Nat} {B nS : Nat} {xs : Nat → Int32} {q : Nat} : Ctr l D cA ov aR0 B nS xs q 6 97 := by
  intro as c h
  have h : wX6_windFor as = some c := h
  rcases iX6_windFor h with ⟨a0, a1, rfl, rfl⟩
  · refine ⟨⟨rfl, fun _ => ⟨_, _, rfl⟩⟩, fun m v m' ha => ?_⟩
    obtain ⟨x, hx, rfl⟩ := ha
    rw [fX6_windFor_eq] at hx
    obtain ⟨n, hn⟩ := pfX6_windFor q (csF_m q) a0 a1 m (x, m') _ hx ⟨0, rfl⟩
    exact ctr_mk (t := tX6_windFor) (cl := [41, 42, 59, 124]) (by decide) (tabOK_mk okX6_windFor (by decide +kernel)) (by decide +kernel) (by decide) (fa_cons ⟨3, by decide, ct_X5_become⟩ (fa_cons ⟨1, by decide, ct_X5_bottleAt⟩ (fa_cons ⟨5, by decide, ct_X5_daysTillFound⟩ (fa_cons ⟨1, by decide, ct_X6_refuse⟩ fa_nil)))) (Nat.le_of_ble_eq_true rfl) (rfl : narrow .int (.int x) = .int x) hn
theorem iX6_bestWind {as : List AV} {c : CallR} (h : wX6_bestWind as = some c) : (∃ (a0 : Nat) (a1 : Int32) (a2 : Int32), as = [aR 6 a0, aI a1, aI a2] ∧ c = cRI (fX6_bestWind a0 a1 a2)) := by
  unfold wX6_bestWind at h
  split at h
  · exact ⟨_, _, _, rfl, (Option.some.inj h).symm⟩
  · cases h
theorem ct_X6_bestWind {l : Launch} {D : va_G} {cA : Nat → ClassId} {ov : Value} {aR0 : Nat → Nat → Nat} {B nS : Nat} {xs : Nat → Int32} {q : Nat} : Ctr l D cA ov aR0 B nS xs q 6 98 := by
  intro as c h
  have h : wX6_bestWind as = some c := h
  rcases iX6_bestWind h with ⟨a0, a1, a2, rfl, rfl⟩
  · refine ⟨⟨rfl, fun _ => ⟨_, _, rfl⟩⟩, fun m v m' ha => ?_⟩
    obtain ⟨x, hx, rfl⟩ := ha
    rw [fX6_bestWind_eq] at hx
    obtain ⟨n, hn⟩ := pfX6_bestWind q (csF_m q) a0 a1 a2 m (x, m') _ hx ⟨0, rfl⟩
    exact ctr_mk (t := tX6_bestWind) (cl := [41, 60, 120, 124]) (by decide) (tabOK_mk okX6_bestWind (by decide +kernel)) (by decide +kernel) (by decide) (fa_cons ⟨3, by decide, ct_X5_become⟩ (fa_cons ⟨5, by decide, ct_X5_countFound⟩ (fa_cons ⟨1, by decide, ct_X6_within⟩ (fa_cons ⟨1, by decide, ct_X6_refuse⟩ fa_nil)))) (Nat.le_of_ble_eq_true rfl) (rfl : narrow .int (.int x) = .int x) hn
theorem iX6_who {as : List AV} {c : CallR} (h : wX6_who as = some c) : (∃ (a0 : Nat) (a1 : Int32), as = [aR 6 a0, aI a1] ∧ c = cRI (fX6_who a0 a1)) := by
  unfold wX6_who at h
  split at h
  · exact ⟨_, _, rfl, (Option.some.inj h).symm⟩
  · cases h
theorem ct_X6_who {l : Launch} {D : va_G} {cA : Nat → ClassId} {ov : Value} {aR0 : Nat → Nat → Nat} {B nS : Nat} {xs : Nat → Int32} {q : Nat} : Ctr l D cA ov aR0 B nS xs q 6 99 := by
  intro as c h
  have h : wX6_who as = some c := h
  rcases iX6_who h with ⟨a0, a1, rfl, rfl⟩
  · refine ⟨⟨rfl, fun _ => ⟨_, _, rfl⟩⟩, fun m v m' ha => ?_⟩
    obtain ⟨x, hx, rfl⟩ := ha
    rw [fX6_who_eq] at hx
    obtain ⟨n, hn⟩ := pfX6_who q (csF_m q) a0 a1 m (x, m') _ hx ⟨0, rfl⟩
    exact ctr_mk (t := tX6_who) (cl := [42, 59, 120, 124]) (by decide) (tabOK_mk okX6_who (by decide +kernel)) (by decide +kernel) (by decide) (fa_cons ⟨1, by decide, ct_X5_bottleAt⟩ (fa_cons ⟨5, by decide, ct_X5_daysTillFound⟩ (fa_cons ⟨1, by decide, ct_X6_within⟩ (fa_cons ⟨1, by decide, ct_X6_refuse⟩ fa_nil)))) (Nat.le_of_ble_eq_true rfl) (rfl : narrow .int (.int x) = .int x) hn
theorem iX6_there {as : List AV} {c : CallR} (h : wX6_there as = some c) : (∃ (a0 : Nat) (a1 : Int32) (a2 : Int32), as = [aR 6 a0, aI a1, aI a2] ∧ c = cRI (fX6_there a0 a1 a2)) := by
  unfold wX6_there at h
  split at h
  · exact ⟨_, _, _, rfl, (Option.some.inj h).symm⟩
  · cases h
theorem ct_X6_there {l : Launch} {D : va_G} {cA : Nat → ClassId} {ov : Value} {aR0 : Nat → Nat → Nat} {B nS : Nat} {xs : Nat → Int32} {q : Nat} : Ctr l D cA ov aR0 B nS xs q 3 100 := by
  intro as c h
  have h : wX6_there as = some c := h
  rcases iX6_there h with ⟨a0, a1, a2, rfl, rfl⟩
  · refine ⟨⟨rfl, fun _ => ⟨_, _, rfl⟩⟩, fun m v m' ha => ?_⟩
    obtain ⟨x, hx, rfl⟩ := ha
    rw [fX6_there_eq] at hx
    obtain ⟨n, hn⟩ := pfX6_there q (csF_m q) a0 a1 a2 m (x, m') _ hx ⟨0, rfl⟩
    exact ctr_mk (t := tX6_there) (cl := [44, 52, 53, 120, 124]) (by decide) (tabOK_mk okX6_there (by decide +kernel)) (by decide +kernel) (by decide) (fa_cons ⟨1, by decide, ct_X5_hasCell⟩ (fa_cons ⟨2, by decide, ct_X5_afloatIn⟩ (fa_cons ⟨2, by decide, ct_X5_walkersAt⟩ (fa_cons ⟨1, by decide, ct_X6_within⟩ (fa_cons ⟨1, by decide, ct_X6_refuse⟩ fa_nil))))) (Nat.le_of_ble_eq_true rfl) (rfl : narrow .int (.int x) = .int x) hn
theorem iX6_settles {as : List AV} {c : CallR} (h : wX6_settles as = some c) : (∃ (a0 : Nat) (a1 : Int32), as = [aR 6 a0, aI a1] ∧ c = cRI (fX6_settles a0 a1)) := by
  unfold wX6_settles at h
  split at h
  · exact ⟨_, _, rfl, (Option.some.inj h).symm⟩
  · cases h
theorem ct_X6_settles {l : Launch} {D : va_G} {cA : Nat → ClassId} {ov : Value} {aR0 : Nat → Nat → Nat} {B nS : Nat} {xs : Nat → Int32} {q : Nat} : Ctr l D cA ov aR0 B nS xs q 5 101 := by
  intro as c h
  have h : wX6_settles as = some c := h
  rcases iX6_settles h with ⟨a0, a1, rfl, rfl⟩
  · refine ⟨⟨rfl, fun _ => ⟨_, _, rfl⟩⟩, fun m v m' ha => ?_⟩
    obtain ⟨x, hx, rfl⟩ := ha
    rw [fX6_settles_eq] at hx
    obtain ⟨n, hn⟩ := pfX6_settles q (csF_m q) a0 a1 m (x, m') _ hx ⟨0, rfl⟩
    exact ctr_mk (t := tX6_settles) (cl := [32, 33, 42, 57, 124]) (by decide) (tabOK_mk okX6_settles (by decide +kernel)) (by decide +kernel) (by decide) (fa_cons ⟨1, by decide, ct_X3_cellAt⟩ (fa_cons ⟨1, by decide, ct_X3_howAt⟩ (fa_cons ⟨1, by decide, ct_X5_bottleAt⟩ (fa_cons ⟨4, by decide, ct_X5_follow⟩ (fa_cons ⟨1, by decide, ct_X6_refuse⟩ fa_nil))))) (Nat.le_of_ble_eq_true rfl) (rfl : narrow .int (.int x) = .int x) hn
theorem iX6_reach {as : List AV} {c : CallR} (h : wX6_reach as = some c) : (∃ (a0 : Nat) (a1 : Int32) (a2 : Int32), as = [aR 6 a0, aI a1, aI a2] ∧ c = cRI (fX6_reach a0 a1 a2)) := by
  unfold wX6_reach at h
  split at h
  · exact ⟨_, _, _, rfl, (Option.some.inj h).symm⟩
  · cases h
theorem ct_X6_reach {l : Launch} {D : va_G} {cA : Nat → ClassId} {ov : Value} {aR0 : Nat → Nat → Nat} {B nS : Nat} {xs : Nat → Int32} {q : Nat} : Ctr l D cA ov aR0 B nS xs q 5 102 := by
  intro as c h
  have h : wX6_reach as = some c := h
  rcases iX6_reach h with ⟨a0, a1, a2, rfl, rfl⟩
  · refine ⟨⟨rfl, fun _ => ⟨_, _, rfl⟩⟩, fun m v m' ha => ?_⟩
    obtain ⟨x, hx, rfl⟩ := ha
    rw [fX6_reach_eq] at hx
    obtain ⟨n, hn⟩ := pfX6_reach q (csF_m q) a0 a1 a2 m (x, m') _ hx ⟨0, rfl⟩
    exact ctr_mk (t := tX6_reach) (cl := [32, 42, 57, 120, 124]) (by decide) (tabOK_mk okX6_reach (by decide +kernel)) (by decide +kernel) (by decide) (fa_cons ⟨1, by decide, ct_X3_cellAt⟩ (fa_cons ⟨1, by decide, ct_X5_bottleAt⟩ (fa_cons ⟨4, by decide, ct_X5_follow⟩ (fa_cons ⟨1, by decide, ct_X6_within⟩ (fa_cons ⟨1, by decide, ct_X6_refuse⟩ fa_nil))))) (Nat.le_of_ble_eq_true rfl) (rfl : narrow .int (.int x) = .int x) hn
theorem iX6_fillVisited {as : List AV} {c : CallR} (h : wX6_fillVisited as = some c) : (∃ (a0 : Nat), as = [aR 6 a0] ∧ c = cRV (fX6_fillVisited a0)) := by
  unfold wX6_fillVisited at h
  split at h
  · exact ⟨_, rfl, (Option.some.inj h).symm⟩
  · cases h
theorem ct_X6_fillVisited {l : Launch} {D : va_G} {cA : Nat → ClassId} {ov : Value} {aR0 : Nat → Nat → Nat} {B nS : Nat} {xs : Nat → Int32} {q : Nat} : Ctr l D cA ov aR0 B nS xs q 5 131 := by
  intro as c h
  have h : wX6_fillVisited as = some c := h
  rcases iX6_fillVisited h with ⟨a0, rfl, rfl⟩
  · refine ⟨⟨rfl, fun _ => ⟨_, _, rfl⟩⟩, fun m v m' ha => ?_⟩
    obtain ⟨x, hx, rfl⟩ := ha
    rw [fX6_fillVisited_eq] at hx
    obtain ⟨n, hn⟩ := pfX6_fillVisited q (csF_m q) a0 m (x, m') _ hx ⟨0, rfl⟩
    exact ctr_mk (t := tX6_fillVisited) (cl := [34, 42, 57]) (by decide) (tabOK_mk okX6_fillVisited (by decide +kernel)) (by decide +kernel) (by decide) (fa_cons ⟨2, by decide, ct_X3_cellsVisited⟩ (fa_cons ⟨1, by decide, ct_X5_bottleAt⟩ (fa_cons ⟨4, by decide, ct_X5_follow⟩ fa_nil))) (Nat.le_of_ble_eq_true rfl) trivial hn
theorem iX6_busiest {as : List AV} {c : CallR} (h : wX6_busiest as = some c) : (∃ (a0 : Nat) (a1 : Int32), as = [aR 6 a0, aI a1] ∧ c = cRI (fX6_busiest a0 a1)) := by
  unfold wX6_busiest at h
  split at h
  · exact ⟨_, _, rfl, (Option.some.inj h).symm⟩
  · cases h
theorem ct_X6_busiest {l : Launch} {D : va_G} {cA : Nat → ClassId} {ov : Value} {aR0 : Nat → Nat → Nat} {B nS : Nat} {xs : Nat → Int32} {q : Nat} : Ctr l D cA ov aR0 B nS xs q 6 103 := by
  intro as c h
  have h : wX6_busiest as = some c := h
  rcases iX6_busiest h with ⟨a0, a1, rfl, rfl⟩
  · refine ⟨⟨rfl, fun _ => ⟨_, _, rfl⟩⟩, fun m v m' ha => ?_⟩
    obtain ⟨x, hx, rfl⟩ := ha
    rw [fX6_busiest_eq] at hx
    obtain ⟨n, hn⟩ := pfX6_busiest q (csF_m q) a0 a1 m (x, m') _ hx ⟨0, rfl⟩
    exact ctr_mk (t := tX6_busiest) (cl := [120, 124, 131]) (by decide) (tabOK_mk okX6_busiest (by decide +kernel)) (by decide +kernel) (by decide) (fa_cons ⟨1, by decide, ct_X6_within⟩ (fa_cons ⟨1, by decide, ct_X6_refuse⟩ (fa_cons ⟨5, by decide, ct_X6_fillVisited⟩ fa_nil))) (Nat.le_of_ble_eq_true rfl) (rfl : narrow .int (.int x) = .int x) hn
