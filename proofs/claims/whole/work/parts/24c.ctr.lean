/-! CONTRACTS, 2 -/
theorem iX6_round {as : List AV} {c : CallR} (h : wX6_round as = some c) : (∃ (a0 : Nat) (a1 : Int32), as = [aR 6 a0, aI a1] ∧ c = cRI (fX6_round a0 a1)) := by
  unfold wX6_round at h
  split at h
  · exact ⟨_, _, rfl, (Option.some.inj h).symm⟩
  · cases h
theorem ct_X6_round {l : Launch} {D : va_G} {cA : Nat → ClassId} {ov : Value} {aR0 : Nat → Nat → Nat} {B nS : Nat} {xs : Nat → Int32} {q : Nat} : Ctr l D cA ov aR0 B nS xs q 3 104 := by
  intro as c h
  have h : wX6_round as = some c := h
  rcases iX6_round h with ⟨a0, a1, rfl, rfl⟩
  · refine ⟨⟨rfl, fun _ => ⟨_, _, rfl⟩⟩, fun m v m' ha => ?_⟩
    obtain ⟨x, hx, rfl⟩ := ha
    rw [fX6_round_eq] at hx
    obtain ⟨n, hn⟩ := pfX6_round q (csF_m q) a0 a1 m (x, m') _ hx ⟨0, rfl⟩
    exact ctr_mk (t := tX6_round) (cl := [37, 39, 43, 124]) (by decide) (tabOK_mk okX6_round (by decide +kernel)) (by decide +kernel) (by decide) (fa_cons ⟨2, by decide, ct_X4_become⟩ (fa_cons ⟨1, by decide, ct_X4_stroll⟩ (fa_cons ⟨1, by decide, ct_X5_walkerAt⟩ (fa_cons ⟨1, by decide, ct_X6_refuse⟩ fa_nil)))) (Nat.le_of_ble_eq_true rfl) (rfl : narrow .int (.int x) = .int x) hn
theorem iX6_join {as : List AV} {c : CallR} (h : wX6_join as = some c) : (∃ (a0 : Nat) (a1 : Int32) (a2 : Int32), as = [aR 6 a0, aI a1, aI a2] ∧ c = cRI (fX6_join a0 a1 a2)) := by
  unfold wX6_join at h
  split at h
  · exact ⟨_, _, _, rfl, (Option.some.inj h).symm⟩
  · cases h
theorem ct_X6_join {l : Launch} {D : va_G} {cA : Nat → ClassId} {ov : Value} {aR0 : Nat → Nat → Nat} {B nS : Nat} {xs : Nat → Int32} {q : Nat} : Ctr l D cA ov aR0 B nS xs q 5 105 := by
  intro as c h
  have h : wX6_join as = some c := h
  rcases iX6_join h with ⟨a0, a1, a2, rfl, rfl⟩
  · refine ⟨⟨rfl, fun _ => ⟨_, _, rfl⟩⟩, fun m v m' ha => ?_⟩
    obtain ⟨x, hx, rfl⟩ := ha
    rw [fX6_join_eq] at hx
    obtain ⟨n, hn⟩ := pfX6_join q (csF_m q) a0 a1 a2 m (x, m') _ hx ⟨0, rfl⟩
    exact ctr_mk (t := tX6_join) (cl := [32, 33, 42, 57, 124]) (by decide) (tabOK_mk okX6_join (by decide +kernel)) (by decide +kernel) (by decide) (fa_cons ⟨1, by decide, ct_X3_cellAt⟩ (fa_cons ⟨1, by decide, ct_X3_howAt⟩ (fa_cons ⟨1, by decide, ct_X5_bottleAt⟩ (fa_cons ⟨4, by decide, ct_X5_follow⟩ (fa_cons ⟨1, by decide, ct_X6_refuse⟩ fa_nil))))) (Nat.le_of_ble_eq_true rfl) (rfl : narrow .int (.int x) = .int x) hn
theorem iX6_breaks {as : List AV} {c : CallR} (h : wX6_breaks as = some c) : (∃ (a0 : Nat) (a1 : Int32), as = [aR 6 a0, aI a1] ∧ c = cRI (fX6_breaks a0 a1)) := by
  unfold wX6_breaks at h
  split at h
  · exact ⟨_, _, rfl, (Option.some.inj h).symm⟩
  · cases h
theorem ct_X6_breaks {l : Launch} {D : va_G} {cA : Nat → ClassId} {ov : Value} {aR0 : Nat → Nat → Nat} {B nS : Nat} {xs : Nat → Int32} {q : Nat} : Ctr l D cA ov aR0 B nS xs q 5 106 := by
  intro as c h
  have h : wX6_breaks as = some c := h
  rcases iX6_breaks h with ⟨a0, a1, rfl, rfl⟩
  · refine ⟨⟨rfl, fun _ => ⟨_, _, rfl⟩⟩, fun m v m' ha => ?_⟩
    obtain ⟨x, hx, rfl⟩ := ha
    rw [fX6_breaks_eq] at hx
    obtain ⟨n, hn⟩ := pfX6_breaks q (csF_m q) a0 a1 m (x, m') _ hx ⟨0, rfl⟩
    exact ctr_mk (t := tX6_breaks) (cl := [33, 42, 43, 57, 124]) (by decide) (tabOK_mk okX6_breaks (by decide +kernel)) (by decide +kernel) (by decide) (fa_cons ⟨1, by decide, ct_X3_howAt⟩ (fa_cons ⟨1, by decide, ct_X5_bottleAt⟩ (fa_cons ⟨1, by decide, ct_X5_walkerAt⟩ (fa_cons ⟨4, by decide, ct_X5_follow⟩ (fa_cons ⟨1, by decide, ct_X6_refuse⟩ fa_nil))))) (Nat.le_of_ble_eq_true rfl) (rfl : narrow .int (.int x) = .int x) hn
theorem iX6_first {as : List AV} {c : CallR} (h : wX6_first as = some c) : (∃ (a0 : Nat) (a1 : Int32), as = [aR 6 a0, aI a1] ∧ c = cRI (fX6_first a0 a1)) := by
  unfold wX6_first at h
  split at h
  · exact ⟨_, _, rfl, (Option.some.inj h).symm⟩
  · cases h
theorem ct_X6_first {l : Launch} {D : va_G} {cA : Nat → ClassId} {ov : Value} {aR0 : Nat → Nat → Nat} {B nS : Nat} {xs : Nat → Int32} {q : Nat} : Ctr l D cA ov aR0 B nS xs q 6 107 := by
  intro as c h
  have h : wX6_first as = some c := h
  rcases iX6_first h with ⟨a0, a1, rfl, rfl⟩
  · refine ⟨⟨rfl, fun _ => ⟨_, _, rfl⟩⟩, fun m v m' ha => ?_⟩
    obtain ⟨x, hx, rfl⟩ := ha
    rw [fX6_first_eq] at hx
    obtain ⟨n, hn⟩ := pfX6_first q (csF_m q) a0 a1 m (x, m') _ hx ⟨0, rfl⟩
    exact ctr_mk (t := tX6_first) (cl := [42, 43, 59, 124]) (by decide) (tabOK_mk okX6_first (by decide +kernel)) (by decide +kernel) (by decide) (fa_cons ⟨1, by decide, ct_X5_bottleAt⟩ (fa_cons ⟨1, by decide, ct_X5_walkerAt⟩ (fa_cons ⟨5, by decide, ct_X5_daysTillFound⟩ (fa_cons ⟨1, by decide, ct_X6_refuse⟩ fa_nil)))) (Nat.le_of_ble_eq_true rfl) (rfl : narrow .int (.int x) = .int x) hn
theorem iX6_next {as : List AV} {c : CallR} (h : wX6_next as = some c) : (∃ (a0 : Nat) (a1 : Int32) (a2 : Int32) (a3 : Int32), as = [aR 6 a0, aI a1, aI a2, aI a3] ∧ c = cRI (fX6_next a0 a1 a2 a3)) := by
  unfold wX6_next at h
  split at h
  · exact ⟨_, _, _, _, rfl, (Option.some.inj h).symm⟩
  · cases h
theorem ct_X6_next {l : Launch} {D : va_G} {cA : Nat → ClassId} {ov : Value} {aR0 : Nat → Nat → Nat} {B nS : Nat} {xs : Nat → Int32} {q : Nat} : Ctr l D cA ov aR0 B nS xs q 4 108 := by
  intro as c h
  have h : wX6_next as = some c := h
  rcases iX6_next h with ⟨a0, a1, a2, a3, rfl, rfl⟩
  · refine ⟨⟨rfl, fun _ => ⟨_, _, rfl⟩⟩, fun m v m' ha => ?_⟩
    obtain ⟨x, hx, rfl⟩ := ha
    rw [fX6_next_eq] at hx
    obtain ⟨n, hn⟩ := pfX6_next q (csF_m q) a0 a1 a2 a3 m (x, m') _ hx ⟨0, rfl⟩
    exact ctr_mk (t := tX6_next) (cl := [1, 44, 56, 120, 121, 124]) (by decide) (tabOK_mk okX6_next (by decide +kernel)) (by decide +kernel) (by decide) (fa_cons ⟨1, by decide, ct_X0_start⟩ (fa_cons ⟨1, by decide, ct_X5_hasCell⟩ (fa_cons ⟨3, by decide, ct_X5_spend⟩ (fa_cons ⟨1, by decide, ct_X6_within⟩ (fa_cons ⟨2, by decide, ct_X6_isKind⟩ (fa_cons ⟨1, by decide, ct_X6_refuse⟩ fa_nil)))))) (Nat.le_of_ble_eq_true rfl) (rfl : narrow .int (.int x) = .int x) hn
theorem iX6_stays {as : List AV} {c : CallR} (h : wX6_stays as = some c) : (∃ (a0 : Nat) (a1 : Int32) (a2 : Int32), as = [aR 6 a0, aI a1, aI a2] ∧ c = cRI (fX6_stays a0 a1 a2)) := by
  unfold wX6_stays at h
  split at h
  · exact ⟨_, _, _, rfl, (Option.some.inj h).symm⟩
  · cases h
theorem ct_X6_stays {l : Launch} {D : va_G} {cA : Nat → ClassId} {ov : Value} {aR0 : Nat → Nat → Nat} {B nS : Nat} {xs : Nat → Int32} {q : Nat} : Ctr l D cA ov aR0 B nS xs q 4 109 := by
  intro as c h
  have h : wX6_stays as = some c := h
  rcases iX6_stays h with ⟨a0, a1, a2, rfl, rfl⟩
  · refine ⟨⟨rfl, fun _ => ⟨_, _, rfl⟩⟩, fun m v m' ha => ?_⟩
    obtain ⟨x, hx, rfl⟩ := ha
    rw [fX6_stays_eq] at hx
    obtain ⟨n, hn⟩ := pfX6_stays q (csF_m q) a0 a1 a2 m (x, m') _ hx ⟨0, rfl⟩
    exact ctr_mk (t := tX6_stays) (cl := [1, 56, 120, 121, 124]) (by decide) (tabOK_mk okX6_stays (by decide +kernel)) (by decide +kernel) (by decide) (fa_cons ⟨1, by decide, ct_X0_start⟩ (fa_cons ⟨3, by decide, ct_X5_spend⟩ (fa_cons ⟨1, by decide, ct_X6_within⟩ (fa_cons ⟨2, by decide, ct_X6_isKind⟩ (fa_cons ⟨1, by decide, ct_X6_refuse⟩ fa_nil))))) (Nat.le_of_ble_eq_true rfl) (rfl : narrow .int (.int x) = .int x) hn
theorem iX6_strays {as : List AV} {c : CallR} (h : wX6_strays as = some c) : (∃ (a0 : Nat), as = [aR 6 a0] ∧ c = cRI (fX6_strays a0)) := by
  unfold wX6_strays at h
  split at h
  · exact ⟨_, rfl, (Option.some.inj h).symm⟩
  · cases h
theorem ct_X6_strays {l : Launch} {D : va_G} {cA : Nat → ClassId} {ov : Value} {aR0 : Nat → Nat → Nat} {B nS : Nat} {xs : Nat → Int32} {q : Nat} : Ctr l D cA ov aR0 B nS xs q 5 110 := by
  intro as c h
  have h : wX6_strays as = some c := h
  rcases iX6_strays h with ⟨a0, rfl, rfl⟩
  · refine ⟨⟨rfl, fun _ => ⟨_, _, rfl⟩⟩, fun m v m' ha => ?_⟩
    obtain ⟨x, hx, rfl⟩ := ha
    rw [fX6_strays_eq] at hx
    obtain ⟨n, hn⟩ := pfX6_strays q (csF_m q) a0 m (x, m') _ hx ⟨0, rfl⟩
    exact ctr_mk (t := tX6_strays) (cl := [33, 42, 43, 57]) (by decide) (tabOK_mk okX6_strays (by decide +kernel)) (by decide +kernel) (by decide) (fa_cons ⟨1, by decide, ct_X3_howAt⟩ (fa_cons ⟨1, by decide, ct_X5_bottleAt⟩ (fa_cons ⟨1, by decide, ct_X5_walkerAt⟩ (fa_cons ⟨4, by decide, ct_X5_follow⟩ fa_nil)))) (Nat.le_of_ble_eq_true rfl) (rfl : narrow .int (.int x) = .int x) hn
theorem iX6_ofKind {as : List AV} {c : CallR} (h : wX6_ofKind as = some c) : (∃ (a0 : Nat) (a1 : Int32), as = [aR 6 a0, aI a1] ∧ c = cRI (fX6_ofKind a0 a1)) := by
  unfold wX6_ofKind at h
  split at h
  · exact ⟨_, _, rfl, (Option.some.inj h).symm⟩
  · cases h
theorem ct_X6_ofKind {l : Launch} {D : va_G} {cA : Nat → ClassId} {ov : Value} {aR0 : Nat → Nat → Nat} {B nS : Nat} {xs : Nat → Int32} {q : Nat} : Ctr l D cA ov aR0 B nS xs q 3 111 := by
  intro as c h
  have h : wX6_ofKind as = some c := h
  rcases iX6_ofKind h with ⟨a0, a1, rfl, rfl⟩
  · refine ⟨⟨rfl, fun _ => ⟨_, _, rfl⟩⟩, fun m v m' ha => ?_⟩
    obtain ⟨x, hx, rfl⟩ := ha
    rw [fX6_ofKind_eq] at hx
    obtain ⟨n, hn⟩ := pfX6_ofKind q (csF_m q) a0 a1 m (x, m') _ hx ⟨0, rfl⟩
    exact ctr_mk (t := tX6_ofKind) (cl := [42, 121, 124]) (by decide) (tabOK_mk okX6_ofKind (by decide +kernel)) (by decide +kernel) (by decide) (fa_cons ⟨1, by decide, ct_X5_bottleAt⟩ (fa_cons ⟨2, by decide, ct_X6_isKind⟩ (fa_cons ⟨1, by decide, ct_X6_refuse⟩ fa_nil))) (Nat.le_of_ble_eq_true rfl) (rfl : narrow .int (.int x) = .int x) hn
theorem iX6_judge {as : List AV} {c : CallR} (h : wX6_judge as = some c) : (∃ (a0 : Nat) (a1 : Int32) (a2 : Int32) (a3 : Int32), as = [aR 6 a0, aI a1, aI a2, aI a3] ∧ c = cRI (fX6_judge a0 a1 a2 a3)) := by
  unfold wX6_judge at h
  split at h
  · exact ⟨_, _, _, _, rfl, (Option.some.inj h).symm⟩
  · cases h
theorem ct_X6_judge {l : Launch} {D : va_G} {cA : Nat → ClassId} {ov : Value} {aR0 : Nat → Nat → Nat} {B nS : Nat} {xs : Nat → Int32} {q : Nat} : Ctr l D cA ov aR0 B nS xs q 5 112 := by
  intro as c h
  have h : wX6_judge as = some c := h
  rcases iX6_judge h with ⟨a0, a1, a2, a3, rfl, rfl⟩
  · refine ⟨⟨rfl, fun _ => ⟨_, _, rfl⟩⟩, fun m v m' ha => ?_⟩
    obtain ⟨x, hx, rfl⟩ := ha
    rw [fX6_judge_eq] at hx
    obtain ⟨n, hn⟩ := pfX6_judge q (csF_m q) a0 a1 a2 a3 m (x, m') _ hx ⟨0, rfl⟩
    exact ctr_mk (t := tX6_judge) (cl := [6, 8, 13, 32, 42, 43, 57, 120, 124, 125]) (by decide) (tabOK_mk okX6_judge (by decide +kernel)) (by decide +kernel) (by decide) (fa_cons ⟨1, by decide, ct_X1_isRow⟩ (fa_cons ⟨2, by decide, ct_X1_whyNoRow⟩ (fa_cons ⟨2, by decide, ct_X1_take⟩ (fa_cons ⟨1, by decide, ct_X3_cellAt⟩ (fa_cons ⟨1, by decide, ct_X5_bottleAt⟩ (fa_cons ⟨1, by decide, ct_X5_walkerAt⟩ (fa_cons ⟨4, by decide, ct_X5_follow⟩ (fa_cons ⟨1, by decide, ct_X6_within⟩ (fa_cons ⟨1, by decide, ct_X6_refuse⟩ (fa_cons ⟨1, by decide, ct_X6_shelfAt⟩ fa_nil)))))))))) (Nat.le_of_ble_eq_true rfl) (rfl : narrow .int (.int x) = .int x) hn
theorem iX6_thrown {as : List AV} {c : CallR} (h : wX6_thrown as = some c) : (∃ (a0 : Nat) (a1 : Int32) (a2 : Int32) (a3 : Int32) (a4 : Int32), as = [aR 6 a0, aI a1, aI a2, aI a3, aI a4] ∧ c = cRI (fX6_thrown a0 a1 a2 a3 a4)) := by
  unfold wX6_thrown at h
  split at h
  · exact ⟨_, _, _, _, _, rfl, (Option.some.inj h).symm⟩
  · cases h
theorem ct_X6_thrown {l : Launch} {D : va_G} {cA : Nat → ClassId} {ov : Value} {aR0 : Nat → Nat → Nat} {B nS : Nat} {xs : Nat → Int32} {q : Nat} : Ctr l D cA ov aR0 B nS xs q 3 113 := by
  intro as c h
  have h : wX6_thrown as = some c := h
  rcases iX6_thrown h with ⟨a0, a1, a2, a3, a4, rfl, rfl⟩
  · refine ⟨⟨rfl, fun _ => ⟨_, _, rfl⟩⟩, fun m v m' ha => ?_⟩
    obtain ⟨x, hx, rfl⟩ := ha
    rw [fX6_thrown_eq] at hx
    obtain ⟨n, hn⟩ := pfX6_thrown q (csF_m q) a0 a1 a2 a3 a4 m (x, m') _ hx ⟨0, rfl⟩
    exact ctr_mk (t := tX6_thrown) (cl := [43, 44, 45, 49, 120, 121, 124]) (by decide) (tabOK_mk okX6_thrown (by decide +kernel)) (by decide +kernel) (by decide) (fa_cons ⟨1, by decide, ct_X5_walkerAt⟩ (fa_cons ⟨1, by decide, ct_X5_hasCell⟩ (fa_cons ⟨1, by decide, ct_X5_hasRoomForBottle⟩ (fa_cons ⟨2, by decide, ct_X5_addBottle⟩ (fa_cons ⟨1, by decide, ct_X6_within⟩ (fa_cons ⟨2, by decide, ct_X6_isKind⟩ (fa_cons ⟨1, by decide, ct_X6_refuse⟩ fa_nil))))))) (Nat.le_of_ble_eq_true rfl) (rfl : narrow .int (.int x) = .int x) hn
theorem iX6_days {as : List AV} {c : CallR} (h : wX6_days as = some c) : (∃ (a0 : Nat) (a1 : Int32), as = [aR 6 a0, aI a1] ∧ c = cRI (fX6_days a0 a1)) := by
  unfold wX6_days at h
  split at h
  · exact ⟨_, _, rfl, (Option.some.inj h).symm⟩
  · cases h
theorem ct_X6_days {l : Launch} {D : va_G} {cA : Nat → ClassId} {ov : Value} {aR0 : Nat → Nat → Nat} {B nS : Nat} {xs : Nat → Int32} {q : Nat} : Ctr l D cA ov aR0 B nS xs q 5 114 := by
  intro as c h
  have h : wX6_days as = some c := h
  rcases iX6_days h with ⟨a0, a1, rfl, rfl⟩
  · refine ⟨⟨rfl, fun _ => ⟨_, _, rfl⟩⟩, fun m v m' ha => ?_⟩
    obtain ⟨x, hx, rfl⟩ := ha
    rw [fX6_days_eq] at hx
    obtain ⟨n, hn⟩ := pfX6_days q (csF_m q) a0 a1 m (x, m') _ hx ⟨0, rfl⟩
    exact ctr_mk (t := tX6_days) (cl := [61, 120, 124]) (by decide) (tabOK_mk okX6_days (by decide +kernel)) (by decide +kernel) (by decide) (fa_cons ⟨4, by decide, ct_X5_passDay⟩ (fa_cons ⟨1, by decide, ct_X6_within⟩ (fa_cons ⟨1, by decide, ct_X6_refuse⟩ fa_nil))) (Nat.le_of_ble_eq_true rfl) (rfl : narrow .int (.int x) = .int x) hn
theorem iX6_drawn {as : List AV} {c : CallR} (h : wX6_drawn as = some c) : (∃ (a0 : Nat) (a1 : Int32), as = [aR 6 a0, aI a1] ∧ c = cRI (fX6_drawn a0 a1)) := by
  unfold wX6_drawn at h
  split at h
  · exact ⟨_, _, rfl, (Option.some.inj h).symm⟩
  · cases h
theorem ct_X6_drawn {l : Launch} {D : va_G} {cA : Nat → ClassId} {ov : Value} {aR0 : Nat → Nat → Nat} {B nS : Nat} {xs : Nat → Int32} {q : Nat} : Ctr l D cA ov aR0 B nS xs q 6 115 := by
  intro as c h
  have h : wX6_drawn as = some c := h
  rcases iX6_drawn h with ⟨a0, a1, rfl, rfl⟩
  · refine ⟨⟨rfl, fun _ => ⟨_, _, rfl⟩⟩, fun m v m' ha => ?_⟩
    obtain ⟨x, hx, rfl⟩ := ha
    rw [fX6_drawn_eq] at hx
    obtain ⟨n, hn⟩ := pfX6_drawn q (csF_m q) a0 a1 m (x, m') _ hx ⟨0, rfl⟩
    exact ctr_mk (t := tX6_drawn) (cl := [62, 120, 124]) (by decide) (tabOK_mk okX6_drawn (by decide +kernel)) (by decide +kernel) (by decide) (fa_cons ⟨5, by decide, ct_X5_passDrawnDay⟩ (fa_cons ⟨1, by decide, ct_X6_within⟩ (fa_cons ⟨1, by decide, ct_X6_refuse⟩ fa_nil))) (Nat.le_of_ble_eq_true rfl) (rfl : narrow .int (.int x) = .int x) hn
theorem iX6_seed {as : List AV} {c : CallR} (h : wX6_seed as = some c) : (∃ (a0 : Nat) (a1 : Int32), as = [aR 6 a0, aI a1] ∧ c = cRI (fX6_seed a0 a1)) := by
  unfold wX6_seed at h
  split at h
  · exact ⟨_, _, rfl, (Option.some.inj h).symm⟩
  · cases h
theorem ct_X6_seed {l : Launch} {D : va_G} {cA : Nat → ClassId} {ov : Value} {aR0 : Nat → Nat → Nat} {B nS : Nat} {xs : Nat → Int32} {q : Nat} : Ctr l D cA ov aR0 B nS xs q 1 116 := by
  intro as c h
  have h : wX6_seed as = some c := h
  rcases iX6_seed h with ⟨a0, a1, rfl, rfl⟩
  · refine ⟨⟨rfl, fun _ => ⟨_, _, rfl⟩⟩, fun m v m' ha => ?_⟩
    obtain ⟨x, hx, rfl⟩ := ha
    rw [fX6_seed_eq] at hx
    obtain ⟨n, hn⟩ := pfX6_seed q (csF_m q) a0 a1 m (x, m') _ hx ⟨0, rfl⟩
    exact ctr_mk (t := tX6_seed) (cl := []) (by decide) (tabOK_mk okX6_seed (by decide +kernel)) (by decide +kernel) (by decide) fa_nil (Nat.le_of_ble_eq_true rfl) (rfl : narrow .int (.int x) = .int x) hn
theorem iX6_image {as : List AV} {c : CallR} (h : wX6_image as = some c) : (∃ (a0 : Nat), as = [aR 6 a0] ∧ c = cRI (fX6_image a0)) := by
  unfold wX6_image at h
  split at h
  · exact ⟨_, rfl, (Option.some.inj h).symm⟩
  · cases h
theorem ct_X6_image {l : Launch} {D : va_G} {cA : Nat → ClassId} {ov : Value} {aR0 : Nat → Nat → Nat} {B nS : Nat} {xs : Nat → Int32} {q : Nat} : Ctr l D cA ov aR0 B nS xs q 4 117 := by
  intro as c h
  have h : wX6_image as = some c := h
  rcases iX6_image h with ⟨a0, rfl, rfl⟩
  · refine ⟨⟨rfl, fun _ => ⟨_, _, rfl⟩⟩, fun m v m' ha => ?_⟩
    obtain ⟨x, hx, rfl⟩ := ha
    rw [fX6_image_eq] at hx
    obtain ⟨n, hn⟩ := pfX6_image q (csF_m q) a0 m (x, m') _ hx ⟨0, rfl⟩
    exact ctr_mk (t := tX6_image) (cl := [41]) (by decide) (tabOK_mk okX6_image (by decide +kernel)) (by decide +kernel) (by decide) (fa_cons ⟨3, by decide, ct_X5_become⟩ fa_nil) (Nat.le_of_ble_eq_true rfl) (rfl : narrow .int (.int x) = .int x) hn
theorem iX6_back {as : List AV} {c : CallR} (h : wX6_back as = some c) : (∃ (a0 : Nat), as = [aR 6 a0] ∧ c = cRI (fX6_back a0)) := by
  unfold wX6_back at h
  split at h
  · exact ⟨_, rfl, (Option.some.inj h).symm⟩
  · cases h
theorem ct_X6_back {l : Launch} {D : va_G} {cA : Nat → ClassId} {ov : Value} {aR0 : Nat → Nat → Nat} {B nS : Nat} {xs : Nat → Int32} {q : Nat} : Ctr l D cA ov aR0 B nS xs q 4 118 := by
  intro as c h
  have h : wX6_back as = some c := h
  rcases iX6_back h with ⟨a0, rfl, rfl⟩
  · refine ⟨⟨rfl, fun _ => ⟨_, _, rfl⟩⟩, fun m v m' ha => ?_⟩
    obtain ⟨x, hx, rfl⟩ := ha
    rw [fX6_back_eq] at hx
    obtain ⟨n, hn⟩ := pfX6_back q (csF_m q) a0 m (x, m') _ hx ⟨0, rfl⟩
    exact ctr_mk (t := tX6_back) (cl := [7, 41, 42, 124, 125]) (by decide) (tabOK_mk okX6_back (by decide +kernel)) (by decide +kernel) (by decide) (fa_cons ⟨1, by decide, ct_X1_isBottle⟩ (fa_cons ⟨3, by decide, ct_X5_become⟩ (fa_cons ⟨1, by decide, ct_X5_bottleAt⟩ (fa_cons ⟨1, by decide, ct_X6_refuse⟩ (fa_cons ⟨1, by decide, ct_X6_shelfAt⟩ fa_nil))))) (Nat.le_of_ble_eq_true rfl) (rfl : narrow .int (.int x) = .int x) hn
theorem iJ6_bitCount_0f7a4 {as : List AV} {c : CallR} (h : wJ6_bitCount_0f7a4 as = some c) : (∃ (a0 : Int32), as = [aI a0] ∧ c = cRI (fJ6_bitCount_0f7a4 a0)) := by
  unfold wJ6_bitCount_0f7a4 at h
  split at h
  · exact ⟨_, rfl, (Option.some.inj h).symm⟩
  · cases h
theorem ct_J6_bitCount_0f7a4 {l : Launch} {D : va_G} {cA : Nat → ClassId} {ov : Value} {aR0 : Nat → Nat → Nat} {B nS : Nat} {xs : Nat → Int32} {q : Nat} : Ctr l D cA ov aR0 B nS xs q 1 237 := by
  intro as c h
  have h : wJ6_bitCount_0f7a4 as = some c := h
  rcases iJ6_bitCount_0f7a4 h with ⟨a0, rfl, rfl⟩
  · refine ⟨⟨rfl, fun h => absurd h (by decide)⟩, fun m v m' ha => ?_⟩
    obtain ⟨x, hx, rfl⟩ := ha
    rw [fJ6_bitCount_0f7a4_eq] at hx
    obtain ⟨n, hn⟩ := pfJ6_bitCount_0f7a4 q (csF_m q) a0 m (x, m') _ hx ⟨0, rfl⟩
    exact ctr_mk (t := tJ6_bitCount_0f7a4) (cl := []) (by decide) (tabOK_mk okJ6_bitCount_0f7a4 (by decide +kernel)) (by decide +kernel) (by decide) fa_nil (Nat.le_of_ble_eq_true rfl) (rfl : narrow .int (.int x) = .int x) hn
theorem iX6_shelvesInUse {as : List AV} {c : CallR} (h : wX6_shelvesInUse as = some c) : (∃ (a0 : Nat), as = [aR 6 a0] ∧ c = cRI (fX6_shelvesInUse a0)) := by
  unfold wX6_shelvesInUse at h
  split at h
  · exact ⟨_, rfl, (Option.some.inj h).symm⟩
  · cases h
theorem ct_X6_shelvesInUse {l : Launch} {D : va_G} {cA : Nat → ClassId} {ov : Value} {aR0 : Nat → Nat → Nat} {B nS : Nat} {xs : Nat → Int32} {q : Nat} : Ctr l D cA ov aR0 B nS xs q 3 126 := by
  intro as c h
  have h : wX6_shelvesInUse as = some c := h
  rcases iX6_shelvesInUse h with ⟨a0, rfl, rfl⟩
  · refine ⟨⟨rfl, fun _ => ⟨_, _, rfl⟩⟩, fun m v m' ha => ?_⟩
    obtain ⟨x, hx, rfl⟩ := ha
    rw [fX6_shelvesInUse_eq] at hx
    obtain ⟨n, hn⟩ := pfX6_shelvesInUse q (csF_m q) a0 m (x, m') _ hx ⟨0, rfl⟩
    exact ctr_mk (t := tX6_shelvesInUse) (cl := [69]) (by decide) (tabOK_mk okX6_shelvesInUse (by decide +kernel)) (by decide +kernel) (by decide) (fa_cons ⟨2, by decide, ct_X6_holds⟩ fa_nil) (Nat.le_of_ble_eq_true rfl) (rfl : narrow .int (.int x) = .int x) hn
theorem iX6_status {as : List AV} {c : CallR} (h : wX6_status as = some c) : (∃ (a0 : Nat) (a1 : Int32), as = [aR 6 a0, aI a1] ∧ c = cRI (fX6_status a0 a1)) := by
  unfold wX6_status at h
  split at h
  · exact ⟨_, _, rfl, (Option.some.inj h).symm⟩
  · cases h
theorem ct_X6_status {l : Launch} {D : va_G} {cA : Nat → ClassId} {ov : Value} {aR0 : Nat → Nat → Nat} {B nS : Nat} {xs : Nat → Int32} {q : Nat} : Ctr l D cA ov aR0 B nS xs q 7 119 := by
  intro as c h
  have h : wX6_status as = some c := h
  rcases iX6_status h with ⟨a0, a1, rfl, rfl⟩
  · refine ⟨⟨rfl, fun _ => ⟨_, _, rfl⟩⟩, fun m v m' ha => ?_⟩
    obtain ⟨x, hx, rfl⟩ := ha
    rw [fX6_status_eq] at hx
    obtain ⟨n, hn⟩ := pfX6_status q (csF_m q) a0 a1 m (x, m') _ hx ⟨0, rfl⟩
    exact ctr_mk (t := tX6_status) (cl := [99, 120, 126, 237]) (by decide) (tabOK_mk okX6_status (by decide +kernel)) (by decide +kernel) (by decide) (fa_cons ⟨6, by decide, ct_X6_who⟩ (fa_cons ⟨1, by decide, ct_X6_within⟩ (fa_cons ⟨3, by decide, ct_X6_shelvesInUse⟩ (fa_cons ⟨1, by decide, ct_J6_bitCount_0f7a4⟩ fa_nil)))) (Nat.le_of_ble_eq_true rfl) (rfl : narrow .int (.int x) = .int x) hn
theorem iX7_no {as : List AV} {c : CallR} (h : wX7_no as = some c) : (∃ (a0 : Nat) (a1 : Int32), as = [aR 7 a0, aI a1] ∧ c = cRI (fX7_no a0 a1)) := by
  unfold wX7_no at h
  split at h
  · exact ⟨_, _, rfl, (Option.some.inj h).symm⟩
  · cases h
theorem ct_X7_no {l : Launch} {D : va_G} {cA : Nat → ClassId} {ov : Value} {aR0 : Nat → Nat → Nat} {B nS : Nat} {xs : Nat → Int32} {q : Nat} : Ctr l D cA ov aR0 B nS xs q 1 138 := by
  intro as c h
  have h : wX7_no as = some c := h
  rcases iX7_no h with ⟨a0, a1, rfl, rfl⟩
  · refine ⟨⟨rfl, fun _ => ⟨_, _, rfl⟩⟩, fun m v m' ha => ?_⟩
    obtain ⟨x, hx, rfl⟩ := ha
    rw [fX7_no_eq] at hx
    obtain ⟨n, hn⟩ := pfX7_no q (csF_m q) a0 a1 m (x, m') _ hx ⟨0, rfl⟩
    exact ctr_mk (t := tX7_no) (cl := []) (by decide) (tabOK_mk okX7_no (by decide +kernel)) (by decide +kernel) (by decide) fa_nil (Nat.le_of_ble_eq_true rfl) (rfl : narrow .int (.int x) = .int x) hn
theorem iX7_within {as : List AV} {c : CallR} (h : wX7_within as = some c) : (∃ (a0 : Int32) (a1 : Int32) (a2 : Int32), as = [aI a0, aI a1, aI a2] ∧ c = cRZ (fX7_within a0 a1 a2)) := by
  unfold wX7_within at h
  split at h
  · exact ⟨_, _, _, rfl, (Option.some.inj h).symm⟩
  · cases h
theorem ct_X7_within {l : Launch} {D : va_G} {cA : Nat → ClassId} {ov : Value} {aR0 : Nat → Nat → Nat} {B nS : Nat} {xs : Nat → Int32} {q : Nat} : Ctr l D cA ov aR0 B nS xs q 1 139 := by
  intro as c h
  have h : wX7_within as = some c := h
  rcases iX7_within h with ⟨a0, a1, a2, rfl, rfl⟩
  · refine ⟨⟨rfl, fun h => absurd h (by decide)⟩, fun m v m' ha => ?_⟩
    obtain ⟨x, hx, rfl⟩ := ha
    rw [fX7_within_eq] at hx
    obtain ⟨n, hn⟩ := pfX7_within q (csF_m q) a0 a1 a2 m (x, m') _ hx ⟨0, rfl⟩
    exact ctr_mk (t := tX7_within) (cl := []) (by decide) (tabOK_mk okX7_within (by decide +kernel)) (by decide +kernel) (by decide) fa_nil (Nat.le_of_ble_eq_true rfl) (by cases x <;> rfl) hn
theorem iX7_isCell {as : List AV} {c : CallR} (h : wX7_isCell as = some c) : (∃ (a0 : Nat) (a1 : Int32), as = [aR 7 a0, aI a1] ∧ c = cRZ (fX7_isCell a0 a1)) := by
  unfold wX7_isCell at h
  split at h
  · exact ⟨_, _, rfl, (Option.some.inj h).symm⟩
  · cases h
theorem ct_X7_isCell {l : Launch} {D : va_G} {cA : Nat → ClassId} {ov : Value} {aR0 : Nat → Nat → Nat} {B nS : Nat} {xs : Nat → Int32} {q : Nat} : Ctr l D cA ov aR0 B nS xs q 2 140 := by
  intro as c h
  have h : wX7_isCell as = some c := h
  rcases iX7_isCell h with ⟨a0, a1, rfl, rfl⟩
  · refine ⟨⟨rfl, fun _ => ⟨_, _, rfl⟩⟩, fun m v m' ha => ?_⟩
    obtain ⟨x, hx, rfl⟩ := ha
    rw [fX7_isCell_eq] at hx
    obtain ⟨n, hn⟩ := pfX7_isCell q (csF_m q) a0 a1 m (x, m') _ hx ⟨0, rfl⟩
    exact ctr_mk (t := tX7_isCell) (cl := [139]) (by decide) (tabOK_mk okX7_isCell (by decide +kernel)) (by decide +kernel) (by decide) (fa_cons ⟨1, by decide, ct_X7_within⟩ fa_nil) (Nat.le_of_ble_eq_true rfl) (by cases x <;> rfl) hn
theorem iX7_isBottle {as : List AV} {c : CallR} (h : wX7_isBottle as = some c) : (∃ (a0 : Nat) (a1 : Int32), as = [aR 7 a0, aI a1] ∧ c = cRZ (fX7_isBottle a0 a1)) := by
  unfold wX7_isBottle at h
  split at h
  · exact ⟨_, _, rfl, (Option.some.inj h).symm⟩
  · cases h
theorem ct_X7_isBottle {l : Launch} {D : va_G} {cA : Nat → ClassId} {ov : Value} {aR0 : Nat → Nat → Nat} {B nS : Nat} {xs : Nat → Int32} {q : Nat} : Ctr l D cA ov aR0 B nS xs q 2 141 := by
  intro as c h
  have h : wX7_isBottle as = some c := h
  rcases iX7_isBottle h with ⟨a0, a1, rfl, rfl⟩
  · refine ⟨⟨rfl, fun _ => ⟨_, _, rfl⟩⟩, fun m v m' ha => ?_⟩
    obtain ⟨x, hx, rfl⟩ := ha
    rw [fX7_isBottle_eq] at hx
    obtain ⟨n, hn⟩ := pfX7_isBottle q (csF_m q) a0 a1 m (x, m') _ hx ⟨0, rfl⟩
    exact ctr_mk (t := tX7_isBottle) (cl := [139]) (by decide) (tabOK_mk okX7_isBottle (by decide +kernel)) (by decide +kernel) (by decide) (fa_cons ⟨1, by decide, ct_X7_within⟩ fa_nil) (Nat.le_of_ble_eq_true rfl) (by cases x <;> rfl) hn
theorem iX7_isWalker {as : List AV} {c : CallR} (h : wX7_isWalker as = some c) : (∃ (a0 : Nat) (a1 : Int32), as = [aR 7 a0, aI a1] ∧ c = cRZ (fX7_isWalker a0 a1)) := by
  unfold wX7_isWalker at h
  split at h
  · exact ⟨_, _, rfl, (Option.some.inj h).symm⟩
  · cases h
theorem ct_X7_isWalker {l : Launch} {D : va_G} {cA : Nat → ClassId} {ov : Value} {aR0 : Nat → Nat → Nat} {B nS : Nat} {xs : Nat → Int32} {q : Nat} : Ctr l D cA ov aR0 B nS xs q 2 142 := by
  intro as c h
  have h : wX7_isWalker as = some c := h
  rcases iX7_isWalker h with ⟨a0, a1, rfl, rfl⟩
  · refine ⟨⟨rfl, fun _ => ⟨_, _, rfl⟩⟩, fun m v m' ha => ?_⟩
    obtain ⟨x, hx, rfl⟩ := ha
    rw [fX7_isWalker_eq] at hx
    obtain ⟨n, hn⟩ := pfX7_isWalker q (csF_m q) a0 a1 m (x, m') _ hx ⟨0, rfl⟩
    exact ctr_mk (t := tX7_isWalker) (cl := [139]) (by decide) (tabOK_mk okX7_isWalker (by decide +kernel)) (by decide +kernel) (by decide) (fa_cons ⟨1, by decide, ct_X7_within⟩ fa_nil) (Nat.le_of_ble_eq_true rfl) (by cases x <;> rfl) hn
theorem iX7_isSuch {as : List AV} {c : CallR} (h : wX7_isSuch as = some c) : (∃ (a0 : Int32) (a1 : Int32), as = [aI a0, aI a1] ∧ c = cRZ (fX7_isSuch a0 a1)) := by
  unfold wX7_isSuch at h
  split at h
  · exact ⟨_, _, rfl, (Option.some.inj h).symm⟩
  · cases h
theorem ct_X7_isSuch {l : Launch} {D : va_G} {cA : Nat → ClassId} {ov : Value} {aR0 : Nat → Nat → Nat} {B nS : Nat} {xs : Nat → Int32} {q : Nat} : Ctr l D cA ov aR0 B nS xs q 2 143 := by
  intro as c h
  have h : wX7_isSuch as = some c := h
  rcases iX7_isSuch h with ⟨a0, a1, rfl, rfl⟩
  · refine ⟨⟨rfl, fun h => absurd h (by decide)⟩, fun m v m' ha => ?_⟩
    obtain ⟨x, hx, rfl⟩ := ha
    rw [fX7_isSuch_eq] at hx
    obtain ⟨n, hn⟩ := pfX7_isSuch q (csF_m q) a0 a1 m (x, m') _ hx ⟨0, rfl⟩
    exact ctr_mk (t := tX7_isSuch) (cl := [139]) (by decide) (tabOK_mk okX7_isSuch (by decide +kernel)) (by decide +kernel) (by decide) (fa_cons ⟨1, by decide, ct_X7_within⟩ fa_nil) (Nat.le_of_ble_eq_true rfl) (by cases x <;> rfl) hn
theorem iX7_isTime {as : List AV} {c : CallR} (h : wX7_isTime as = some c) : (∃ (a0 : Int32), as = [aI a0] ∧ c = cRZ (fX7_isTime a0)) := by
  unfold wX7_isTime at h
  split at h
  · exact ⟨_, rfl, (Option.some.inj h).symm⟩
  · cases h
theorem ct_X7_isTime {l : Launch} {D : va_G} {cA : Nat → ClassId} {ov : Value} {aR0 : Nat → Nat → Nat} {B nS : Nat} {xs : Nat → Int32} {q : Nat} : Ctr l D cA ov aR0 B nS xs q 2 144 := by
  intro as c h
  have h : wX7_isTime as = some c := h
  rcases iX7_isTime h with ⟨a0, rfl, rfl⟩
  · refine ⟨⟨rfl, fun h => absurd h (by decide)⟩, fun m v m' ha => ?_⟩
    obtain ⟨x, hx, rfl⟩ := ha
    rw [fX7_isTime_eq] at hx
    obtain ⟨n, hn⟩ := pfX7_isTime q (csF_m q) a0 m (x, m') _ hx ⟨0, rfl⟩
    exact ctr_mk (t := tX7_isTime) (cl := [139]) (by decide) (tabOK_mk okX7_isTime (by decide +kernel)) (by decide +kernel) (by decide) (fa_cons ⟨1, by decide, ct_X7_within⟩ fa_nil) (Nat.le_of_ble_eq_true rfl) (by cases x <;> rfl) hn
theorem iX7_isShelf {as : List AV} {c : CallR} (h : wX7_isShelf as = some c) : (∃ (a0 : Int32), as = [aI a0] ∧ c = cRZ (fX7_isShelf a0)) := by
  unfold wX7_isShelf at h
  split at h
  · exact ⟨_, rfl, (Option.some.inj h).symm⟩
  · cases h
theorem ct_X7_isShelf {l : Launch} {D : va_G} {cA : Nat → ClassId} {ov : Value} {aR0 : Nat → Nat → Nat} {B nS : Nat} {xs : Nat → Int32} {q : Nat} : Ctr l D cA ov aR0 B nS xs q 2 145 := by
  intro as c h
  have h : wX7_isShelf as = some c := h
  rcases iX7_isShelf h with ⟨a0, rfl, rfl⟩
  · refine ⟨⟨rfl, fun h => absurd h (by decide)⟩, fun m v m' ha => ?_⟩
    obtain ⟨x, hx, rfl⟩ := ha
    rw [fX7_isShelf_eq] at hx
    obtain ⟨n, hn⟩ := pfX7_isShelf q (csF_m q) a0 m (x, m') _ hx ⟨0, rfl⟩
    exact ctr_mk (t := tX7_isShelf) (cl := [139]) (by decide) (tabOK_mk okX7_isShelf (by decide +kernel)) (by decide +kernel) (by decide) (fa_cons ⟨1, by decide, ct_X7_within⟩ fa_nil) (Nat.le_of_ble_eq_true rfl) (by cases x <;> rfl) hn
theorem iX7_isRow {as : List AV} {c : CallR} (h : wX7_isRow as = some c) : (∃ (a0 : Nat) (a1 : Int32), as = [aR 7 a0, aI a1] ∧ c = cRZ (fX7_isRow a0 a1)) := by
  unfold wX7_isRow at h
  split at h
  · exact ⟨_, _, rfl, (Option.some.inj h).symm⟩
  · cases h
theorem ct_X7_isRow {l : Launch} {D : va_G} {cA : Nat → ClassId} {ov : Value} {aR0 : Nat → Nat → Nat} {B nS : Nat} {xs : Nat → Int32} {q : Nat} : Ctr l D cA ov aR0 B nS xs q 2 146 := by
  intro as c h
  have h : wX7_isRow as = some c := h
  rcases iX7_isRow h with ⟨a0, a1, rfl, rfl⟩
  · refine ⟨⟨rfl, fun _ => ⟨_, _, rfl⟩⟩, fun m v m' ha => ?_⟩
    obtain ⟨x, hx, rfl⟩ := ha
    rw [fX7_isRow_eq] at hx
    obtain ⟨n, hn⟩ := pfX7_isRow q (csF_m q) a0 a1 m (x, m') _ hx ⟨0, rfl⟩
    exact ctr_mk (t := tX7_isRow) (cl := [139]) (by decide) (tabOK_mk okX7_isRow (by decide +kernel)) (by decide +kernel) (by decide) (fa_cons ⟨1, by decide, ct_X7_within⟩ fa_nil) (Nat.le_of_ble_eq_true rfl) (by cases x <;> rfl) hn
theorem iX7_row {as : List AV} {c : CallR} (h : wX7_row as = some c) : (∃ (a0 : Nat) (a1 : Int32) (a2 : Int32) (a3 : Int32), as = [aR 7 a0, aI a1, aI a2, aI a3] ∧ c = cRI (fX7_row a0 a1 a2 a3)) := by
  unfold wX7_row at h
  split at h
  · exact ⟨_, _, _, _, rfl, (Option.some.inj h).symm⟩
  · cases h
theorem ct_X7_row {l : Launch} {D : va_G} {cA : Nat → ClassId} {ov : Value} {aR0 : Nat → Nat → Nat} {B nS : Nat} {xs : Nat → Int32} {q : Nat} : Ctr l D cA ov aR0 B nS xs q 3 147 := by
  intro as c h
  have h : wX7_row as = some c := h
  rcases iX7_row h with ⟨a0, a1, a2, a3, rfl, rfl⟩
  · refine ⟨⟨rfl, fun _ => ⟨_, _, rfl⟩⟩, fun m v m' ha => ?_⟩
    obtain ⟨x, hx, rfl⟩ := ha
    rw [fX7_row_eq] at hx
    obtain ⟨n, hn⟩ := pfX7_row q (csF_m q) a0 a1 a2 a3 m (x, m') _ hx ⟨0, rfl⟩
    exact ctr_mk (t := tX7_row) (cl := [138, 139, 145]) (by decide) (tabOK_mk okX7_row (by decide +kernel)) (by decide +kernel) (by decide) (fa_cons ⟨1, by decide, ct_X7_no⟩ (fa_cons ⟨1, by decide, ct_X7_within⟩ (fa_cons ⟨2, by decide, ct_X7_isShelf⟩ fa_nil))) (Nat.le_of_ble_eq_true rfl) (rfl : narrow .int (.int x) = .int x) hn
theorem iX7_noRow {as : List AV} {c : CallR} (h : wX7_noRow as = some c) : (∃ (a0 : Nat) (a1 : Int32), as = [aR 7 a0, aI a1] ∧ c = cRI (fX7_noRow a0 a1)) := by
  unfold wX7_noRow at h
  split at h
  · exact ⟨_, _, rfl, (Option.some.inj h).symm⟩
  · cases h
theorem ct_X7_noRow {l : Launch} {D : va_G} {cA : Nat → ClassId} {ov : Value} {aR0 : Nat → Nat → Nat} {B nS : Nat} {xs : Nat → Int32} {q : Nat} : Ctr l D cA ov aR0 B nS xs q 1 148 := by
  intro as c h
  have h : wX7_noRow as = some c := h
  rcases iX7_noRow h with ⟨a0, a1, rfl, rfl⟩
  · refine ⟨⟨rfl, fun _ => ⟨_, _, rfl⟩⟩, fun m v m' ha => ?_⟩
    obtain ⟨x, hx, rfl⟩ := ha
    rw [fX7_noRow_eq] at hx
    obtain ⟨n, hn⟩ := pfX7_noRow q (csF_m q) a0 a1 m (x, m') _ hx ⟨0, rfl⟩
    exact ctr_mk (t := tX7_noRow) (cl := []) (by decide) (tabOK_mk okX7_noRow (by decide +kernel)) (by decide +kernel) (by decide) fa_nil (Nat.le_of_ble_eq_true rfl) (rfl : narrow .int (.int x) = .int x) hn
theorem iX7_kept {as : List AV} {c : CallR} (h : wX7_kept as = some c) : (∃ (a0 : Int32) (a1 : Int64), as = [aI a0, aL a1] ∧ c = cRJ (fX7_kept a0 a1)) := by
  unfold wX7_kept at h
  split at h
  · exact ⟨_, _, rfl, (Option.some.inj h).symm⟩
  · cases h
theorem ct_X7_kept {l : Launch} {D : va_G} {cA : Nat → ClassId} {ov : Value} {aR0 : Nat → Nat → Nat} {B nS : Nat} {xs : Nat → Int32} {q : Nat} : Ctr l D cA ov aR0 B nS xs q 1 149 := by
  intro as c h
  have h : wX7_kept as = some c := h
  rcases iX7_kept h with ⟨a0, a1, rfl, rfl⟩
  · refine ⟨⟨rfl, fun h => absurd h (by decide)⟩, fun m v m' ha => ?_⟩
    obtain ⟨x, hx, rfl⟩ := ha
    rw [fX7_kept_eq] at hx
    obtain ⟨n, hn⟩ := pfX7_kept q (csF_m q) a0 a1 m (x, m') _ hx ⟨0, rfl⟩
    exact ctr_mk (t := tX7_kept) (cl := []) (by decide) (tabOK_mk okX7_kept (by decide +kernel)) (by decide +kernel) (by decide) fa_nil (Nat.le_of_ble_eq_true rfl) trivial hn
theorem iX7_set {as : List AV} {c : CallR} (h : wX7_set as = some c) : (∃ (a0 : Nat) (a1 : Int32) (a2 : Int32) (a3 : Int64), as = [aR 7 a0, aI a1, aI a2, aL a3] ∧ c = cRI (fX7_set a0 a1 a2 a3)) := by
  unfold wX7_set at h
  split at h
  · exact ⟨_, _, _, _, rfl, (Option.some.inj h).symm⟩
  · cases h
theorem ct_X7_set {l : Launch} {D : va_G} {cA : Nat → ClassId} {ov : Value} {aR0 : Nat → Nat → Nat} {B nS : Nat} {xs : Nat → Int32} {q : Nat} : Ctr l D cA ov aR0 B nS xs q 3 150 := by
  intro as c h
  have h : wX7_set as = some c := h
  rcases iX7_set h with ⟨a0, a1, a2, a3, rfl, rfl⟩
  · refine ⟨⟨rfl, fun _ => ⟨_, _, rfl⟩⟩, fun m v m' ha => ?_⟩
    obtain ⟨x, hx, rfl⟩ := ha
    rw [fX7_set_eq] at hx
    obtain ⟨n, hn⟩ := pfX7_set q (csF_m q) a0 a1 a2 a3 m (x, m') _ hx ⟨0, rfl⟩
    exact ctr_mk (t := tX7_set) (cl := [138, 139, 145, 146, 148, 149]) (by decide) (tabOK_mk okX7_set (by decide +kernel)) (by decide +kernel) (by decide) (fa_cons ⟨1, by decide, ct_X7_no⟩ (fa_cons ⟨1, by decide, ct_X7_within⟩ (fa_cons ⟨2, by decide, ct_X7_isShelf⟩ (fa_cons ⟨2, by decide, ct_X7_isRow⟩ (fa_cons ⟨1, by decide, ct_X7_noRow⟩ (fa_cons ⟨1, by decide, ct_X7_kept⟩ fa_nil)))))) (Nat.le_of_ble_eq_true rfl) (rfl : narrow .int (.int x) = .int x) hn
theorem iX7_copy {as : List AV} {c : CallR} (h : wX7_copy as = some c) : (∃ (a0 : Nat) (a1 : Int32) (a2 : Int32) (a3 : Int32) (a4 : Int32) (a5 : Int32), as = [aR 7 a0, aI a1, aI a2, aI a3, aI a4, aI a5] ∧ c = cRI (fX7_copy a0 a1 a2 a3 a4 a5)) := by
  unfold wX7_copy at h
  split at h
  · exact ⟨_, _, _, _, _, _, rfl, (Option.some.inj h).symm⟩
  · cases h
theorem ct_X7_copy {l : Launch} {D : va_G} {cA : Nat → ClassId} {ov : Value} {aR0 : Nat → Nat → Nat} {B nS : Nat} {xs : Nat → Int32} {q : Nat} : Ctr l D cA ov aR0 B nS xs q 3 151 := by
  intro as c h
  have h : wX7_copy as = some c := h
  rcases iX7_copy h with ⟨a0, a1, a2, a3, a4, a5, rfl, rfl⟩
  · refine ⟨⟨rfl, fun _ => ⟨_, _, rfl⟩⟩, fun m v m' ha => ?_⟩
    obtain ⟨x, hx, rfl⟩ := ha
    rw [fX7_copy_eq] at hx
    obtain ⟨n, hn⟩ := pfX7_copy q (csF_m q) a0 a1 a2 a3 a4 a5 m (x, m') _ hx ⟨0, rfl⟩
    exact ctr_mk (t := tX7_copy) (cl := [138, 145, 146]) (by decide) (tabOK_mk okX7_copy (by decide +kernel)) (by decide +kernel) (by decide) (fa_cons ⟨1, by decide, ct_X7_no⟩ (fa_cons ⟨2, by decide, ct_X7_isShelf⟩ (fa_cons ⟨2, by decide, ct_X7_isRow⟩ fa_nil))) (Nat.le_of_ble_eq_true rfl) (rfl : narrow .int (.int x) = .int x) hn
theorem iX7_element {as : List AV} {c : CallR} (h : wX7_element as = some c) : (∃ (a0 : Nat) (a1 : Int32) (a2 : Int32), as = [aR 7 a0, aI a1, aI a2] ∧ c = cRJ (fX7_element a0 a1 a2)) := by
  unfold wX7_element at h
  split at h
  · exact ⟨_, _, _, rfl, (Option.some.inj h).symm⟩
  · cases h
theorem ct_X7_element {l : Launch} {D : va_G} {cA : Nat → ClassId} {ov : Value} {aR0 : Nat → Nat → Nat} {B nS : Nat} {xs : Nat → Int32} {q : Nat} : Ctr l D cA ov aR0 B nS xs q 3 152 := by
  intro as c h
  have h : wX7_element as = some c := h
  rcases iX7_element h with ⟨a0, a1, a2, rfl, rfl⟩
  · refine ⟨⟨rfl, fun _ => ⟨_, _, rfl⟩⟩, fun m v m' ha => ?_⟩
    obtain ⟨x, hx, rfl⟩ := ha
    rw [fX7_element_eq] at hx
    obtain ⟨n, hn⟩ := pfX7_element q (csF_m q) a0 a1 a2 m (x, m') _ hx ⟨0, rfl⟩
    exact ctr_mk (t := tX7_element) (cl := [139, 145, 146]) (by decide) (tabOK_mk okX7_element (by decide +kernel)) (by decide +kernel) (by decide) (fa_cons ⟨1, by decide, ct_X7_within⟩ (fa_cons ⟨2, by decide, ct_X7_isShelf⟩ (fa_cons ⟨2, by decide, ct_X7_isRow⟩ fa_nil))) (Nat.le_of_ble_eq_true rfl) trivial hn
theorem iX7_holds {as : List AV} {c : CallR} (h : wX7_holds as = some c) : (∃ (a0 : Nat) (a1 : Int32), as = [aR 7 a0, aI a1] ∧ c = cRI (fX7_holds a0 a1)) := by
  unfold wX7_holds at h
  split at h
  · exact ⟨_, _, rfl, (Option.some.inj h).symm⟩
  · cases h
theorem ct_X7_holds {l : Launch} {D : va_G} {cA : Nat → ClassId} {ov : Value} {aR0 : Nat → Nat → Nat} {B nS : Nat} {xs : Nat → Int32} {q : Nat} : Ctr l D cA ov aR0 B nS xs q 3 153 := by
  intro as c h
  have h : wX7_holds as = some c := h
  rcases iX7_holds h with ⟨a0, a1, rfl, rfl⟩
  · refine ⟨⟨rfl, fun _ => ⟨_, _, rfl⟩⟩, fun m v m' ha => ?_⟩
    obtain ⟨x, hx, rfl⟩ := ha
    rw [fX7_holds_eq] at hx
    obtain ⟨n, hn⟩ := pfX7_holds q (csF_m q) a0 a1 m (x, m') _ hx ⟨0, rfl⟩
    exact ctr_mk (t := tX7_holds) (cl := [145]) (by decide) (tabOK_mk okX7_holds (by decide +kernel)) (by decide +kernel) (by decide) (fa_cons ⟨2, by decide, ct_X7_isShelf⟩ fa_nil) (Nat.le_of_ble_eq_true rfl) (rfl : narrow .int (.int x) = .int x) hn
theorem iX7_show {as : List AV} {c : CallR} (h : wX7_show as = some c) : (∃ (a0 : Nat) (a1 : Int32) (a2 : Int32), as = [aR 7 a0, aI a1, aI a2] ∧ c = cRI (fX7_show a0 a1 a2)) := by
  unfold wX7_show at h
  split at h
  · exact ⟨_, _, _, rfl, (Option.some.inj h).symm⟩
  · cases h
theorem ct_X7_show {l : Launch} {D : va_G} {cA : Nat → ClassId} {ov : Value} {aR0 : Nat → Nat → Nat} {B nS : Nat} {xs : Nat → Int32} {q : Nat} : Ctr l D cA ov aR0 B nS xs q 3 154 := by
  intro as c h
  have h : wX7_show as = some c := h
  rcases iX7_show h with ⟨a0, a1, a2, rfl, rfl⟩
  · refine ⟨⟨rfl, fun _ => ⟨_, _, rfl⟩⟩, fun m v m' ha => ?_⟩
    obtain ⟨x, hx, rfl⟩ := ha
    rw [fX7_show_eq] at hx
    obtain ⟨n, hn⟩ := pfX7_show q (csF_m q) a0 a1 a2 m (x, m') _ hx ⟨0, rfl⟩
    exact ctr_mk (t := tX7_show) (cl := [138, 141, 145]) (by decide) (tabOK_mk okX7_show (by decide +kernel)) (by decide +kernel) (by decide) (fa_cons ⟨1, by decide, ct_X7_no⟩ (fa_cons ⟨2, by decide, ct_X7_isBottle⟩ (fa_cons ⟨2, by decide, ct_X7_isShelf⟩ fa_nil))) (Nat.le_of_ble_eq_true rfl) (rfl : narrow .int (.int x) = .int x) hn
theorem iX7_isUnder {as : List AV} {c : CallR} (h : wX7_isUnder as = some c) : (∃ (a0 : Int32) (a1 : Int32), as = [aI a0, aI a1] ∧ c = cRZ (fX7_isUnder a0 a1)) := by
  unfold wX7_isUnder at h
  split at h
  · exact ⟨_, _, rfl, (Option.some.inj h).symm⟩
  · cases h
theorem ct_X7_isUnder {l : Launch} {D : va_G} {cA : Nat → ClassId} {ov : Value} {aR0 : Nat → Nat → Nat} {B nS : Nat} {xs : Nat → Int32} {q : Nat} : Ctr l D cA ov aR0 B nS xs q 1 155 := by
  intro as c h
  have h : wX7_isUnder as = some c := h
  rcases iX7_isUnder h with ⟨a0, a1, rfl, rfl⟩
  · refine ⟨⟨rfl, fun h => absurd h (by decide)⟩, fun m v m' ha => ?_⟩
    obtain ⟨x, hx, rfl⟩ := ha
    rw [fX7_isUnder_eq] at hx
    obtain ⟨n, hn⟩ := pfX7_isUnder q (csF_m q) a0 a1 m (x, m') _ hx ⟨0, rfl⟩
    exact ctr_mk (t := tX7_isUnder) (cl := []) (by decide) (tabOK_mk okX7_isUnder (by decide +kernel)) (by decide +kernel) (by decide) fa_nil (Nat.le_of_ble_eq_true rfl) (by cases x <;> rfl) hn
theorem iX7_drift {as : List AV} {c : CallR} (h : wX7_drift as = some c) : (∃ (a0 : Nat) (a1 : Int32), as = [aR 7 a0, aI a1] ∧ c = cRI (fX7_drift a0 a1)) := by
  unfold wX7_drift at h
  split at h
  · exact ⟨_, _, rfl, (Option.some.inj h).symm⟩
  · cases h
theorem ct_X7_drift {l : Launch} {D : va_G} {cA : Nat → ClassId} {ov : Value} {aR0 : Nat → Nat → Nat} {B nS : Nat} {xs : Nat → Int32} {q : Nat} : Ctr l D cA ov aR0 B nS xs q 1 182 := by
  intro as c h
  have h : wX7_drift as = some c := h
  rcases iX7_drift h with ⟨a0, a1, rfl, rfl⟩
  · refine ⟨⟨rfl, fun _ => ⟨_, _, rfl⟩⟩, fun m v m' ha => ?_⟩
    obtain ⟨x, hx, rfl⟩ := ha
    rw [fX7_drift_eq] at hx
    obtain ⟨n, hn⟩ := pfX7_drift q (csF_m q) a0 a1 m (x, m') _ hx ⟨0, rfl⟩
    exact ctr_mk (t := tX7_drift) (cl := []) (by decide) (tabOK_mk okX7_drift (by decide +kernel)) (by decide +kernel) (by decide) fa_nil (Nat.le_of_ble_eq_true rfl) (rfl : narrow .int (.int x) = .int x) hn
theorem iX7_says {as : List AV} {c : CallR} (h : wX7_says as = some c) : (∃ (a0 : Nat) (a1 : Int32) (a2 : Int32), as = [aR 7 a0, aI a1, aI a2] ∧ c = cRI (fX7_says a0 a1 a2)) := by
  unfold wX7_says at h
  split at h
  · exact ⟨_, _, _, rfl, (Option.some.inj h).symm⟩
  · cases h
theorem ct_X7_says {l : Launch} {D : va_G} {cA : Nat → ClassId} {ov : Value} {aR0 : Nat → Nat → Nat} {B nS : Nat} {xs : Nat → Int32} {q : Nat} : Ctr l D cA ov aR0 B nS xs q 3 156 := by
  intro as c h
  have h : wX7_says as = some c := h
  rcases iX7_says h with ⟨a0, a1, a2, rfl, rfl⟩
  · refine ⟨⟨rfl, fun _ => ⟨_, _, rfl⟩⟩, fun m v m' ha => ?_⟩
    obtain ⟨x, hx, rfl⟩ := ha
    rw [fX7_says_eq] at hx
    obtain ⟨n, hn⟩ := pfX7_says q (csF_m q) a0 a1 a2 m (x, m') _ hx ⟨0, rfl⟩
    exact ctr_mk (t := tX7_says) (cl := [138, 139, 145, 146, 155, 182]) (by decide) (tabOK_mk okX7_says (by decide +kernel)) (by decide +kernel) (by decide) (fa_cons ⟨1, by decide, ct_X7_no⟩ (fa_cons ⟨1, by decide, ct_X7_within⟩ (fa_cons ⟨2, by decide, ct_X7_isShelf⟩ (fa_cons ⟨2, by decide, ct_X7_isRow⟩ (fa_cons ⟨1, by decide, ct_X7_isUnder⟩ (fa_cons ⟨1, by decide, ct_X7_drift⟩ fa_nil)))))) (Nat.le_of_ble_eq_true rfl) (rfl : narrow .int (.int x) = .int x) hn
theorem iX7_paves {as : List AV} {c : CallR} (h : wX7_paves as = some c) : (∃ (a0 : Nat) (a1 : Int32), as = [aR 7 a0, aI a1] ∧ c = cRI (fX7_paves a0 a1)) := by
  unfold wX7_paves at h
  split at h
  · exact ⟨_, _, rfl, (Option.some.inj h).symm⟩
  · cases h
theorem ct_X7_paves {l : Launch} {D : va_G} {cA : Nat → ClassId} {ov : Value} {aR0 : Nat → Nat → Nat} {B nS : Nat} {xs : Nat → Int32} {q : Nat} : Ctr l D cA ov aR0 B nS xs q 2 157 := by
  intro as c h
  have h : wX7_paves as = some c := h
  rcases iX7_paves h with ⟨a0, a1, rfl, rfl⟩
  · refine ⟨⟨rfl, fun _ => ⟨_, _, rfl⟩⟩, fun m v m' ha => ?_⟩
    obtain ⟨x, hx, rfl⟩ := ha
    rw [fX7_paves_eq] at hx
    obtain ⟨n, hn⟩ := pfX7_paves q (csF_m q) a0 a1 m (x, m') _ hx ⟨0, rfl⟩
    exact ctr_mk (t := tX7_paves) (cl := [138, 139]) (by decide) (tabOK_mk okX7_paves (by decide +kernel)) (by decide +kernel) (by decide) (fa_cons ⟨1, by decide, ct_X7_no⟩ (fa_cons ⟨1, by decide, ct_X7_within⟩ fa_nil)) (Nat.le_of_ble_eq_true rfl) (rfl : narrow .int (.int x) = .int x) hn
theorem iX7_newWalker {as : List AV} {c : CallR} (h : wX7_newWalker as = some c) : (∃ (a0 : Nat) (a1 : Int32) (a2 : Int32) (a3 : Int32), as = [aR 7 a0, aI a1, aI a2, aI a3] ∧ c = cRI (fX7_newWalker a0 a1 a2 a3)) := by
  unfold wX7_newWalker at h
  split at h
  · exact ⟨_, _, _, _, rfl, (Option.some.inj h).symm⟩
  · cases h
theorem ct_X7_newWalker {l : Launch} {D : va_G} {cA : Nat → ClassId} {ov : Value} {aR0 : Nat → Nat → Nat} {B nS : Nat} {xs : Nat → Int32} {q : Nat} : Ctr l D cA ov aR0 B nS xs q 1 158 := by
  intro as c h
  have h : wX7_newWalker as = some c := h
  rcases iX7_newWalker h with ⟨a0, a1, a2, a3, rfl, rfl⟩
  · refine ⟨⟨rfl, fun _ => ⟨_, _, rfl⟩⟩, fun m v m' ha => ?_⟩
    obtain ⟨x, hx, rfl⟩ := ha
    rw [fX7_newWalker_eq] at hx
    obtain ⟨n, hn⟩ := pfX7_newWalker q (csF_m q) a0 a1 a2 a3 m (x, m') _ hx ⟨0, rfl⟩
    exact ctr_mk (t := tX7_newWalker) (cl := []) (by decide) (tabOK_mk okX7_newWalker (by decide +kernel)) (by decide +kernel) (by decide) fa_nil (Nat.le_of_ble_eq_true rfl) (rfl : narrow .int (.int x) = .int x) hn
theorem iX7_walker {as : List AV} {c : CallR} (h : wX7_walker as = some c) : (∃ (a0 : Nat) (a1 : Int32) (a2 : Int32) (a3 : Int32), as = [aR 7 a0, aI a1, aI a2, aI a3] ∧ c = cRI (fX7_walker a0 a1 a2 a3)) := by
  unfold wX7_walker at h
  split at h
  · exact ⟨_, _, _, _, rfl, (Option.some.inj h).symm⟩
  · cases h
theorem ct_X7_walker {l : Launch} {D : va_G} {cA : Nat → ClassId} {ov : Value} {aR0 : Nat → Nat → Nat} {B nS : Nat} {xs : Nat → Int32} {q : Nat} : Ctr l D cA ov aR0 B nS xs q 3 159 := by
  intro as c h
  have h : wX7_walker as = some c := h
  rcases iX7_walker h with ⟨a0, a1, a2, a3, rfl, rfl⟩
  · refine ⟨⟨rfl, fun _ => ⟨_, _, rfl⟩⟩, fun m v m' ha => ?_⟩
    obtain ⟨x, hx, rfl⟩ := ha
    rw [fX7_walker_eq] at hx
    obtain ⟨n, hn⟩ := pfX7_walker q (csF_m q) a0 a1 a2 a3 m (x, m') _ hx ⟨0, rfl⟩
    exact ctr_mk (t := tX7_walker) (cl := [138, 139, 140, 158]) (by decide) (tabOK_mk okX7_walker (by decide +kernel)) (by decide +kernel) (by decide) (fa_cons ⟨1, by decide, ct_X7_no⟩ (fa_cons ⟨1, by decide, ct_X7_within⟩ (fa_cons ⟨2, by decide, ct_X7_isCell⟩ (fa_cons ⟨1, by decide, ct_X7_newWalker⟩ fa_nil)))) (Nat.le_of_ble_eq_true rfl) (rfl : narrow .int (.int x) = .int x) hn
theorem iX7_sends {as : List AV} {c : CallR} (h : wX7_sends as = some c) : (∃ (a0 : Nat) (a1 : Int32) (a2 : Int32) (a3 : Int32), as = [aR 7 a0, aI a1, aI a2, aI a3] ∧ c = cRI (fX7_sends a0 a1 a2 a3)) := by
  unfold wX7_sends at h
  split at h
  · exact ⟨_, _, _, _, rfl, (Option.some.inj h).symm⟩
  · cases h
theorem ct_X7_sends {l : Launch} {D : va_G} {cA : Nat → ClassId} {ov : Value} {aR0 : Nat → Nat → Nat} {B nS : Nat} {xs : Nat → Int32} {q : Nat} : Ctr l D cA ov aR0 B nS xs q 3 160 := by
  intro as c h
  have h : wX7_sends as = some c := h
  rcases iX7_sends h with ⟨a0, a1, a2, a3, rfl, rfl⟩
  · refine ⟨⟨rfl, fun _ => ⟨_, _, rfl⟩⟩, fun m v m' ha => ?_⟩
    obtain ⟨x, hx, rfl⟩ := ha
    rw [fX7_sends_eq] at hx
    obtain ⟨n, hn⟩ := pfX7_sends q (csF_m q) a0 a1 a2 a3 m (x, m') _ hx ⟨0, rfl⟩
    exact ctr_mk (t := tX7_sends) (cl := [138, 139, 140, 142]) (by decide) (tabOK_mk okX7_sends (by decide +kernel)) (by decide +kernel) (by decide) (fa_cons ⟨1, by decide, ct_X7_no⟩ (fa_cons ⟨1, by decide, ct_X7_within⟩ (fa_cons ⟨2, by decide, ct_X7_isCell⟩ (fa_cons ⟨2, by decide, ct_X7_isWalker⟩ fa_nil)))) (Nat.le_of_ble_eq_true rfl) (rfl : narrow .int (.int x) = .int x) hn
theorem iX7_current {as : List AV} {c : CallR} (h : wX7_current as = some c) : (∃ (a0 : Nat) (a1 : Int32) (a2 : Int32), as = [aR 7 a0, aI a1, aI a2] ∧ c = cRI (fX7_current a0 a1 a2)) := by
  unfold wX7_current at h
  split at h
  · exact ⟨_, _, _, rfl, (Option.some.inj h).symm⟩
  · cases h
theorem ct_X7_current {l : Launch} {D : va_G} {cA : Nat → ClassId} {ov : Value} {aR0 : Nat → Nat → Nat} {B nS : Nat} {xs : Nat → Int32} {q : Nat} : Ctr l D cA ov aR0 B nS xs q 3 161 := by
  intro as c h
  have h : wX7_current as = some c := h
  rcases iX7_current h with ⟨a0, a1, a2, rfl, rfl⟩
  · refine ⟨⟨rfl, fun _ => ⟨_, _, rfl⟩⟩, fun m v m' ha => ?_⟩
    obtain ⟨x, hx, rfl⟩ := ha
    rw [fX7_current_eq] at hx
    obtain ⟨n, hn⟩ := pfX7_current q (csF_m q) a0 a1 a2 m (x, m') _ hx ⟨0, rfl⟩
    exact ctr_mk (t := tX7_current) (cl := [138, 139, 140]) (by decide) (tabOK_mk okX7_current (by decide +kernel)) (by decide +kernel) (by decide) (fa_cons ⟨1, by decide, ct_X7_no⟩ (fa_cons ⟨1, by decide, ct_X7_within⟩ (fa_cons ⟨2, by decide, ct_X7_isCell⟩ fa_nil))) (Nat.le_of_ble_eq_true rfl) (rfl : narrow .int (.int x) = .int x) hn
theorem iX7_tell {as : List AV} {c : CallR} (h : wX7_tell as = some c) : (∃ (a0 : Nat) (a1 : Int32) (a2 : Int32), as = [aR 7 a0, aI a1, aI a2] ∧ c = cRI (fX7_tell a0 a1 a2)) := by
  unfold wX7_tell at h
  split at h
  · exact ⟨_, _, _, rfl, (Option.some.inj h).symm⟩
  · cases h
theorem ct_X7_tell {l : Launch} {D : va_G} {cA : Nat → ClassId} {ov : Value} {aR0 : Nat → Nat → Nat} {B nS : Nat} {xs : Nat → Int32} {q : Nat} : Ctr l D cA ov aR0 B nS xs q 2 162 := by
  intro as c h
  have h : wX7_tell as = some c := h
  rcases iX7_tell h with ⟨a0, a1, a2, rfl, rfl⟩
  · refine ⟨⟨rfl, fun _ => ⟨_, _, rfl⟩⟩, fun m v m' ha => ?_⟩
    obtain ⟨x, hx, rfl⟩ := ha
    rw [fX7_tell_eq] at hx
    obtain ⟨n, hn⟩ := pfX7_tell q (csF_m q) a0 a1 a2 m (x, m') _ hx ⟨0, rfl⟩
    exact ctr_mk (t := tX7_tell) (cl := [138, 139]) (by decide) (tabOK_mk okX7_tell (by decide +kernel)) (by decide +kernel) (by decide) (fa_cons ⟨1, by decide, ct_X7_no⟩ (fa_cons ⟨1, by decide, ct_X7_within⟩ fa_nil)) (Nat.le_of_ble_eq_true rfl) (rfl : narrow .int (.int x) = .int x) hn
theorem iX7_becomes {as : List AV} {c : CallR} (h : wX7_becomes as = some c) : (∃ (a0 : Nat) (a1 : Int32) (a2 : Int32) (a3 : Int32) (a4 : Int32) (a5 : Int32), as = [aR 7 a0, aI a1, aI a2, aI a3, aI a4, aI a5] ∧ c = cRV (fX7_becomes a0 a1 a2 a3 a4 a5)) := by
  unfold wX7_becomes at h
  split at h
  · exact ⟨_, _, _, _, _, _, rfl, (Option.some.inj h).symm⟩
  · cases h
theorem ct_X7_becomes {l : Launch} {D : va_G} {cA : Nat → ClassId} {ov : Value} {aR0 : Nat → Nat → Nat} {B nS : Nat} {xs : Nat → Int32} {q : Nat} : Ctr l D cA ov aR0 B nS xs q 1 163 := by
  intro as c h
  have h : wX7_becomes as = some c := h
  rcases iX7_becomes h with ⟨a0, a1, a2, a3, a4, a5, rfl, rfl⟩
  · refine ⟨⟨rfl, fun _ => ⟨_, _, rfl⟩⟩, fun m v m' ha => ?_⟩
    obtain ⟨x, hx, rfl⟩ := ha
    rw [fX7_becomes_eq] at hx
    obtain ⟨n, hn⟩ := pfX7_becomes q (csF_m q) a0 a1 a2 a3 a4 a5 m (x, m') _ hx ⟨0, rfl⟩
    exact ctr_mk (t := tX7_becomes) (cl := []) (by decide) (tabOK_mk okX7_becomes (by decide +kernel)) (by decide +kernel) (by decide) fa_nil (Nat.le_of_ble_eq_true rfl) trivial hn
theorem iX7_thrown {as : List AV} {c : CallR} (h : wX7_thrown as = some c) : (∃ (a0 : Nat) (a1 : Int32) (a2 : Int32) (a3 : Int32) (a4 : Int32), as = [aR 7 a0, aI a1, aI a2, aI a3, aI a4] ∧ c = cRI (fX7_thrown a0 a1 a2 a3 a4)) := by
  unfold wX7_thrown at h
  split at h
  · exact ⟨_, _, _, _, _, rfl, (Option.some.inj h).symm⟩
  · cases h
theorem ct_X7_thrown {l : Launch} {D : va_G} {cA : Nat → ClassId} {ov : Value} {aR0 : Nat → Nat → Nat} {B nS : Nat} {xs : Nat → Int32} {q : Nat} : Ctr l D cA ov aR0 B nS xs q 3 164 := by
  intro as c h
  have h : wX7_thrown as = some c := h
  rcases iX7_thrown h with ⟨a0, a1, a2, a3, a4, rfl, rfl⟩
  · refine ⟨⟨rfl, fun _ => ⟨_, _, rfl⟩⟩, fun m v m' ha => ?_⟩
    obtain ⟨x, hx, rfl⟩ := ha
    rw [fX7_thrown_eq] at hx
    obtain ⟨n, hn⟩ := pfX7_thrown q (csF_m q) a0 a1 a2 a3 a4 m (x, m') _ hx ⟨0, rfl⟩
    exact ctr_mk (t := tX7_thrown) (cl := [138, 140, 142, 143, 163]) (by decide) (tabOK_mk okX7_thrown (by decide +kernel)) (by decide +kernel) (by decide) (fa_cons ⟨1, by decide, ct_X7_no⟩ (fa_cons ⟨2, by decide, ct_X7_isCell⟩ (fa_cons ⟨2, by decide, ct_X7_isWalker⟩ (fa_cons ⟨2, by decide, ct_X7_isSuch⟩ (fa_cons ⟨1, by decide, ct_X7_becomes⟩ fa_nil))))) (Nat.le_of_ble_eq_true rfl) (rfl : narrow .int (.int x) = .int x) hn
theorem iX7_feed {as : List AV} {c : CallR} (h : wX7_feed as = some c) : (∃ (a0 : Nat) (a1 : Int32), as = [aR 7 a0, aI a1] ∧ c = cRI (fX7_feed a0 a1)) := by
  unfold wX7_feed at h
  split at h
  · exact ⟨_, _, rfl, (Option.some.inj h).symm⟩
  · cases h
theorem ct_X7_feed {l : Launch} {D : va_G} {cA : Nat → ClassId} {ov : Value} {aR0 : Nat → Nat → Nat} {B nS : Nat} {xs : Nat → Int32} {q : Nat} : Ctr l D cA ov aR0 B nS xs q 2 165 := by
  intro as c h
  have h : wX7_feed as = some c := h
  rcases iX7_feed h with ⟨a0, a1, rfl, rfl⟩
  · refine ⟨⟨rfl, fun _ => ⟨_, _, rfl⟩⟩, fun m v m' ha => ?_⟩
    obtain ⟨x, hx, rfl⟩ := ha
    rw [fX7_feed_eq] at hx
    obtain ⟨n, hn⟩ := pfX7_feed q (csF_m q) a0 a1 m (x, m') _ hx ⟨0, rfl⟩
    exact ctr_mk (t := tX7_feed) (cl := [138, 139]) (by decide) (tabOK_mk okX7_feed (by decide +kernel)) (by decide +kernel) (by decide) (fa_cons ⟨1, by decide, ct_X7_no⟩ (fa_cons ⟨1, by decide, ct_X7_within⟩ fa_nil)) (Nat.le_of_ble_eq_true rfl) (rfl : narrow .int (.int x) = .int x) hn
theorem iX7_wipe {as : List AV} {c : CallR} (h : wX7_wipe as = some c) : (∃ (a0 : Nat), as = [aR 7 a0] ∧ c = cRI (fX7_wipe a0)) := by
  unfold wX7_wipe at h
  split at h
  · exact ⟨_, rfl, (Option.some.inj h).symm⟩
  · cases h
theorem ct_X7_wipe {l : Launch} {D : va_G} {cA : Nat → ClassId} {ov : Value} {aR0 : Nat → Nat → Nat} {B nS : Nat} {xs : Nat → Int32} {q : Nat} : Ctr l D cA ov aR0 B nS xs q 1 166 := by
  intro as c h
  have h : wX7_wipe as = some c := h
  rcases iX7_wipe h with ⟨a0, rfl, rfl⟩
  · refine ⟨⟨rfl, fun _ => ⟨_, _, rfl⟩⟩, fun m v m' ha => ?_⟩
    obtain ⟨x, hx, rfl⟩ := ha
    rw [fX7_wipe_eq] at hx
    obtain ⟨n, hn⟩ := pfX7_wipe q (csF_m q) a0 m (x, m') _ hx ⟨0, rfl⟩
    exact ctr_mk (t := tX7_wipe) (cl := []) (by decide) (tabOK_mk okX7_wipe (by decide +kernel)) (by decide +kernel) (by decide) fa_nil (Nat.le_of_ble_eq_true rfl) (rfl : narrow .int (.int x) = .int x) hn
theorem iX7_isLetter {as : List AV} {c : CallR} (h : wX7_isLetter as = some c) : (∃ (a0 : Int32), as = [aI a0] ∧ c = cRZ (fX7_isLetter a0)) := by
  unfold wX7_isLetter at h
  split at h
  · exact ⟨_, rfl, (Option.some.inj h).symm⟩
  · cases h
theorem ct_X7_isLetter {l : Launch} {D : va_G} {cA : Nat → ClassId} {ov : Value} {aR0 : Nat → Nat → Nat} {B nS : Nat} {xs : Nat → Int32} {q : Nat} : Ctr l D cA ov aR0 B nS xs q 1 167 := by
  intro as c h
  have h : wX7_isLetter as = some c := h
  rcases iX7_isLetter h with ⟨a0, rfl, rfl⟩
  · refine ⟨⟨rfl, fun h => absurd h (by decide)⟩, fun m v m' ha => ?_⟩
    obtain ⟨x, hx, rfl⟩ := ha
    rw [fX7_isLetter_eq] at hx
    obtain ⟨n, hn⟩ := pfX7_isLetter q (csF_m q) a0 m (x, m') _ hx ⟨0, rfl⟩
    exact ctr_mk (t := tX7_isLetter) (cl := []) (by decide) (tabOK_mk okX7_isLetter (by decide +kernel)) (by decide +kernel) (by decide) fa_nil (Nat.le_of_ble_eq_true rfl) (by cases x <;> rfl) hn
theorem iX7_isDigit {as : List AV} {c : CallR} (h : wX7_isDigit as = some c) : (∃ (a0 : Int32), as = [aI a0] ∧ c = cRZ (fX7_isDigit a0)) := by
  unfold wX7_isDigit at h
  split at h
  · exact ⟨_, rfl, (Option.some.inj h).symm⟩
  · cases h
theorem ct_X7_isDigit {l : Launch} {D : va_G} {cA : Nat → ClassId} {ov : Value} {aR0 : Nat → Nat → Nat} {B nS : Nat} {xs : Nat → Int32} {q : Nat} : Ctr l D cA ov aR0 B nS xs q 1 168 := by
  intro as c h
  have h : wX7_isDigit as = some c := h
  rcases iX7_isDigit h with ⟨a0, rfl, rfl⟩
  · refine ⟨⟨rfl, fun h => absurd h (by decide)⟩, fun m v m' ha => ?_⟩
    obtain ⟨x, hx, rfl⟩ := ha
    rw [fX7_isDigit_eq] at hx
    obtain ⟨n, hn⟩ := pfX7_isDigit q (csF_m q) a0 m (x, m') _ hx ⟨0, rfl⟩
    exact ctr_mk (t := tX7_isDigit) (cl := []) (by decide) (tabOK_mk okX7_isDigit (by decide +kernel)) (by decide +kernel) (by decide) fa_nil (Nat.le_of_ble_eq_true rfl) (by cases x <;> rfl) hn
theorem iX7_next {as : List AV} {c : CallR} (h : wX7_next as = some c) : (∃ (a0 : Nat), as = [aR 7 a0] ∧ c = cRV (fX7_next a0)) := by
  unfold wX7_next at h
  split at h
  · exact ⟨_, rfl, (Option.some.inj h).symm⟩
  · cases h
theorem ct_X7_next {l : Launch} {D : va_G} {cA : Nat → ClassId} {ov : Value} {aR0 : Nat → Nat → Nat} {B nS : Nat} {xs : Nat → Int32} {q : Nat} : Ctr l D cA ov aR0 B nS xs q 2 169 := by
  intro as c h
  have h : wX7_next as = some c := h
  rcases iX7_next h with ⟨a0, rfl, rfl⟩
  · refine ⟨⟨rfl, fun _ => ⟨_, _, rfl⟩⟩, fun m v m' ha => ?_⟩
    obtain ⟨x, hx, rfl⟩ := ha
    rw [fX7_next_eq] at hx
    obtain ⟨n, hn⟩ := pfX7_next q (csF_m q) a0 m (x, m') _ hx ⟨0, rfl⟩
    exact ctr_mk (t := tX7_next) (cl := [167, 168]) (by decide) (tabOK_mk okX7_next (by decide +kernel)) (by decide +kernel) (by decide) (fa_cons ⟨1, by decide, ct_X7_isLetter⟩ (fa_cons ⟨1, by decide, ct_X7_isDigit⟩ fa_nil)) (Nat.le_of_ble_eq_true rfl) trivial hn
theorem iX7_isWord {as : List AV} {c : CallR} (h : wX7_isWord as = some c) : (∃ (a0 : Nat) (a1 : Nat), as = [aR 7 a0, aR 31 a1] ∧ c = cRZ (fX7_isWord a0 a1)) := by
  unfold wX7_isWord at h
  split at h
  · exact ⟨_, _, rfl, (Option.some.inj h).symm⟩
  · cases h
theorem ct_X7_isWord {l : Launch} {D : va_G} {cA : Nat → ClassId} {ov : Value} {aR0 : Nat → Nat → Nat} {B nS : Nat} {xs : Nat → Int32} {q : Nat} : Ctr l D cA ov aR0 B nS xs q 5 170 := by
  intro as c h
  have h : wX7_isWord as = some c := h
  rcases iX7_isWord h with ⟨a0, a1, rfl, rfl⟩
  · refine ⟨⟨rfl, fun _ => ⟨_, _, rfl⟩⟩, fun m v m' ha => ?_⟩
    obtain ⟨x, hx, rfl⟩ := ha
    rw [fX7_isWord_eq] at hx
    obtain ⟨n, hn⟩ := pfX7_isWord q (csF_m q) a0 a1 m (x, m') _ hx ⟨0, rfl⟩
    exact ctr_mk (t := tX7_isWord) (cl := [238, 239]) (by decide) (tabOK_mk okX7_isWord (by decide +kernel)) (by decide +kernel) (by decide) (fa_cons ⟨2, by decide, ct_J0_length_8abf5⟩ (fa_cons ⟨4, by decide, ct_J0_charAt_5068e⟩ fa_nil)) (Nat.le_of_ble_eq_true rfl) (by cases x <;> rfl) hn
theorem iX7_number {as : List AV} {c : CallR} (h : wX7_number as = some c) : (∃ (a0 : Nat) (a1 : Int32) (a2 : Int32), as = [aR 7 a0, aI a1, aI a2] ∧ c = cRI (fX7_number a0 a1 a2)) := by
  unfold wX7_number at h
  split at h
  · exact ⟨_, _, _, rfl, (Option.some.inj h).symm⟩
  · cases h
theorem ct_X7_number {l : Launch} {D : va_G} {cA : Nat → ClassId} {ov : Value} {aR0 : Nat → Nat → Nat} {B nS : Nat} {xs : Nat → Int32} {q : Nat} : Ctr l D cA ov aR0 B nS xs q 3 171 := by
  intro as c h
  have h : wX7_number as = some c := h
  rcases iX7_number h with ⟨a0, a1, a2, rfl, rfl⟩
  · refine ⟨⟨rfl, fun _ => ⟨_, _, rfl⟩⟩, fun m v m' ha => ?_⟩
    obtain ⟨x, hx, rfl⟩ := ha
    rw [fX7_number_eq] at hx
    obtain ⟨n, hn⟩ := pfX7_number q (csF_m q) a0 a1 a2 m (x, m') _ hx ⟨0, rfl⟩
    exact ctr_mk (t := tX7_number) (cl := [139, 169]) (by decide) (tabOK_mk okX7_number (by decide +kernel)) (by decide +kernel) (by decide) (fa_cons ⟨1, by decide, ct_X7_within⟩ (fa_cons ⟨2, by decide, ct_X7_next⟩ fa_nil)) (Nat.le_of_ble_eq_true rfl) (rfl : narrow .int (.int x) = .int x) hn
theorem iX7_cellTold {as : List AV} {c : CallR} (h : wX7_cellTold as = some c) : (∃ (a0 : Nat), as = [aR 7 a0] ∧ c = cRI (fX7_cellTold a0)) := by
  unfold wX7_cellTold at h
  split at h
  · exact ⟨_, rfl, (Option.some.inj h).symm⟩
  · cases h
theorem ct_X7_cellTold {l : Launch} {D : va_G} {cA : Nat → ClassId} {ov : Value} {aR0 : Nat → Nat → Nat} {B nS : Nat} {xs : Nat → Int32} {q : Nat} : Ctr l D cA ov aR0 B nS xs q 4 172 := by
  intro as c h
  have h : wX7_cellTold as = some c := h
  rcases iX7_cellTold h with ⟨a0, rfl, rfl⟩
  · refine ⟨⟨rfl, fun _ => ⟨_, _, rfl⟩⟩, fun m v m' ha => ?_⟩
    obtain ⟨x, hx, rfl⟩ := ha
    rw [fX7_cellTold_eq] at hx
    obtain ⟨n, hn⟩ := pfX7_cellTold q (csF_m q) a0 m (x, m') _ hx ⟨0, rfl⟩
    exact ctr_mk (t := tX7_cellTold) (cl := [171]) (by decide) (tabOK_mk okX7_cellTold (by decide +kernel)) (by decide +kernel) (by decide) (fa_cons ⟨3, by decide, ct_X7_number⟩ fa_nil) (Nat.le_of_ble_eq_true rfl) (rfl : narrow .int (.int x) = .int x) hn
theorem iX7_comesOne {as : List AV} {c : CallR} (h : wX7_comesOne as = some c) : (∃ (a0 : Nat), as = [aR 7 a0] ∧ c = cRZ (fX7_comesOne a0)) := by
  unfold wX7_comesOne at h
  split at h
  · exact ⟨_, rfl, (Option.some.inj h).symm⟩
  · cases h
theorem ct_X7_comesOne {l : Launch} {D : va_G} {cA : Nat → ClassId} {ov : Value} {aR0 : Nat → Nat → Nat} {B nS : Nat} {xs : Nat → Int32} {q : Nat} : Ctr l D cA ov aR0 B nS xs q 5 173 := by
  intro as c h
  have h : wX7_comesOne as = some c := h
  rcases iX7_comesOne h with ⟨a0, rfl, rfl⟩
  · refine ⟨⟨rfl, fun _ => ⟨_, _, rfl⟩⟩, fun m v m' ha => ?_⟩
    obtain ⟨x, hx, rfl⟩ := ha
    rw [fX7_comesOne_eq] at hx
    obtain ⟨n, hn⟩ := pfX7_comesOne q (csF_m q) a0 m (x, m') _ hx ⟨0, rfl⟩
    exact ctr_mk (t := tX7_comesOne) (cl := [158, 171, 172]) (by decide) (tabOK_mk okX7_comesOne (by decide +kernel)) (by decide +kernel) (by decide) (fa_cons ⟨1, by decide, ct_X7_newWalker⟩ (fa_cons ⟨3, by decide, ct_X7_number⟩ (fa_cons ⟨4, by decide, ct_X7_cellTold⟩ fa_nil))) (Nat.le_of_ble_eq_true rfl) (by cases x <;> rfl) hn
theorem iX7_floats {as : List AV} {c : CallR} (h : wX7_floats as = some c) : (∃ (a0 : Nat), as = [aR 7 a0] ∧ c = cRZ (fX7_floats a0)) := by
  unfold wX7_floats at h
  split at h
  · exact ⟨_, rfl, (Option.some.inj h).symm⟩
  · cases h
theorem ct_X7_floats {l : Launch} {D : va_G} {cA : Nat → ClassId} {ov : Value} {aR0 : Nat → Nat → Nat} {B nS : Nat} {xs : Nat → Int32} {q : Nat} : Ctr l D cA ov aR0 B nS xs q 5 174 := by
  intro as c h
  have h : wX7_floats as = some c := h
  rcases iX7_floats h with ⟨a0, rfl, rfl⟩
  · refine ⟨⟨rfl, fun _ => ⟨_, _, rfl⟩⟩, fun m v m' ha => ?_⟩
    obtain ⟨x, hx, rfl⟩ := ha
    rw [fX7_floats_eq] at hx
    obtain ⟨n, hn⟩ := pfX7_floats q (csF_m q) a0 m (x, m') _ hx ⟨0, rfl⟩
    exact ctr_mk (t := tX7_floats) (cl := [163, 171, 172]) (by decide) (tabOK_mk okX7_floats (by decide +kernel)) (by decide +kernel) (by decide) (fa_cons ⟨1, by decide, ct_X7_becomes⟩ (fa_cons ⟨3, by decide, ct_X7_number⟩ (fa_cons ⟨4, by decide, ct_X7_cellTold⟩ fa_nil))) (Nat.le_of_ble_eq_true rfl) (by cases x <;> rfl) hn
theorem iX7_statement {as : List AV} {c : CallR} (h : wX7_statement as = some c) : (∃ (a0 : Nat), as = [aR 7 a0] ∧ c = cRZ (fX7_statement a0)) := by
  unfold wX7_statement at h
  split at h
  · exact ⟨_, rfl, (Option.some.inj h).symm⟩
  · cases h
theorem ct_X7_statement {l : Launch} {D : va_G} {cA : Nat → ClassId} {ov : Value} {aR0 : Nat → Nat → Nat} {B nS : Nat} {xs : Nat → Int32} {q : Nat} : Ctr l D cA ov aR0 B nS xs q 6 175 := by
  intro as c h
  have h : wX7_statement as = some c := h
  rcases iX7_statement h with ⟨a0, rfl, rfl⟩
  · refine ⟨⟨rfl, fun _ => ⟨_, _, rfl⟩⟩, fun m v m' ha => ?_⟩
    obtain ⟨x, hx, rfl⟩ := ha
    rw [fX7_statement_eq] at hx
    obtain ⟨n, hn⟩ := pfX7_statement q (csF_m q) a0 m (x, m') _ hx ⟨0, rfl⟩
    exact ctr_mk (t := tX7_statement) (cl := [170, 171, 172, 173, 174]) (by decide) (tabOK_mk okX7_statement (by decide +kernel)) (by decide +kernel) (by decide) (fa_cons ⟨5, by decide, ct_X7_isWord⟩ (fa_cons ⟨3, by decide, ct_X7_number⟩ (fa_cons ⟨4, by decide, ct_X7_cellTold⟩ (fa_cons ⟨5, by decide, ct_X7_comesOne⟩ (fa_cons ⟨5, by decide, ct_X7_floats⟩ fa_nil))))) (Nat.le_of_ble_eq_true rfl) (by cases x <;> rfl) hn
theorem iX7_again {as : List AV} {c : CallR} (h : wX7_again as = some c) : (∃ (a0 : Nat) (a1 : Nat), as = [aR 7 a0, aR 62 a1] ∧ c = cRV (fX7_again a0 a1)) := by
  unfold wX7_again at h
  split at h
  · exact ⟨_, _, rfl, (Option.some.inj h).symm⟩
  · cases h
theorem ct_X7_again {l : Launch} {D : va_G} {cA : Nat → ClassId} {ov : Value} {aR0 : Nat → Nat → Nat} {B nS : Nat} {xs : Nat → Int32} {q : Nat} : Ctr l D cA ov aR0 B nS xs q 1 233 := by
  intro as c h
  have h : wX7_again as = some c := h
  rcases iX7_again h with ⟨a0, a1, rfl, rfl⟩
  · refine ⟨⟨rfl, fun _ => ⟨_, _, rfl⟩⟩, fun m v m' ha => ?_⟩
    obtain ⟨x, hx, rfl⟩ := ha
    rw [fX7_again_eq] at hx
    obtain ⟨n, hn⟩ := pfX7_again q (csF_m q) a0 a1 m (x, m') _ hx ⟨0, rfl⟩
    exact ctr_mk (t := tX7_again) (cl := []) (by decide) (tabOK_mk okX7_again (by decide +kernel)) (by decide +kernel) (by decide) fa_nil (Nat.le_of_ble_eq_true rfl) trivial hn
theorem iX7_keep {as : List AV} {c : CallR} (h : wX7_keep as = some c) : (∃ (a0 : Nat) (a1 : Nat), as = [aR 7 a0, aR 62 a1] ∧ c = cRV (fX7_keep a0 a1)) := by
  unfold wX7_keep at h
  split at h
  · exact ⟨_, _, rfl, (Option.some.inj h).symm⟩
  · cases h
theorem ct_X7_keep {l : Launch} {D : va_G} {cA : Nat → ClassId} {ov : Value} {aR0 : Nat → Nat → Nat} {B nS : Nat} {xs : Nat → Int32} {q : Nat} : Ctr l D cA ov aR0 B nS xs q 1 232 := by
  intro as c h
  have h : wX7_keep as = some c := h
  rcases iX7_keep h with ⟨a0, a1, rfl, rfl⟩
  · refine ⟨⟨rfl, fun _ => ⟨_, _, rfl⟩⟩, fun m v m' ha => ?_⟩
    obtain ⟨x, hx, rfl⟩ := ha
    rw [fX7_keep_eq] at hx
    obtain ⟨n, hn⟩ := pfX7_keep q (csF_m q) a0 a1 m (x, m') _ hx ⟨0, rfl⟩
    exact ctr_mk (t := tX7_keep) (cl := []) (by decide) (tabOK_mk okX7_keep (by decide +kernel)) (by decide +kernel) (by decide) fa_nil (Nat.le_of_ble_eq_true rfl) trivial hn
theorem iX7_coast {as : List AV} {c : CallR} (h : wX7_coast as = some c) : (∃ (a0 : Nat), as = [aR 7 a0] ∧ c = cRI (fX7_coast a0)) := by
  unfold wX7_coast at h
  split at h
  · exact ⟨_, rfl, (Option.some.inj h).symm⟩
  · cases h
theorem ct_X7_coast {l : Launch} {D : va_G} {cA : Nat → ClassId} {ov : Value} {aR0 : Nat → Nat → Nat} {B nS : Nat} {xs : Nat → Int32} {q : Nat} : Ctr l D cA ov aR0 B nS xs q 7 176 := by
  intro as c h
  have h : wX7_coast as = some c := h
  rcases iX7_coast h with ⟨a0, rfl, rfl⟩
  · refine ⟨⟨rfl, fun _ => ⟨_, _, rfl⟩⟩, fun m v m' ha => ?_⟩
    obtain ⟨x, hx, rfl⟩ := ha
    rw [fX7_coast_eq] at hx
    obtain ⟨n, hn⟩ := pfX7_coast q (csF_m q) a0 m (x, m') _ hx ⟨0, rfl⟩
    exact ctr_mk (t := tX7_coast) (cl := [138, 169, 175, 232, 233]) (by decide) (tabOK_mk okX7_coast (by decide +kernel)) (by decide +kernel) (by decide) (fa_cons ⟨1, by decide, ct_X7_no⟩ (fa_cons ⟨2, by decide, ct_X7_next⟩ (fa_cons ⟨6, by decide, ct_X7_statement⟩ (fa_cons ⟨1, by decide, ct_X7_keep⟩ (fa_cons ⟨1, by decide, ct_X7_again⟩ fa_nil))))) (Nat.le_of_ble_eq_true rfl) (rfl : narrow .int (.int x) = .int x) hn
