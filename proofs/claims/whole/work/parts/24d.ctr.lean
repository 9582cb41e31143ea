/-! CONTRACTS, 3 -/
theorem iX7_tough {as : List AV} {c : CallR} (h : wX7_tough as = some c) : (∃ (a0 : Nat) (a1 : Int32), as = [aR 7 a0, aI a1] ∧ c = cRI (fX7_tough a0 a1)) := by
  unfold wX7_tough at h
  split at h
  · exact ⟨_, _, rfl, (Option.some.inj h).symm⟩
  · cases h
theorem ct_X7_tough {l : Launch} {D : va_G} {cA : Nat → ClassId} {ov : Value} {aR0 : Nat → Nat → Nat} {B nS : Nat} {xs : Nat → Int32} {q : Nat} : Ctr l D cA ov aR0 B nS xs q 1 177 := by
  intro as c h
  have h : wX7_tough as = some c := h
  rcases iX7_tough h with ⟨a0, a1, rfl, rfl⟩
  · refine ⟨⟨rfl, fun _ => ⟨_, _, rfl⟩⟩, fun m v m' ha => ?_⟩
    obtain ⟨x, hx, rfl⟩ := ha
    rw [fX7_tough_eq] at hx
    obtain ⟨n, hn⟩ := pfX7_tough q (csF_m q) a0 a1 m (x, m') _ hx ⟨0, rfl⟩
    exact ctr_mk (t := tX7_tough) (cl := []) (by decide) (tabOK_mk okX7_tough (by decide +kernel)) (by decide +kernel) (by decide) fa_nil (Nat.le_of_ble_eq_true rfl) (rfl : narrow .int (.int x) = .int x) hn
theorem iX7_bottleOf {as : List AV} {c : CallR} (h : wX7_bottleOf as = some c) : (∃ (a0 : Nat) (a1 : Int32) (a2 : Int32), as = [aR 7 a0, aI a1, aI a2] ∧ c = cRI (fX7_bottleOf a0 a1 a2)) := by
  unfold wX7_bottleOf at h
  split at h
  · exact ⟨_, _, _, rfl, (Option.some.inj h).symm⟩
  · cases h
theorem ct_X7_bottleOf {l : Launch} {D : va_G} {cA : Nat → ClassId} {ov : Value} {aR0 : Nat → Nat → Nat} {B nS : Nat} {xs : Nat → Int32} {q : Nat} : Ctr l D cA ov aR0 B nS xs q 3 178 := by
  intro as c h
  have h : wX7_bottleOf as = some c := h
  rcases iX7_bottleOf h with ⟨a0, a1, a2, rfl, rfl⟩
  · refine ⟨⟨rfl, fun _ => ⟨_, _, rfl⟩⟩, fun m v m' ha => ?_⟩
    obtain ⟨x, hx, rfl⟩ := ha
    rw [fX7_bottleOf_eq] at hx
    obtain ⟨n, hn⟩ := pfX7_bottleOf q (csF_m q) a0 a1 a2 m (x, m') _ hx ⟨0, rfl⟩
    exact ctr_mk (t := tX7_bottleOf) (cl := [138, 141, 177]) (by decide) (tabOK_mk okX7_bottleOf (by decide +kernel)) (by decide +kernel) (by decide) (fa_cons ⟨1, by decide, ct_X7_no⟩ (fa_cons ⟨2, by decide, ct_X7_isBottle⟩ (fa_cons ⟨1, by decide, ct_X7_tough⟩ fa_nil))) (Nat.le_of_ble_eq_true rfl) (rfl : narrow .int (.int x) = .int x) hn
theorem iX7_forHim {as : List AV} {c : CallR} (h : wX7_forHim as = some c) : (∃ (a0 : Nat) (a1 : Int32), as = [aR 7 a0, aI a1] ∧ c = cRI (fX7_forHim a0 a1)) := by
  unfold wX7_forHim at h
  split at h
  · exact ⟨_, _, rfl, (Option.some.inj h).symm⟩
  · cases h
theorem ct_X7_forHim {l : Launch} {D : va_G} {cA : Nat → ClassId} {ov : Value} {aR0 : Nat → Nat → Nat} {B nS : Nat} {xs : Nat → Int32} {q : Nat} : Ctr l D cA ov aR0 B nS xs q 1 179 := by
  intro as c h
  have h : wX7_forHim as = some c := h
  rcases iX7_forHim h with ⟨a0, a1, rfl, rfl⟩
  · refine ⟨⟨rfl, fun _ => ⟨_, _, rfl⟩⟩, fun m v m' ha => ?_⟩
    obtain ⟨x, hx, rfl⟩ := ha
    rw [fX7_forHim_eq] at hx
    obtain ⟨n, hn⟩ := pfX7_forHim q (csF_m q) a0 a1 m (x, m') _ hx ⟨0, rfl⟩
    exact ctr_mk (t := tX7_forHim) (cl := []) (by decide) (tabOK_mk okX7_forHim (by decide +kernel)) (by decide +kernel) (by decide) fa_nil (Nat.le_of_ble_eq_true rfl) (rfl : narrow .int (.int x) = .int x) hn
theorem iX7_walkerOf {as : List AV} {c : CallR} (h : wX7_walkerOf as = some c) : (∃ (a0 : Nat) (a1 : Int32) (a2 : Int32), as = [aR 7 a0, aI a1, aI a2] ∧ c = cRI (fX7_walkerOf a0 a1 a2)) := by
  unfold wX7_walkerOf at h
  split at h
  · exact ⟨_, _, _, rfl, (Option.some.inj h).symm⟩
  · cases h
theorem ct_X7_walkerOf {l : Launch} {D : va_G} {cA : Nat → ClassId} {ov : Value} {aR0 : Nat → Nat → Nat} {B nS : Nat} {xs : Nat → Int32} {q : Nat} : Ctr l D cA ov aR0 B nS xs q 3 180 := by
  intro as c h
  have h : wX7_walkerOf as = some c := h
  rcases iX7_walkerOf h with ⟨a0, a1, a2, rfl, rfl⟩
  · refine ⟨⟨rfl, fun _ => ⟨_, _, rfl⟩⟩, fun m v m' ha => ?_⟩
    obtain ⟨x, hx, rfl⟩ := ha
    rw [fX7_walkerOf_eq] at hx
    obtain ⟨n, hn⟩ := pfX7_walkerOf q (csF_m q) a0 a1 a2 m (x, m') _ hx ⟨0, rfl⟩
    exact ctr_mk (t := tX7_walkerOf) (cl := [138, 139, 142, 179]) (by decide) (tabOK_mk okX7_walkerOf (by decide +kernel)) (by decide +kernel) (by decide) (fa_cons ⟨1, by decide, ct_X7_no⟩ (fa_cons ⟨1, by decide, ct_X7_within⟩ (fa_cons ⟨2, by decide, ct_X7_isWalker⟩ (fa_cons ⟨1, by decide, ct_X7_forHim⟩ fa_nil)))) (Nat.le_of_ble_eq_true rfl) (rfl : narrow .int (.int x) = .int x) hn
theorem iX7_currentAt {as : List AV} {c : CallR} (h : wX7_currentAt as = some c) : (∃ (a0 : Nat) (a1 : Int32), as = [aR 7 a0, aI a1] ∧ c = cRI (fX7_currentAt a0 a1)) := by
  unfold wX7_currentAt at h
  split at h
  · exact ⟨_, _, rfl, (Option.some.inj h).symm⟩
  · cases h
theorem ct_X7_currentAt {l : Launch} {D : va_G} {cA : Nat → ClassId} {ov : Value} {aR0 : Nat → Nat → Nat} {B nS : Nat} {xs : Nat → Int32} {q : Nat} : Ctr l D cA ov aR0 B nS xs q 3 181 := by
  intro as c h
  have h : wX7_currentAt as = some c := h
  rcases iX7_currentAt h with ⟨a0, a1, rfl, rfl⟩
  · refine ⟨⟨rfl, fun _ => ⟨_, _, rfl⟩⟩, fun m v m' ha => ?_⟩
    obtain ⟨x, hx, rfl⟩ := ha
    rw [fX7_currentAt_eq] at hx
    obtain ⟨n, hn⟩ := pfX7_currentAt q (csF_m q) a0 a1 m (x, m') _ hx ⟨0, rfl⟩
    exact ctr_mk (t := tX7_currentAt) (cl := [138, 140]) (by decide) (tabOK_mk okX7_currentAt (by decide +kernel)) (by decide +kernel) (by decide) (fa_cons ⟨1, by decide, ct_X7_no⟩ (fa_cons ⟨2, by decide, ct_X7_isCell⟩ fa_nil)) (Nat.le_of_ble_eq_true rfl) (rfl : narrow .int (.int x) = .int x) hn
theorem iX7_drifts {as : List AV} {c : CallR} (h : wX7_drifts as = some c) : (∃ (a0 : Nat) (a1 : Int32), as = [aR 7 a0, aI a1] ∧ c = cRV (fX7_drifts a0 a1)) := by
  unfold wX7_drifts at h
  split at h
  · exact ⟨_, _, rfl, (Option.some.inj h).symm⟩
  · cases h
theorem ct_X7_drifts {l : Launch} {D : va_G} {cA : Nat → ClassId} {ov : Value} {aR0 : Nat → Nat → Nat} {B nS : Nat} {xs : Nat → Int32} {q : Nat} : Ctr l D cA ov aR0 B nS xs q 2 183 := by
  intro as c h
  have h : wX7_drifts as = some c := h
  rcases iX7_drifts h with ⟨a0, a1, rfl, rfl⟩
  · refine ⟨⟨rfl, fun _ => ⟨_, _, rfl⟩⟩, fun m v m' ha => ?_⟩
    obtain ⟨x, hx, rfl⟩ := ha
    rw [fX7_drifts_eq] at hx
    obtain ⟨n, hn⟩ := pfX7_drifts q (csF_m q) a0 a1 m (x, m') _ hx ⟨0, rfl⟩
    exact ctr_mk (t := tX7_drifts) (cl := [177, 182]) (by decide) (tabOK_mk okX7_drifts (by decide +kernel)) (by decide +kernel) (by decide) (fa_cons ⟨1, by decide, ct_X7_tough⟩ (fa_cons ⟨1, by decide, ct_X7_drift⟩ fa_nil)) (Nat.le_of_ble_eq_true rfl) trivial hn
theorem iX7_steps {as : List AV} {c : CallR} (h : wX7_steps as = some c) : (∃ (a0 : Nat) (a1 : Int32), as = [aR 7 a0, aI a1] ∧ c = cRV (fX7_steps a0 a1)) := by
  unfold wX7_steps at h
  split at h
  · exact ⟨_, _, rfl, (Option.some.inj h).symm⟩
  · cases h
theorem ct_X7_steps {l : Launch} {D : va_G} {cA : Nat → ClassId} {ov : Value} {aR0 : Nat → Nat → Nat} {B nS : Nat} {xs : Nat → Int32} {q : Nat} : Ctr l D cA ov aR0 B nS xs q 3 184 := by
  intro as c h
  have h : wX7_steps as = some c := h
  rcases iX7_steps h with ⟨a0, a1, rfl, rfl⟩
  · refine ⟨⟨rfl, fun _ => ⟨_, _, rfl⟩⟩, fun m v m' ha => ?_⟩
    obtain ⟨x, hx, rfl⟩ := ha
    rw [fX7_steps_eq] at hx
    obtain ⟨n, hn⟩ := pfX7_steps q (csF_m q) a0 a1 m (x, m') _ hx ⟨0, rfl⟩
    exact ctr_mk (t := tX7_steps) (cl := [140]) (by decide) (tabOK_mk okX7_steps (by decide +kernel)) (by decide +kernel) (by decide) (fa_cons ⟨2, by decide, ct_X7_isCell⟩ fa_nil) (Nat.le_of_ble_eq_true rfl) trivial hn
theorem iX7_passes {as : List AV} {c : CallR} (h : wX7_passes as = some c) : (∃ (a0 : Nat) (a1 : Int32), as = [aR 7 a0, aI a1] ∧ c = cRI (fX7_passes a0 a1)) := by
  unfold wX7_passes at h
  split at h
  · exact ⟨_, _, rfl, (Option.some.inj h).symm⟩
  · cases h
theorem ct_X7_passes {l : Launch} {D : va_G} {cA : Nat → ClassId} {ov : Value} {aR0 : Nat → Nat → Nat} {B nS : Nat} {xs : Nat → Int32} {q : Nat} : Ctr l D cA ov aR0 B nS xs q 4 185 := by
  intro as c h
  have h : wX7_passes as = some c := h
  rcases iX7_passes h with ⟨a0, a1, rfl, rfl⟩
  · refine ⟨⟨rfl, fun _ => ⟨_, _, rfl⟩⟩, fun m v m' ha => ?_⟩
    obtain ⟨x, hx, rfl⟩ := ha
    rw [fX7_passes_eq] at hx
    obtain ⟨n, hn⟩ := pfX7_passes q (csF_m q) a0 a1 m (x, m') _ hx ⟨0, rfl⟩
    exact ctr_mk (t := tX7_passes) (cl := [183, 184]) (by decide) (tabOK_mk okX7_passes (by decide +kernel)) (by decide +kernel) (by decide) (fa_cons ⟨2, by decide, ct_X7_drifts⟩ (fa_cons ⟨3, by decide, ct_X7_steps⟩ fa_nil)) (Nat.le_of_ble_eq_true rfl) (rfl : narrow .int (.int x) = .int x) hn
theorem iX7_goesOn {as : List AV} {c : CallR} (h : wX7_goesOn as = some c) : (∃ (a0 : Nat) (a1 : Int32), as = [aR 7 a0, aI a1] ∧ c = cRI (fX7_goesOn a0 a1)) := by
  unfold wX7_goesOn at h
  split at h
  · exact ⟨_, _, rfl, (Option.some.inj h).symm⟩
  · cases h
theorem ct_X7_goesOn {l : Launch} {D : va_G} {cA : Nat → ClassId} {ov : Value} {aR0 : Nat → Nat → Nat} {B nS : Nat} {xs : Nat → Int32} {q : Nat} : Ctr l D cA ov aR0 B nS xs q 5 186 := by
  intro as c h
  have h : wX7_goesOn as = some c := h
  rcases iX7_goesOn h with ⟨a0, a1, rfl, rfl⟩
  · refine ⟨⟨rfl, fun _ => ⟨_, _, rfl⟩⟩, fun m v m' ha => ?_⟩
    obtain ⟨x, hx, rfl⟩ := ha
    rw [fX7_goesOn_eq] at hx
    obtain ⟨n, hn⟩ := pfX7_goesOn q (csF_m q) a0 a1 m (x, m') _ hx ⟨0, rfl⟩
    exact ctr_mk (t := tX7_goesOn) (cl := [185]) (by decide) (tabOK_mk okX7_goesOn (by decide +kernel)) (by decide +kernel) (by decide) (fa_cons ⟨4, by decide, ct_X7_passes⟩ fa_nil) (Nat.le_of_ble_eq_true rfl) (rfl : narrow .int (.int x) = .int x) hn
theorem iX7_ahead {as : List AV} {c : CallR} (h : wX7_ahead as = some c) : (∃ (a0 : Nat) (a1 : Int32) (a2 : Int32) (a3 : Int32), as = [aR 7 a0, aI a1, aI a2, aI a3] ∧ c = cRI (fX7_ahead a0 a1 a2 a3)) := by
  unfold wX7_ahead at h
  split at h
  · exact ⟨_, _, _, _, rfl, (Option.some.inj h).symm⟩
  · cases h
theorem ct_X7_ahead {l : Launch} {D : va_G} {cA : Nat → ClassId} {ov : Value} {aR0 : Nat → Nat → Nat} {B nS : Nat} {xs : Nat → Int32} {q : Nat} : Ctr l D cA ov aR0 B nS xs q 6 187 := by
  intro as c h
  have h : wX7_ahead as = some c := h
  rcases iX7_ahead h with ⟨a0, a1, a2, a3, rfl, rfl⟩
  · refine ⟨⟨rfl, fun _ => ⟨_, _, rfl⟩⟩, fun m v m' ha => ?_⟩
    obtain ⟨x, hx, rfl⟩ := ha
    rw [fX7_ahead_eq] at hx
    obtain ⟨n, hn⟩ := pfX7_ahead q (csF_m q) a0 a1 a2 a3 m (x, m') _ hx ⟨0, rfl⟩
    exact ctr_mk (t := tX7_ahead) (cl := [138, 139, 141, 144, 186, 232, 233]) (by decide) (tabOK_mk okX7_ahead (by decide +kernel)) (by decide +kernel) (by decide) (fa_cons ⟨1, by decide, ct_X7_no⟩ (fa_cons ⟨1, by decide, ct_X7_within⟩ (fa_cons ⟨2, by decide, ct_X7_isBottle⟩ (fa_cons ⟨2, by decide, ct_X7_isTime⟩ (fa_cons ⟨5, by decide, ct_X7_goesOn⟩ (fa_cons ⟨1, by decide, ct_X7_keep⟩ (fa_cons ⟨1, by decide, ct_X7_again⟩ fa_nil))))))) (Nat.le_of_ble_eq_true rfl) (rfl : narrow .int (.int x) = .int x) hn
theorem iX7_walks {as : List AV} {c : CallR} (h : wX7_walks as = some c) : (∃ (a0 : Nat) (a1 : Int32) (a2 : Int32), as = [aR 7 a0, aI a1, aI a2] ∧ c = cRI (fX7_walks a0 a1 a2)) := by
  unfold wX7_walks at h
  split at h
  · exact ⟨_, _, _, rfl, (Option.some.inj h).symm⟩
  · cases h
theorem ct_X7_walks {l : Launch} {D : va_G} {cA : Nat → ClassId} {ov : Value} {aR0 : Nat → Nat → Nat} {B nS : Nat} {xs : Nat → Int32} {q : Nat} : Ctr l D cA ov aR0 B nS xs q 6 188 := by
  intro as c h
  have h : wX7_walks as = some c := h
  rcases iX7_walks h with ⟨a0, a1, a2, rfl, rfl⟩
  · refine ⟨⟨rfl, fun _ => ⟨_, _, rfl⟩⟩, fun m v m' ha => ?_⟩
    obtain ⟨x, hx, rfl⟩ := ha
    rw [fX7_walks_eq] at hx
    obtain ⟨n, hn⟩ := pfX7_walks q (csF_m q) a0 a1 a2 m (x, m') _ hx ⟨0, rfl⟩
    exact ctr_mk (t := tX7_walks) (cl := [138, 142, 144, 186, 232, 233]) (by decide) (tabOK_mk okX7_walks (by decide +kernel)) (by decide +kernel) (by decide) (fa_cons ⟨1, by decide, ct_X7_no⟩ (fa_cons ⟨2, by decide, ct_X7_isWalker⟩ (fa_cons ⟨2, by decide, ct_X7_isTime⟩ (fa_cons ⟨5, by decide, ct_X7_goesOn⟩ (fa_cons ⟨1, by decide, ct_X7_keep⟩ (fa_cons ⟨1, by decide, ct_X7_again⟩ fa_nil)))))) (Nat.le_of_ble_eq_true rfl) (rfl : narrow .int (.int x) = .int x) hn
theorem iX7_found {as : List AV} {c : CallR} (h : wX7_found as = some c) : (∃ (a0 : Nat) (a1 : Int32), as = [aR 7 a0, aI a1] ∧ c = cRI (fX7_found a0 a1)) := by
  unfold wX7_found at h
  split at h
  · exact ⟨_, _, rfl, (Option.some.inj h).symm⟩
  · cases h
theorem ct_X7_found {l : Launch} {D : va_G} {cA : Nat → ClassId} {ov : Value} {aR0 : Nat → Nat → Nat} {B nS : Nat} {xs : Nat → Int32} {q : Nat} : Ctr l D cA ov aR0 B nS xs q 6 189 := by
  intro as c h
  have h : wX7_found as = some c := h
  rcases iX7_found h with ⟨a0, a1, rfl, rfl⟩
  · refine ⟨⟨rfl, fun _ => ⟨_, _, rfl⟩⟩, fun m v m' ha => ?_⟩
    obtain ⟨x, hx, rfl⟩ := ha
    rw [fX7_found_eq] at hx
    obtain ⟨n, hn⟩ := pfX7_found q (csF_m q) a0 a1 m (x, m') _ hx ⟨0, rfl⟩
    exact ctr_mk (t := tX7_found) (cl := [138, 144, 186, 232, 233]) (by decide) (tabOK_mk okX7_found (by decide +kernel)) (by decide +kernel) (by decide) (fa_cons ⟨1, by decide, ct_X7_no⟩ (fa_cons ⟨2, by decide, ct_X7_isTime⟩ (fa_cons ⟨5, by decide, ct_X7_goesOn⟩ (fa_cons ⟨1, by decide, ct_X7_keep⟩ (fa_cons ⟨1, by decide, ct_X7_again⟩ fa_nil))))) (Nat.le_of_ble_eq_true rfl) (rfl : narrow .int (.int x) = .int x) hn
theorem iX7_whenSo {as : List AV} {c : CallR} (h : wX7_whenSo as = some c) : (∃ (a0 : Nat) (a1 : Int32) (a2 : Int32) (a3 : Int32), as = [aR 7 a0, aI a1, aI a2, aI a3] ∧ c = cRI (fX7_whenSo a0 a1 a2 a3)) := by
  unfold wX7_whenSo at h
  split at h
  · exact ⟨_, _, _, _, rfl, (Option.some.inj h).symm⟩
  · cases h
theorem ct_X7_whenSo {l : Launch} {D : va_G} {cA : Nat → ClassId} {ov : Value} {aR0 : Nat → Nat → Nat} {B nS : Nat} {xs : Nat → Int32} {q : Nat} : Ctr l D cA ov aR0 B nS xs q 5 190 := by
  intro as c h
  have h : wX7_whenSo as = some c := h
  rcases iX7_whenSo h with ⟨a0, a1, a2, a3, rfl, rfl⟩
  · refine ⟨⟨rfl, fun _ => ⟨_, _, rfl⟩⟩, fun m v m' ha => ?_⟩
    obtain ⟨x, hx, rfl⟩ := ha
    rw [fX7_whenSo_eq] at hx
    obtain ⟨n, hn⟩ := pfX7_whenSo q (csF_m q) a0 a1 a2 a3 m (x, m') _ hx ⟨0, rfl⟩
    exact ctr_mk (t := tX7_whenSo) (cl := [185, 232, 233]) (by decide) (tabOK_mk okX7_whenSo (by decide +kernel)) (by decide +kernel) (by decide) (fa_cons ⟨4, by decide, ct_X7_passes⟩ (fa_cons ⟨1, by decide, ct_X7_keep⟩ (fa_cons ⟨1, by decide, ct_X7_again⟩ fa_nil))) (Nat.le_of_ble_eq_true rfl) (rfl : narrow .int (.int x) = .int x) hn
theorem iX7_when {as : List AV} {c : CallR} (h : wX7_when as = some c) : (∃ (a0 : Nat) (a1 : Int32), as = [aR 7 a0, aI a1] ∧ c = cRI (fX7_when a0 a1)) := by
  unfold wX7_when at h
  split at h
  · exact ⟨_, _, rfl, (Option.some.inj h).symm⟩
  · cases h
theorem ct_X7_when {l : Launch} {D : va_G} {cA : Nat → ClassId} {ov : Value} {aR0 : Nat → Nat → Nat} {B nS : Nat} {xs : Nat → Int32} {q : Nat} : Ctr l D cA ov aR0 B nS xs q 6 191 := by
  intro as c h
  have h : wX7_when as = some c := h
  rcases iX7_when h with ⟨a0, a1, rfl, rfl⟩
  · refine ⟨⟨rfl, fun _ => ⟨_, _, rfl⟩⟩, fun m v m' ha => ?_⟩
    obtain ⟨x, hx, rfl⟩ := ha
    rw [fX7_when_eq] at hx
    obtain ⟨n, hn⟩ := pfX7_when q (csF_m q) a0 a1 m (x, m') _ hx ⟨0, rfl⟩
    exact ctr_mk (t := tX7_when) (cl := [138, 141, 190]) (by decide) (tabOK_mk okX7_when (by decide +kernel)) (by decide +kernel) (by decide) (fa_cons ⟨1, by decide, ct_X7_no⟩ (fa_cons ⟨2, by decide, ct_X7_isBottle⟩ (fa_cons ⟨5, by decide, ct_X7_whenSo⟩ fa_nil))) (Nat.le_of_ble_eq_true rfl) (rfl : narrow .int (.int x) = .int x) hn
theorem iX7_breaks {as : List AV} {c : CallR} (h : wX7_breaks as = some c) : (∃ (a0 : Nat) (a1 : Int32), as = [aR 7 a0, aI a1] ∧ c = cRI (fX7_breaks a0 a1)) := by
  unfold wX7_breaks at h
  split at h
  · exact ⟨_, _, rfl, (Option.some.inj h).symm⟩
  · cases h
theorem ct_X7_breaks {l : Launch} {D : va_G} {cA : Nat → ClassId} {ov : Value} {aR0 : Nat → Nat → Nat} {B nS : Nat} {xs : Nat → Int32} {q : Nat} : Ctr l D cA ov aR0 B nS xs q 6 192 := by
  intro as c h
  have h : wX7_breaks as = some c := h
  rcases iX7_breaks h with ⟨a0, a1, rfl, rfl⟩
  · refine ⟨⟨rfl, fun _ => ⟨_, _, rfl⟩⟩, fun m v m' ha => ?_⟩
    obtain ⟨x, hx, rfl⟩ := ha
    rw [fX7_breaks_eq] at hx
    obtain ⟨n, hn⟩ := pfX7_breaks q (csF_m q) a0 a1 m (x, m') _ hx ⟨0, rfl⟩
    exact ctr_mk (t := tX7_breaks) (cl := [138, 141, 190]) (by decide) (tabOK_mk okX7_breaks (by decide +kernel)) (by decide +kernel) (by decide) (fa_cons ⟨1, by decide, ct_X7_no⟩ (fa_cons ⟨2, by decide, ct_X7_isBottle⟩ (fa_cons ⟨5, by decide, ct_X7_whenSo⟩ fa_nil))) (Nat.le_of_ble_eq_true rfl) (rfl : narrow .int (.int x) = .int x) hn
theorem iX7_meet {as : List AV} {c : CallR} (h : wX7_meet as = some c) : (∃ (a0 : Nat) (a1 : Int32) (a2 : Int32), as = [aR 7 a0, aI a1, aI a2] ∧ c = cRI (fX7_meet a0 a1 a2)) := by
  unfold wX7_meet at h
  split at h
  · exact ⟨_, _, _, rfl, (Option.some.inj h).symm⟩
  · cases h
theorem ct_X7_meet {l : Launch} {D : va_G} {cA : Nat → ClassId} {ov : Value} {aR0 : Nat → Nat → Nat} {B nS : Nat} {xs : Nat → Int32} {q : Nat} : Ctr l D cA ov aR0 B nS xs q 5 193 := by
  intro as c h
  have h : wX7_meet as = some c := h
  rcases iX7_meet h with ⟨a0, a1, a2, rfl, rfl⟩
  · refine ⟨⟨rfl, fun _ => ⟨_, _, rfl⟩⟩, fun m v m' ha => ?_⟩
    obtain ⟨x, hx, rfl⟩ := ha
    rw [fX7_meet_eq] at hx
    obtain ⟨n, hn⟩ := pfX7_meet q (csF_m q) a0 a1 a2 m (x, m') _ hx ⟨0, rfl⟩
    exact ctr_mk (t := tX7_meet) (cl := [185, 232, 233]) (by decide) (tabOK_mk okX7_meet (by decide +kernel)) (by decide +kernel) (by decide) (fa_cons ⟨4, by decide, ct_X7_passes⟩ (fa_cons ⟨1, by decide, ct_X7_keep⟩ (fa_cons ⟨1, by decide, ct_X7_again⟩ fa_nil))) (Nat.le_of_ble_eq_true rfl) (rfl : narrow .int (.int x) = .int x) hn
theorem iX7_meets {as : List AV} {c : CallR} (h : wX7_meets as = some c) : (∃ (a0 : Nat) (a1 : Int32) (a2 : Int32), as = [aR 7 a0, aI a1, aI a2] ∧ c = cRI (fX7_meets a0 a1 a2)) := by
  unfold wX7_meets at h
  split at h
  · exact ⟨_, _, _, rfl, (Option.some.inj h).symm⟩
  · cases h
theorem ct_X7_meets {l : Launch} {D : va_G} {cA : Nat → ClassId} {ov : Value} {aR0 : Nat → Nat → Nat} {B nS : Nat} {xs : Nat → Int32} {q : Nat} : Ctr l D cA ov aR0 B nS xs q 6 194 := by
  intro as c h
  have h : wX7_meets as = some c := h
  rcases iX7_meets h with ⟨a0, a1, a2, rfl, rfl⟩
  · refine ⟨⟨rfl, fun _ => ⟨_, _, rfl⟩⟩, fun m v m' ha => ?_⟩
    obtain ⟨x, hx, rfl⟩ := ha
    rw [fX7_meets_eq] at hx
    obtain ⟨n, hn⟩ := pfX7_meets q (csF_m q) a0 a1 a2 m (x, m') _ hx ⟨0, rfl⟩
    exact ctr_mk (t := tX7_meets) (cl := [138, 141, 142, 193]) (by decide) (tabOK_mk okX7_meets (by decide +kernel)) (by decide +kernel) (by decide) (fa_cons ⟨1, by decide, ct_X7_no⟩ (fa_cons ⟨2, by decide, ct_X7_isBottle⟩ (fa_cons ⟨2, by decide, ct_X7_isWalker⟩ (fa_cons ⟨5, by decide, ct_X7_meet⟩ fa_nil)))) (Nat.le_of_ble_eq_true rfl) (rfl : narrow .int (.int x) = .int x) hn
theorem iX7_finder {as : List AV} {c : CallR} (h : wX7_finder as = some c) : (∃ (a0 : Nat) (a1 : Int32), as = [aR 7 a0, aI a1] ∧ c = cRI (fX7_finder a0 a1)) := by
  unfold wX7_finder at h
  split at h
  · exact ⟨_, _, rfl, (Option.some.inj h).symm⟩
  · cases h
theorem ct_X7_finder {l : Launch} {D : va_G} {cA : Nat → ClassId} {ov : Value} {aR0 : Nat → Nat → Nat} {B nS : Nat} {xs : Nat → Int32} {q : Nat} : Ctr l D cA ov aR0 B nS xs q 6 195 := by
  intro as c h
  have h : wX7_finder as = some c := h
  rcases iX7_finder h with ⟨a0, a1, rfl, rfl⟩
  · refine ⟨⟨rfl, fun _ => ⟨_, _, rfl⟩⟩, fun m v m' ha => ?_⟩
    obtain ⟨x, hx, rfl⟩ := ha
    rw [fX7_finder_eq] at hx
    obtain ⟨n, hn⟩ := pfX7_finder q (csF_m q) a0 a1 m (x, m') _ hx ⟨0, rfl⟩
    exact ctr_mk (t := tX7_finder) (cl := [138, 141, 193]) (by decide) (tabOK_mk okX7_finder (by decide +kernel)) (by decide +kernel) (by decide) (fa_cons ⟨1, by decide, ct_X7_no⟩ (fa_cons ⟨2, by decide, ct_X7_isBottle⟩ (fa_cons ⟨5, by decide, ct_X7_meet⟩ fa_nil))) (Nat.le_of_ble_eq_true rfl) (rfl : narrow .int (.int x) = .int x) hn
theorem iX7_two {as : List AV} {c : CallR} (h : wX7_two as = some c) : (∃ (a0 : Nat) (a1 : Int32) (a2 : Int32), as = [aR 7 a0, aI a1, aI a2] ∧ c = cRI (fX7_two a0 a1 a2)) := by
  unfold wX7_two at h
  split at h
  · exact ⟨_, _, _, rfl, (Option.some.inj h).symm⟩
  · cases h
theorem ct_X7_two {l : Launch} {D : va_G} {cA : Nat → ClassId} {ov : Value} {aR0 : Nat → Nat → Nat} {B nS : Nat} {xs : Nat → Int32} {q : Nat} : Ctr l D cA ov aR0 B nS xs q 5 196 := by
  intro as c h
  have h : wX7_two as = some c := h
  rcases iX7_two h with ⟨a0, a1, a2, rfl, rfl⟩
  · refine ⟨⟨rfl, fun _ => ⟨_, _, rfl⟩⟩, fun m v m' ha => ?_⟩
    obtain ⟨x, hx, rfl⟩ := ha
    rw [fX7_two_eq] at hx
    obtain ⟨n, hn⟩ := pfX7_two q (csF_m q) a0 a1 a2 m (x, m') _ hx ⟨0, rfl⟩
    exact ctr_mk (t := tX7_two) (cl := [138, 142, 185, 232, 233]) (by decide) (tabOK_mk okX7_two (by decide +kernel)) (by decide +kernel) (by decide) (fa_cons ⟨1, by decide, ct_X7_no⟩ (fa_cons ⟨2, by decide, ct_X7_isWalker⟩ (fa_cons ⟨4, by decide, ct_X7_passes⟩ (fa_cons ⟨1, by decide, ct_X7_keep⟩ (fa_cons ⟨1, by decide, ct_X7_again⟩ fa_nil))))) (Nat.le_of_ble_eq_true rfl) (rfl : narrow .int (.int x) = .int x) hn
theorem iX7_whenThrown {as : List AV} {c : CallR} (h : wX7_whenThrown as = some c) : (∃ (a0 : Nat) (a1 : Int32) (a2 : Int32) (a3 : Int32) (a4 : Int32), as = [aR 7 a0, aI a1, aI a2, aI a3, aI a4] ∧ c = cRI (fX7_whenThrown a0 a1 a2 a3 a4)) := by
  unfold wX7_whenThrown at h
  split at h
  · exact ⟨_, _, _, _, _, rfl, (Option.some.inj h).symm⟩
  · cases h
theorem ct_X7_whenThrown {l : Launch} {D : va_G} {cA : Nat → ClassId} {ov : Value} {aR0 : Nat → Nat → Nat} {B nS : Nat} {xs : Nat → Int32} {q : Nat} : Ctr l D cA ov aR0 B nS xs q 6 197 := by
  intro as c h
  have h : wX7_whenThrown as = some c := h
  rcases iX7_whenThrown h with ⟨a0, a1, a2, a3, a4, rfl, rfl⟩
  · refine ⟨⟨rfl, fun _ => ⟨_, _, rfl⟩⟩, fun m v m' ha => ?_⟩
    obtain ⟨x, hx, rfl⟩ := ha
    rw [fX7_whenThrown_eq] at hx
    obtain ⟨n, hn⟩ := pfX7_whenThrown q (csF_m q) a0 a1 a2 a3 a4 m (x, m') _ hx ⟨0, rfl⟩
    exact ctr_mk (t := tX7_whenThrown) (cl := [163, 190]) (by decide) (tabOK_mk okX7_whenThrown (by decide +kernel)) (by decide +kernel) (by decide) (fa_cons ⟨1, by decide, ct_X7_becomes⟩ (fa_cons ⟨5, by decide, ct_X7_whenSo⟩ fa_nil)) (Nat.le_of_ble_eq_true rfl) (rfl : narrow .int (.int x) = .int x) hn
theorem iX7_aim {as : List AV} {c : CallR} (h : wX7_aim as = some c) : (∃ (a0 : Nat) (a1 : Int32) (a2 : Int32) (a3 : Int32) (a4 : Int32), as = [aR 7 a0, aI a1, aI a2, aI a3, aI a4] ∧ c = cRI (fX7_aim a0 a1 a2 a3 a4)) := by
  unfold wX7_aim at h
  split at h
  · exact ⟨_, _, _, _, _, rfl, (Option.some.inj h).symm⟩
  · cases h
theorem ct_X7_aim {l : Launch} {D : va_G} {cA : Nat → ClassId} {ov : Value} {aR0 : Nat → Nat → Nat} {B nS : Nat} {xs : Nat → Int32} {q : Nat} : Ctr l D cA ov aR0 B nS xs q 7 198 := by
  intro as c h
  have h : wX7_aim as = some c := h
  rcases iX7_aim h with ⟨a0, a1, a2, a3, a4, rfl, rfl⟩
  · refine ⟨⟨rfl, fun _ => ⟨_, _, rfl⟩⟩, fun m v m' ha => ?_⟩
    obtain ⟨x, hx, rfl⟩ := ha
    rw [fX7_aim_eq] at hx
    obtain ⟨n, hn⟩ := pfX7_aim q (csF_m q) a0 a1 a2 a3 a4 m (x, m') _ hx ⟨0, rfl⟩
    exact ctr_mk (t := tX7_aim) (cl := [138, 139, 142, 143, 197]) (by decide) (tabOK_mk okX7_aim (by decide +kernel)) (by decide +kernel) (by decide) (fa_cons ⟨1, by decide, ct_X7_no⟩ (fa_cons ⟨1, by decide, ct_X7_within⟩ (fa_cons ⟨2, by decide, ct_X7_isWalker⟩ (fa_cons ⟨2, by decide, ct_X7_isSuch⟩ (fa_cons ⟨6, by decide, ct_X7_whenThrown⟩ fa_nil))))) (Nat.le_of_ble_eq_true rfl) (rfl : narrow .int (.int x) = .int x) hn
theorem iX7_foundFor {as : List AV} {c : CallR} (h : wX7_foundFor as = some c) : (∃ (a0 : Nat) (a1 : Int32) (a2 : Int32), as = [aR 7 a0, aI a1, aI a2] ∧ c = cRI (fX7_foundFor a0 a1 a2)) := by
  unfold wX7_foundFor at h
  split at h
  · exact ⟨_, _, _, rfl, (Option.some.inj h).symm⟩
  · cases h
theorem ct_X7_foundFor {l : Launch} {D : va_G} {cA : Nat → ClassId} {ov : Value} {aR0 : Nat → Nat → Nat} {B nS : Nat} {xs : Nat → Int32} {q : Nat} : Ctr l D cA ov aR0 B nS xs q 6 199 := by
  intro as c h
  have h : wX7_foundFor as = some c := h
  rcases iX7_foundFor h with ⟨a0, a1, a2, rfl, rfl⟩
  · refine ⟨⟨rfl, fun _ => ⟨_, _, rfl⟩⟩, fun m v m' ha => ?_⟩
    obtain ⟨x, hx, rfl⟩ := ha
    rw [fX7_foundFor_eq] at hx
    obtain ⟨n, hn⟩ := pfX7_foundFor q (csF_m q) a0 a1 a2 m (x, m') _ hx ⟨0, rfl⟩
    exact ctr_mk (t := tX7_foundFor) (cl := [186, 232, 233]) (by decide) (tabOK_mk okX7_foundFor (by decide +kernel)) (by decide +kernel) (by decide) (fa_cons ⟨5, by decide, ct_X7_goesOn⟩ (fa_cons ⟨1, by decide, ct_X7_keep⟩ (fa_cons ⟨1, by decide, ct_X7_again⟩ fa_nil))) (Nat.le_of_ble_eq_true rfl) (rfl : narrow .int (.int x) = .int x) hn
theorem iX7_walk {as : List AV} {c : CallR} (h : wX7_walk as = some c) : (∃ (a0 : Nat) (a1 : Int32) (a2 : Int32) (a3 : Int32), as = [aR 7 a0, aI a1, aI a2, aI a3] ∧ c = cRI (fX7_walk a0 a1 a2 a3)) := by
  unfold wX7_walk at h
  split at h
  · exact ⟨_, _, _, _, rfl, (Option.some.inj h).symm⟩
  · cases h
theorem ct_X7_walk {l : Launch} {D : va_G} {cA : Nat → ClassId} {ov : Value} {aR0 : Nat → Nat → Nat} {B nS : Nat} {xs : Nat → Int32} {q : Nat} : Ctr l D cA ov aR0 B nS xs q 7 200 := by
  intro as c h
  have h : wX7_walk as = some c := h
  rcases iX7_walk h with ⟨a0, a1, a2, a3, rfl, rfl⟩
  · refine ⟨⟨rfl, fun _ => ⟨_, _, rfl⟩⟩, fun m v m' ha => ?_⟩
    obtain ⟨x, hx, rfl⟩ := ha
    rw [fX7_walk_eq] at hx
    obtain ⟨n, hn⟩ := pfX7_walk q (csF_m q) a0 a1 a2 a3 m (x, m') _ hx ⟨0, rfl⟩
    exact ctr_mk (t := tX7_walk) (cl := [138, 139, 142, 199]) (by decide) (tabOK_mk okX7_walk (by decide +kernel)) (by decide +kernel) (by decide) (fa_cons ⟨1, by decide, ct_X7_no⟩ (fa_cons ⟨1, by decide, ct_X7_within⟩ (fa_cons ⟨2, by decide, ct_X7_isWalker⟩ (fa_cons ⟨6, by decide, ct_X7_foundFor⟩ fa_nil)))) (Nat.le_of_ble_eq_true rfl) (rfl : narrow .int (.int x) = .int x) hn
theorem iX7_toldAt {as : List AV} {c : CallR} (h : wX7_toldAt as = some c) : (∃ (a0 : Nat) (a1 : Int32) (a2 : Int32), as = [aR 7 a0, aI a1, aI a2] ∧ c = cRJ (fX7_toldAt a0 a1 a2)) := by
  unfold wX7_toldAt at h
  split at h
  · exact ⟨_, _, _, rfl, (Option.some.inj h).symm⟩
  · cases h
theorem ct_X7_toldAt {l : Launch} {D : va_G} {cA : Nat → ClassId} {ov : Value} {aR0 : Nat → Nat → Nat} {B nS : Nat} {xs : Nat → Int32} {q : Nat} : Ctr l D cA ov aR0 B nS xs q 1 201 := by
  intro as c h
  have h : wX7_toldAt as = some c := h
  rcases iX7_toldAt h with ⟨a0, a1, a2, rfl, rfl⟩
  · refine ⟨⟨rfl, fun _ => ⟨_, _, rfl⟩⟩, fun m v m' ha => ?_⟩
    obtain ⟨x, hx, rfl⟩ := ha
    rw [fX7_toldAt_eq] at hx
    obtain ⟨n, hn⟩ := pfX7_toldAt q (csF_m q) a0 a1 a2 m (x, m') _ hx ⟨0, rfl⟩
    exact ctr_mk (t := tX7_toldAt) (cl := []) (by decide) (tabOK_mk okX7_toldAt (by decide +kernel)) (by decide +kernel) (by decide) fa_nil (Nat.le_of_ble_eq_true rfl) trivial hn
theorem iX7_noTold {as : List AV} {c : CallR} (h : wX7_noTold as = some c) : (∃ (a0 : Nat) (a1 : Int32) (a2 : Int32), as = [aR 7 a0, aI a1, aI a2] ∧ c = cRI (fX7_noTold a0 a1 a2)) := by
  unfold wX7_noTold at h
  split at h
  · exact ⟨_, _, _, rfl, (Option.some.inj h).symm⟩
  · cases h
theorem ct_X7_noTold {l : Launch} {D : va_G} {cA : Nat → ClassId} {ov : Value} {aR0 : Nat → Nat → Nat} {B nS : Nat} {xs : Nat → Int32} {q : Nat} : Ctr l D cA ov aR0 B nS xs q 3 202 := by
  intro as c h
  have h : wX7_noTold as = some c := h
  rcases iX7_noTold h with ⟨a0, a1, a2, rfl, rfl⟩
  · refine ⟨⟨rfl, fun _ => ⟨_, _, rfl⟩⟩, fun m v m' ha => ?_⟩
    obtain ⟨x, hx, rfl⟩ := ha
    rw [fX7_noTold_eq] at hx
    obtain ⟨n, hn⟩ := pfX7_noTold q (csF_m q) a0 a1 a2 m (x, m') _ hx ⟨0, rfl⟩
    exact ctr_mk (t := tX7_noTold) (cl := [146, 148]) (by decide) (tabOK_mk okX7_noTold (by decide +kernel)) (by decide +kernel) (by decide) (fa_cons ⟨2, by decide, ct_X7_isRow⟩ (fa_cons ⟨1, by decide, ct_X7_noRow⟩ fa_nil)) (Nat.le_of_ble_eq_true rfl) (rfl : narrow .int (.int x) = .int x) hn
theorem iX7_goesSo {as : List AV} {c : CallR} (h : wX7_goesSo as = some c) : (∃ (a0 : Nat) (a1 : Int32) (a2 : Int32) (a3 : Int32), as = [aR 7 a0, aI a1, aI a2, aI a3] ∧ c = cRZ (fX7_goesSo a0 a1 a2 a3)) := by
  unfold wX7_goesSo at h
  split at h
  · exact ⟨_, _, _, _, rfl, (Option.some.inj h).symm⟩
  · cases h
theorem ct_X7_goesSo {l : Launch} {D : va_G} {cA : Nat → ClassId} {ov : Value} {aR0 : Nat → Nat → Nat} {B nS : Nat} {xs : Nat → Int32} {q : Nat} : Ctr l D cA ov aR0 B nS xs q 5 203 := by
  intro as c h
  have h : wX7_goesSo as = some c := h
  rcases iX7_goesSo h with ⟨a0, a1, a2, a3, rfl, rfl⟩
  · refine ⟨⟨rfl, fun _ => ⟨_, _, rfl⟩⟩, fun m v m' ha => ?_⟩
    obtain ⟨x, hx, rfl⟩ := ha
    rw [fX7_goesSo_eq] at hx
    obtain ⟨n, hn⟩ := pfX7_goesSo q (csF_m q) a0 a1 a2 a3 m (x, m') _ hx ⟨0, rfl⟩
    exact ctr_mk (t := tX7_goesSo) (cl := [163, 185, 201, 232, 233]) (by decide) (tabOK_mk okX7_goesSo (by decide +kernel)) (by decide +kernel) (by decide) (fa_cons ⟨1, by decide, ct_X7_becomes⟩ (fa_cons ⟨4, by decide, ct_X7_passes⟩ (fa_cons ⟨1, by decide, ct_X7_toldAt⟩ (fa_cons ⟨1, by decide, ct_X7_keep⟩ (fa_cons ⟨1, by decide, ct_X7_again⟩ fa_nil))))) (Nat.le_of_ble_eq_true rfl) (by cases x <;> rfl) hn
theorem iX7_fits {as : List AV} {c : CallR} (h : wX7_fits as = some c) : (∃ (a0 : Nat) (a1 : Int32) (a2 : Int32) (a3 : Int32) (a4 : Int32), as = [aR 7 a0, aI a1, aI a2, aI a3, aI a4] ∧ c = cRI (fX7_fits a0 a1 a2 a3 a4)) := by
  unfold wX7_fits at h
  split at h
  · exact ⟨_, _, _, _, _, rfl, (Option.some.inj h).symm⟩
  · cases h
theorem ct_X7_fits {l : Launch} {D : va_G} {cA : Nat → ClassId} {ov : Value} {aR0 : Nat → Nat → Nat} {B nS : Nat} {xs : Nat → Int32} {q : Nat} : Ctr l D cA ov aR0 B nS xs q 6 204 := by
  intro as c h
  have h : wX7_fits as = some c := h
  rcases iX7_fits h with ⟨a0, a1, a2, a3, a4, rfl, rfl⟩
  · refine ⟨⟨rfl, fun _ => ⟨_, _, rfl⟩⟩, fun m v m' ha => ?_⟩
    obtain ⟨x, hx, rfl⟩ := ha
    rw [fX7_fits_eq] at hx
    obtain ⟨n, hn⟩ := pfX7_fits q (csF_m q) a0 a1 a2 a3 a4 m (x, m') _ hx ⟨0, rfl⟩
    exact ctr_mk (t := tX7_fits) (cl := [138, 139, 141, 145, 202, 203]) (by decide) (tabOK_mk okX7_fits (by decide +kernel)) (by decide +kernel) (by decide) (fa_cons ⟨1, by decide, ct_X7_no⟩ (fa_cons ⟨1, by decide, ct_X7_within⟩ (fa_cons ⟨2, by decide, ct_X7_isBottle⟩ (fa_cons ⟨2, by decide, ct_X7_isShelf⟩ (fa_cons ⟨3, by decide, ct_X7_noTold⟩ (fa_cons ⟨5, by decide, ct_X7_goesSo⟩ fa_nil)))))) (Nat.le_of_ble_eq_true rfl) (rfl : narrow .int (.int x) = .int x) hn
theorem iX7_from {as : List AV} {c : CallR} (h : wX7_from as = some c) : (∃ (a0 : Nat) (a1 : Int32) (a2 : Int32) (a3 : Int32), as = [aR 7 a0, aI a1, aI a2, aI a3] ∧ c = cRI (fX7_from a0 a1 a2 a3)) := by
  unfold wX7_from at h
  split at h
  · exact ⟨_, _, _, _, rfl, (Option.some.inj h).symm⟩
  · cases h
theorem ct_X7_from {l : Launch} {D : va_G} {cA : Nat → ClassId} {ov : Value} {aR0 : Nat → Nat → Nat} {B nS : Nat} {xs : Nat → Int32} {q : Nat} : Ctr l D cA ov aR0 B nS xs q 6 205 := by
  intro as c h
  have h : wX7_from as = some c := h
  rcases iX7_from h with ⟨a0, a1, a2, a3, rfl, rfl⟩
  · refine ⟨⟨rfl, fun _ => ⟨_, _, rfl⟩⟩, fun m v m' ha => ?_⟩
    obtain ⟨x, hx, rfl⟩ := ha
    rw [fX7_from_eq] at hx
    obtain ⟨n, hn⟩ := pfX7_from q (csF_m q) a0 a1 a2 a3 m (x, m') _ hx ⟨0, rfl⟩
    exact ctr_mk (t := tX7_from) (cl := [138, 139, 140, 141, 163, 186, 232, 233]) (by decide) (tabOK_mk okX7_from (by decide +kernel)) (by decide +kernel) (by decide) (fa_cons ⟨1, by decide, ct_X7_no⟩ (fa_cons ⟨1, by decide, ct_X7_within⟩ (fa_cons ⟨2, by decide, ct_X7_isCell⟩ (fa_cons ⟨2, by decide, ct_X7_isBottle⟩ (fa_cons ⟨1, by decide, ct_X7_becomes⟩ (fa_cons ⟨5, by decide, ct_X7_goesOn⟩ (fa_cons ⟨1, by decide, ct_X7_keep⟩ (fa_cons ⟨1, by decide, ct_X7_again⟩ fa_nil)))))))) (Nat.le_of_ble_eq_true rfl) (rfl : narrow .int (.int x) = .int x) hn
theorem csT_eq {q : Nat} {rc : Nat → Int32 → Int32 → Int32 → Int32 → Int32 → MM → Option (Unit × MM)} {as : List AV} {M : Mem} {κ : Option AV → Mem → Option Out} {out : Out} (h : csT q rc 206 as M κ = some out) : ∃ a0 a1 a2 a3 a4 a5 x m', as = [aR 7 a0, aI a1, aI a2, aI a3, aI a4, aI a5] ∧ rc a0 a1 a2 a3 a4 a5 M.2 = some (x, m') ∧ κ none (ST0 q, m') = some out := by
  have h : (match wTries rc as with
    | none => none
    | some c => callR q c M.2 κ) = some out := h
  cases hw : wTries rc as with
  | none => rw [hw] at h; cases h
  | some c =>
    rw [hw] at h
    unfold wTries at hw
    split at hw
    · have hw := Option.some.inj hw
      subst hw
      obtain ⟨v, m', ⟨x, h1, h2⟩, h3⟩ := callR_ans h
      subst h2
      exact ⟨_, _, _, _, _, _, x, m', rfl, h1, h3⟩
    · cases hw
theorem tries_n {l : Launch} {D : va_G} {cA : Nat → ClassId} {ov : Value} {aR0 : Nat → Nat → Nat} {B nS : Nat} {xs : Nat → Int32} {q : Nat} : ∀ (d : Nat) (a0 : Nat) (a1 a2 a3 a4 a5 : Int32) (m m' : MM) (x : Unit), fX7_tries_n d a0 a1 a2 a3 a4 a5 m = some (x, m') → RK (ST0 q, m) (ST0 q, m') ∧ MetC l D cA ov aR0 B nS xs d 206 [aR 7 a0, aI a1, aI a2, aI a3, aI a4, aI a5] (ST0 q, m) none (ST0 q, m') := by
  intro d
  induction d with
  | zero => intro a0 a1 a2 a3 a4 a5 m m' x h; cases h
  | succ d ih =>
    intro a0 a1 a2 a3 a4 a5 m m' x h
    have h : fX7_tries_s (fX7_tries_n d) a0 a1 a2 a3 a4 a5 m = some (x, m') := h
    obtain ⟨n, hn⟩ := pfX7_tries q (fX7_tries_n d) (csT_m q _) a0 a1 a2 a3 a4 a5 m (x, m') _ h ⟨0, rfl⟩
    have hc : chT [206] tX7_tries = true := by decide +kernel
    have hrk : RK (ST0 q, m) (ST0 q, m') := brun_rk (out := (none, (ST0 q, m'))) (s0 := ST0 q) hc (fun b hb as M κ hM e => by
      have hb : b = 206 := List.mem_singleton.mp hb
      subst hb
      obtain ⟨b0, b1, b2, b3, b4, b5, y, m1, rfl, e1, e2⟩ := csT_eq e
      obtain ⟨s, mm⟩ := M
      have hM : s = ST0 q := hM
      subst hM
      exact ⟨none, (ST0 q, m1), e2, (ih _ _ _ _ _ _ _ _ _ e1).1⟩) n 0 _ _ _ rfl hn
    refine ⟨hrk, ?_⟩
    refine met_of_run (al := false) (cs := csT q (fX7_tries_n d)) (t := tX7_tries) (PM := fun M => M.1 = ST0 q) (by decide) (tabOK_mk okX7_tries (by decide +kernel)) (Nat.succ_le_succ (Nat.zero_le _)) (fun h => by cases h) (Nat.le_of_ble_eq_true rfl) trivial (fun h => hrk.ro h) (Nat.le_refl _) (Nat.le_refl _) rfl (fun _ M hM => ?_) (fun M M' hM hR => ?_) (fun R hR1 hR2 pc xe M hx hz hM => ?_) (brun_fx hn)
    · have hM : M.1 = ST0 q := hM
      rw [hM]; exact ⟨Nat.le_refl _, Nat.le_refl _⟩
    · have hM : M.1 = ST0 q := hM
      show M'.1 = ST0 q
      rw [hR.2.2 rfl, hM]
    · have hb := List.mem_singleton.mp ((chT_at hc hx).1 hz)
      rw [hb]
      obtain ⟨s, mm⟩ := M
      have hM : s = ST0 q := hM
      subst hM
      intro as κ out e
      obtain ⟨b0, b1, b2, b3, b4, b5, y, m1, rfl, e1, e2⟩ := csT_eq e
      exact ⟨rfl, fun _ => ⟨_, _, rfl⟩, none, (ST0 q, m1), d, e2, fun _ => rfl, by omega, by omega, (ih _ _ _ _ _ _ _ _ _ e1).2⟩
theorem ct_X7_tries {l : Launch} {D : va_G} {cA : Nat → ClassId} {ov : Value} {aR0 : Nat → Nat → Nat} {B nS : Nat} {xs : Nat → Int32} {q : Nat} : Ctr l D cA ov aR0 B nS xs q 10 206 := by
  intro as c h
  have h : wX7_tries as = some c := h
  unfold wX7_tries at h
  split at h
  · have h := Option.some.inj h
    subst h
    refine ⟨⟨rfl, fun _ => ⟨_, _, rfl⟩⟩, fun m v m' ha => ?_⟩
    obtain ⟨x, hx, rfl⟩ := ha
    rw [fX7_tries_eq] at hx
    exact tries_n 10 _ _ _ _ _ _ _ _ _ hx
  · cases h
theorem iX7_pairs {as : List AV} {c : CallR} (h : wX7_pairs as = some c) : (∃ (a0 : Nat) (a1 : Int32) (a2 : Int32), as = [aR 7 a0, aI a1, aI a2] ∧ c = cRI (fX7_pairs a0 a1 a2)) := by
  unfold wX7_pairs at h
  split at h
  · exact ⟨_, _, _, rfl, (Option.some.inj h).symm⟩
  · cases h
theorem ct_X7_pairs {l : Launch} {D : va_G} {cA : Nat → ClassId} {ov : Value} {aR0 : Nat → Nat → Nat} {B nS : Nat} {xs : Nat → Int32} {q : Nat} : Ctr l D cA ov aR0 B nS xs q 11 207 := by
  intro as c h
  have h : wX7_pairs as = some c := h
  rcases iX7_pairs h with ⟨a0, a1, a2, rfl, rfl⟩
  · refine ⟨⟨rfl, fun _ => ⟨_, _, rfl⟩⟩, fun m v m' ha => ?_⟩
    obtain ⟨x, hx, rfl⟩ := ha
    rw [fX7_pairs_eq] at hx
    obtain ⟨n, hn⟩ := pfX7_pairs q (csF_m q) a0 a1 a2 m (x, m') _ hx ⟨0, rfl⟩
    exact ctr_mk (t := tX7_pairs) (cl := [138, 139, 141, 193, 206]) (by decide) (tabOK_mk okX7_pairs (by decide +kernel)) (by decide +kernel) (by decide) (fa_cons ⟨1, by decide, ct_X7_no⟩ (fa_cons ⟨1, by decide, ct_X7_within⟩ (fa_cons ⟨2, by decide, ct_X7_isBottle⟩ (fa_cons ⟨5, by decide, ct_X7_meet⟩ (fa_cons ⟨10, by decide, ct_X7_tries⟩ fa_nil))))) (Nat.le_of_ble_eq_true rfl) (rfl : narrow .int (.int x) = .int x) hn
theorem iX7_mended {as : List AV} {c : CallR} (h : wX7_mended as = some c) : (∃ (a0 : Nat) (a1 : Int32) (a2 : Int32), as = [aR 7 a0, aI a1, aI a2] ∧ c = cRI (fX7_mended a0 a1 a2)) := by
  unfold wX7_mended at h
  split at h
  · exact ⟨_, _, _, rfl, (Option.some.inj h).symm⟩
  · cases h
theorem ct_X7_mended {l : Launch} {D : va_G} {cA : Nat → ClassId} {ov : Value} {aR0 : Nat → Nat → Nat} {B nS : Nat} {xs : Nat → Int32} {q : Nat} : Ctr l D cA ov aR0 B nS xs q 6 208 := by
  intro as c h
  have h : wX7_mended as = some c := h
  rcases iX7_mended h with ⟨a0, a1, a2, rfl, rfl⟩
  · refine ⟨⟨rfl, fun _ => ⟨_, _, rfl⟩⟩, fun m v m' ha => ?_⟩
    obtain ⟨x, hx, rfl⟩ := ha
    rw [fX7_mended_eq] at hx
    obtain ⟨n, hn⟩ := pfX7_mended q (csF_m q) a0 a1 a2 m (x, m') _ hx ⟨0, rfl⟩
    exact ctr_mk (t := tX7_mended) (cl := [138, 139, 141, 190]) (by decide) (tabOK_mk okX7_mended (by decide +kernel)) (by decide +kernel) (by decide) (fa_cons ⟨1, by decide, ct_X7_no⟩ (fa_cons ⟨1, by decide, ct_X7_within⟩ (fa_cons ⟨2, by decide, ct_X7_isBottle⟩ (fa_cons ⟨5, by decide, ct_X7_whenSo⟩ fa_nil)))) (Nat.le_of_ble_eq_true rfl) (rfl : narrow .int (.int x) = .int x) hn
theorem iX7_odds {as : List AV} {c : CallR} (h : wX7_odds as = some c) : (∃ (a0 : Nat) (a1 : Int32) (a2 : Int32) (a3 : Int32), as = [aR 7 a0, aI a1, aI a2, aI a3] ∧ c = cRI (fX7_odds a0 a1 a2 a3)) := by
  unfold wX7_odds at h
  split at h
  · exact ⟨_, _, _, _, rfl, (Option.some.inj h).symm⟩
  · cases h
theorem ct_X7_odds {l : Launch} {D : va_G} {cA : Nat → ClassId} {ov : Value} {aR0 : Nat → Nat → Nat} {B nS : Nat} {xs : Nat → Int32} {q : Nat} : Ctr l D cA ov aR0 B nS xs q 5 209 := by
  intro as c h
  have h : wX7_odds as = some c := h
  rcases iX7_odds h with ⟨a0, a1, a2, a3, rfl, rfl⟩
  · refine ⟨⟨rfl, fun _ => ⟨_, _, rfl⟩⟩, fun m v m' ha => ?_⟩
    obtain ⟨x, hx, rfl⟩ := ha
    rw [fX7_odds_eq] at hx
    obtain ⟨n, hn⟩ := pfX7_odds q (csF_m q) a0 a1 a2 a3 m (x, m') _ hx ⟨0, rfl⟩
    exact ctr_mk (t := tX7_odds) (cl := [138, 139, 141, 185, 232, 233]) (by decide) (tabOK_mk okX7_odds (by decide +kernel)) (by decide +kernel) (by decide) (fa_cons ⟨1, by decide, ct_X7_no⟩ (fa_cons ⟨1, by decide, ct_X7_within⟩ (fa_cons ⟨2, by decide, ct_X7_isBottle⟩ (fa_cons ⟨4, by decide, ct_X7_passes⟩ (fa_cons ⟨1, by decide, ct_X7_keep⟩ (fa_cons ⟨1, by decide, ct_X7_again⟩ fa_nil)))))) (Nat.le_of_ble_eq_true rfl) (rfl : narrow .int (.int x) = .int x) hn
theorem iX7_windFor {as : List AV} {c : CallR} (h : wX7_windFor as = some c) : (∃ (a0 : Nat) (a1 : Int32), as = [aR 7 a0, aI a1] ∧ c = cRI (fX7_windFor a0 a1)) := by
  unfold wX7_windFor at h
  split at h
  · exact ⟨_, _, rfl, (Option.some.inj h).symm⟩
  · cases h
theorem ct_X7_windFor {l : Launch} {D : va_G} {cA : Nat → ClassId} {ov : Value} {aR0 : Nat → Nat → Nat} {B nS : Nat} {xs : Nat → Int32} {q : Nat} : Ctr l D cA ov aR0 B nS xs q 6 210 := by
  intro as c h
  have h : wX7_windFor as = some c := h
  rcases iX7_windFor h with ⟨a0, a1, rfl, rfl⟩
  · refine ⟨⟨rfl, fun _ => ⟨_, _, rfl⟩⟩, fun m v m' ha => ?_⟩
    obtain ⟨x, hx, rfl⟩ := ha
    rw [fX7_windFor_eq] at hx
    obtain ⟨n, hn⟩ := pfX7_windFor q (csF_m q) a0 a1 m (x, m') _ hx ⟨0, rfl⟩
    exact ctr_mk (t := tX7_windFor) (cl := [138, 141, 190]) (by decide) (tabOK_mk okX7_windFor (by decide +kernel)) (by decide +kernel) (by decide) (fa_cons ⟨1, by decide, ct_X7_no⟩ (fa_cons ⟨2, by decide, ct_X7_isBottle⟩ (fa_cons ⟨5, by decide, ct_X7_whenSo⟩ fa_nil))) (Nat.le_of_ble_eq_true rfl) (rfl : narrow .int (.int x) = .int x) hn
theorem iX7_bestWind {as : List AV} {c : CallR} (h : wX7_bestWind as = some c) : (∃ (a0 : Nat) (a1 : Int32) (a2 : Int32), as = [aR 7 a0, aI a1, aI a2] ∧ c = cRI (fX7_bestWind a0 a1 a2)) := by
  unfold wX7_bestWind at h
  split at h
  · exact ⟨_, _, _, rfl, (Option.some.inj h).symm⟩
  · cases h
theorem ct_X7_bestWind {l : Launch} {D : va_G} {cA : Nat → ClassId} {ov : Value} {aR0 : Nat → Nat → Nat} {B nS : Nat} {xs : Nat → Int32} {q : Nat} : Ctr l D cA ov aR0 B nS xs q 6 211 := by
  intro as c h
  have h : wX7_bestWind as = some c := h
  rcases iX7_bestWind h with ⟨a0, a1, a2, rfl, rfl⟩
  · refine ⟨⟨rfl, fun _ => ⟨_, _, rfl⟩⟩, fun m v m' ha => ?_⟩
    obtain ⟨x, hx, rfl⟩ := ha
    rw [fX7_bestWind_eq] at hx
    obtain ⟨n, hn⟩ := pfX7_bestWind q (csF_m q) a0 a1 a2 m (x, m') _ hx ⟨0, rfl⟩
    exact ctr_mk (t := tX7_bestWind) (cl := [138, 139, 144, 186, 232, 233]) (by decide) (tabOK_mk okX7_bestWind (by decide +kernel)) (by decide +kernel) (by decide) (fa_cons ⟨1, by decide, ct_X7_no⟩ (fa_cons ⟨1, by decide, ct_X7_within⟩ (fa_cons ⟨2, by decide, ct_X7_isTime⟩ (fa_cons ⟨5, by decide, ct_X7_goesOn⟩ (fa_cons ⟨1, by decide, ct_X7_keep⟩ (fa_cons ⟨1, by decide, ct_X7_again⟩ fa_nil)))))) (Nat.le_of_ble_eq_true rfl) (rfl : narrow .int (.int x) = .int x) hn
theorem iX7_areSo {as : List AV} {c : CallR} (h : wX7_areSo as = some c) : (∃ (a0 : Nat) (a1 : Int32), as = [aR 7 a0, aI a1] ∧ c = cRI (fX7_areSo a0 a1)) := by
  unfold wX7_areSo at h
  split at h
  · exact ⟨_, _, rfl, (Option.some.inj h).symm⟩
  · cases h
theorem ct_X7_areSo {l : Launch} {D : va_G} {cA : Nat → ClassId} {ov : Value} {aR0 : Nat → Nat → Nat} {B nS : Nat} {xs : Nat → Int32} {q : Nat} : Ctr l D cA ov aR0 B nS xs q 1 212 := by
  intro as c h
  have h : wX7_areSo as = some c := h
  rcases iX7_areSo h with ⟨a0, a1, rfl, rfl⟩
  · refine ⟨⟨rfl, fun _ => ⟨_, _, rfl⟩⟩, fun m v m' ha => ?_⟩
    obtain ⟨x, hx, rfl⟩ := ha
    rw [fX7_areSo_eq] at hx
    obtain ⟨n, hn⟩ := pfX7_areSo q (csF_m q) a0 a1 m (x, m') _ hx ⟨0, rfl⟩
    exact ctr_mk (t := tX7_areSo) (cl := []) (by decide) (tabOK_mk okX7_areSo (by decide +kernel)) (by decide +kernel) (by decide) fa_nil (Nat.le_of_ble_eq_true rfl) (rfl : narrow .int (.int x) = .int x) hn
theorem iX7_afloatThen {as : List AV} {c : CallR} (h : wX7_afloatThen as = some c) : (∃ (a0 : Nat) (a1 : Int32), as = [aR 7 a0, aI a1] ∧ c = cRI (fX7_afloatThen a0 a1)) := by
  unfold wX7_afloatThen at h
  split at h
  · exact ⟨_, _, rfl, (Option.some.inj h).symm⟩
  · cases h
theorem ct_X7_afloatThen {l : Launch} {D : va_G} {cA : Nat → ClassId} {ov : Value} {aR0 : Nat → Nat → Nat} {B nS : Nat} {xs : Nat → Int32} {q : Nat} : Ctr l D cA ov aR0 B nS xs q 6 213 := by
  intro as c h
  have h : wX7_afloatThen as = some c := h
  rcases iX7_afloatThen h with ⟨a0, a1, rfl, rfl⟩
  · refine ⟨⟨rfl, fun _ => ⟨_, _, rfl⟩⟩, fun m v m' ha => ?_⟩
    obtain ⟨x, hx, rfl⟩ := ha
    rw [fX7_afloatThen_eq] at hx
    obtain ⟨n, hn⟩ := pfX7_afloatThen q (csF_m q) a0 a1 m (x, m') _ hx ⟨0, rfl⟩
    exact ctr_mk (t := tX7_afloatThen) (cl := [186, 212, 232, 233]) (by decide) (tabOK_mk okX7_afloatThen (by decide +kernel)) (by decide +kernel) (by decide) (fa_cons ⟨5, by decide, ct_X7_goesOn⟩ (fa_cons ⟨1, by decide, ct_X7_areSo⟩ (fa_cons ⟨1, by decide, ct_X7_keep⟩ (fa_cons ⟨1, by decide, ct_X7_again⟩ fa_nil)))) (Nat.le_of_ble_eq_true rfl) (rfl : narrow .int (.int x) = .int x) hn
theorem iX7_who {as : List AV} {c : CallR} (h : wX7_who as = some c) : (∃ (a0 : Nat) (a1 : Int32), as = [aR 7 a0, aI a1] ∧ c = cRI (fX7_who a0 a1)) := by
  unfold wX7_who at h
  split at h
  · exact ⟨_, _, rfl, (Option.some.inj h).symm⟩
  · cases h
theorem ct_X7_who {l : Launch} {D : va_G} {cA : Nat → ClassId} {ov : Value} {aR0 : Nat → Nat → Nat} {B nS : Nat} {xs : Nat → Int32} {q : Nat} : Ctr l D cA ov aR0 B nS xs q 7 214 := by
  intro as c h
  have h : wX7_who as = some c := h
  rcases iX7_who h with ⟨a0, a1, rfl, rfl⟩
  · refine ⟨⟨rfl, fun _ => ⟨_, _, rfl⟩⟩, fun m v m' ha => ?_⟩
    obtain ⟨x, hx, rfl⟩ := ha
    rw [fX7_who_eq] at hx
    obtain ⟨n, hn⟩ := pfX7_who q (csF_m q) a0 a1 m (x, m') _ hx ⟨0, rfl⟩
    exact ctr_mk (t := tX7_who) (cl := [138, 139, 212, 213]) (by decide) (tabOK_mk okX7_who (by decide +kernel)) (by decide +kernel) (by decide) (fa_cons ⟨1, by decide, ct_X7_no⟩ (fa_cons ⟨1, by decide, ct_X7_within⟩ (fa_cons ⟨1, by decide, ct_X7_areSo⟩ (fa_cons ⟨6, by decide, ct_X7_afloatThen⟩ fa_nil)))) (Nat.le_of_ble_eq_true rfl) (rfl : narrow .int (.int x) = .int x) hn
theorem iX7_strays {as : List AV} {c : CallR} (h : wX7_strays as = some c) : (∃ (a0 : Nat), as = [aR 7 a0] ∧ c = cRI (fX7_strays a0)) := by
  unfold wX7_strays at h
  split at h
  · exact ⟨_, rfl, (Option.some.inj h).symm⟩
  · cases h
theorem ct_X7_strays {l : Launch} {D : va_G} {cA : Nat → ClassId} {ov : Value} {aR0 : Nat → Nat → Nat} {B nS : Nat} {xs : Nat → Int32} {q : Nat} : Ctr l D cA ov aR0 B nS xs q 7 215 := by
  intro as c h
  have h : wX7_strays as = some c := h
  rcases iX7_strays h with ⟨a0, rfl, rfl⟩
  · refine ⟨⟨rfl, fun _ => ⟨_, _, rfl⟩⟩, fun m v m' ha => ?_⟩
    obtain ⟨x, hx, rfl⟩ := ha
    rw [fX7_strays_eq] at hx
    obtain ⟨n, hn⟩ := pfX7_strays q (csF_m q) a0 m (x, m') _ hx ⟨0, rfl⟩
    exact ctr_mk (t := tX7_strays) (cl := [213]) (by decide) (tabOK_mk okX7_strays (by decide +kernel)) (by decide +kernel) (by decide) (fa_cons ⟨6, by decide, ct_X7_afloatThen⟩ fa_nil) (Nat.le_of_ble_eq_true rfl) (rfl : narrow .int (.int x) = .int x) hn
theorem iX7_there {as : List AV} {c : CallR} (h : wX7_there as = some c) : (∃ (a0 : Nat) (a1 : Int32) (a2 : Int32), as = [aR 7 a0, aI a1, aI a2] ∧ c = cRI (fX7_there a0 a1 a2)) := by
  unfold wX7_there at h
  split at h
  · exact ⟨_, _, _, rfl, (Option.some.inj h).symm⟩
  · cases h
theorem ct_X7_there {l : Launch} {D : va_G} {cA : Nat → ClassId} {ov : Value} {aR0 : Nat → Nat → Nat} {B nS : Nat} {xs : Nat → Int32} {q : Nat} : Ctr l D cA ov aR0 B nS xs q 3 216 := by
  intro as c h
  have h : wX7_there as = some c := h
  rcases iX7_there h with ⟨a0, a1, a2, rfl, rfl⟩
  · refine ⟨⟨rfl, fun _ => ⟨_, _, rfl⟩⟩, fun m v m' ha => ?_⟩
    obtain ⟨x, hx, rfl⟩ := ha
    rw [fX7_there_eq] at hx
    obtain ⟨n, hn⟩ := pfX7_there q (csF_m q) a0 a1 a2 m (x, m') _ hx ⟨0, rfl⟩
    exact ctr_mk (t := tX7_there) (cl := [138, 139, 140]) (by decide) (tabOK_mk okX7_there (by decide +kernel)) (by decide +kernel) (by decide) (fa_cons ⟨1, by decide, ct_X7_no⟩ (fa_cons ⟨1, by decide, ct_X7_within⟩ (fa_cons ⟨2, by decide, ct_X7_isCell⟩ fa_nil))) (Nat.le_of_ble_eq_true rfl) (rfl : narrow .int (.int x) = .int x) hn
theorem iX7_settles {as : List AV} {c : CallR} (h : wX7_settles as = some c) : (∃ (a0 : Nat) (a1 : Int32), as = [aR 7 a0, aI a1] ∧ c = cRI (fX7_settles a0 a1)) := by
  unfold wX7_settles at h
  split at h
  · exact ⟨_, _, rfl, (Option.some.inj h).symm⟩
  · cases h
theorem ct_X7_settles {l : Launch} {D : va_G} {cA : Nat → ClassId} {ov : Value} {aR0 : Nat → Nat → Nat} {B nS : Nat} {xs : Nat → Int32} {q : Nat} : Ctr l D cA ov aR0 B nS xs q 5 217 := by
  intro as c h
  have h : wX7_settles as = some c := h
  rcases iX7_settles h with ⟨a0, a1, rfl, rfl⟩
  · refine ⟨⟨rfl, fun _ => ⟨_, _, rfl⟩⟩, fun m v m' ha => ?_⟩
    obtain ⟨x, hx, rfl⟩ := ha
    rw [fX7_settles_eq] at hx
    obtain ⟨n, hn⟩ := pfX7_settles q (csF_m q) a0 a1 m (x, m') _ hx ⟨0, rfl⟩
    exact ctr_mk (t := tX7_settles) (cl := [138, 141, 185, 232, 233]) (by decide) (tabOK_mk okX7_settles (by decide +kernel)) (by decide +kernel) (by decide) (fa_cons ⟨1, by decide, ct_X7_no⟩ (fa_cons ⟨2, by decide, ct_X7_isBottle⟩ (fa_cons ⟨4, by decide, ct_X7_passes⟩ (fa_cons ⟨1, by decide, ct_X7_keep⟩ (fa_cons ⟨1, by decide, ct_X7_again⟩ fa_nil))))) (Nat.le_of_ble_eq_true rfl) (rfl : narrow .int (.int x) = .int x) hn
theorem iX7_cellsOf {as : List AV} {c : CallR} (h : wX7_cellsOf as = some c) : (∃ (a0 : Nat) (a1 : Int32), as = [aR 7 a0, aI a1] ∧ c = cRI (fX7_cellsOf a0 a1)) := by
  unfold wX7_cellsOf at h
  split at h
  · exact ⟨_, _, rfl, (Option.some.inj h).symm⟩
  · cases h
theorem ct_X7_cellsOf {l : Launch} {D : va_G} {cA : Nat → ClassId} {ov : Value} {aR0 : Nat → Nat → Nat} {B nS : Nat} {xs : Nat → Int32} {q : Nat} : Ctr l D cA ov aR0 B nS xs q 5 218 := by
  intro as c h
  have h : wX7_cellsOf as = some c := h
  rcases iX7_cellsOf h with ⟨a0, a1, rfl, rfl⟩
  · refine ⟨⟨rfl, fun _ => ⟨_, _, rfl⟩⟩, fun m v m' ha => ?_⟩
    obtain ⟨x, hx, rfl⟩ := ha
    rw [fX7_cellsOf_eq] at hx
    obtain ⟨n, hn⟩ := pfX7_cellsOf q (csF_m q) a0 a1 m (x, m') _ hx ⟨0, rfl⟩
    exact ctr_mk (t := tX7_cellsOf) (cl := [185, 232, 233]) (by decide) (tabOK_mk okX7_cellsOf (by decide +kernel)) (by decide +kernel) (by decide) (fa_cons ⟨4, by decide, ct_X7_passes⟩ (fa_cons ⟨1, by decide, ct_X7_keep⟩ (fa_cons ⟨1, by decide, ct_X7_again⟩ fa_nil))) (Nat.le_of_ble_eq_true rfl) (rfl : narrow .int (.int x) = .int x) hn
theorem iX7_reach {as : List AV} {c : CallR} (h : wX7_reach as = some c) : (∃ (a0 : Nat) (a1 : Int32) (a2 : Int32), as = [aR 7 a0, aI a1, aI a2] ∧ c = cRI (fX7_reach a0 a1 a2)) := by
  unfold wX7_reach at h
  split at h
  · exact ⟨_, _, _, rfl, (Option.some.inj h).symm⟩
  · cases h
theorem ct_X7_reach {l : Launch} {D : va_G} {cA : Nat → ClassId} {ov : Value} {aR0 : Nat → Nat → Nat} {B nS : Nat} {xs : Nat → Int32} {q : Nat} : Ctr l D cA ov aR0 B nS xs q 6 219 := by
  intro as c h
  have h : wX7_reach as = some c := h
  rcases iX7_reach h with ⟨a0, a1, a2, rfl, rfl⟩
  · refine ⟨⟨rfl, fun _ => ⟨_, _, rfl⟩⟩, fun m v m' ha => ?_⟩
    obtain ⟨x, hx, rfl⟩ := ha
    rw [fX7_reach_eq] at hx
    obtain ⟨n, hn⟩ := pfX7_reach q (csF_m q) a0 a1 a2 m (x, m') _ hx ⟨0, rfl⟩
    exact ctr_mk (t := tX7_reach) (cl := [138, 139, 141, 218]) (by decide) (tabOK_mk okX7_reach (by decide +kernel)) (by decide +kernel) (by decide) (fa_cons ⟨1, by decide, ct_X7_no⟩ (fa_cons ⟨1, by decide, ct_X7_within⟩ (fa_cons ⟨2, by decide, ct_X7_isBottle⟩ (fa_cons ⟨5, by decide, ct_X7_cellsOf⟩ fa_nil)))) (Nat.le_of_ble_eq_true rfl) (rfl : narrow .int (.int x) = .int x) hn
theorem iX7_busiest {as : List AV} {c : CallR} (h : wX7_busiest as = some c) : (∃ (a0 : Nat) (a1 : Int32), as = [aR 7 a0, aI a1] ∧ c = cRI (fX7_busiest a0 a1)) := by
  unfold wX7_busiest at h
  split at h
  · exact ⟨_, _, rfl, (Option.some.inj h).symm⟩
  · cases h
theorem ct_X7_busiest {l : Launch} {D : va_G} {cA : Nat → ClassId} {ov : Value} {aR0 : Nat → Nat → Nat} {B nS : Nat} {xs : Nat → Int32} {q : Nat} : Ctr l D cA ov aR0 B nS xs q 6 220 := by
  intro as c h
  have h : wX7_busiest as = some c := h
  rcases iX7_busiest h with ⟨a0, a1, rfl, rfl⟩
  · refine ⟨⟨rfl, fun _ => ⟨_, _, rfl⟩⟩, fun m v m' ha => ?_⟩
    obtain ⟨x, hx, rfl⟩ := ha
    rw [fX7_busiest_eq] at hx
    obtain ⟨n, hn⟩ := pfX7_busiest q (csF_m q) a0 a1 m (x, m') _ hx ⟨0, rfl⟩
    exact ctr_mk (t := tX7_busiest) (cl := [138, 139, 218]) (by decide) (tabOK_mk okX7_busiest (by decide +kernel)) (by decide +kernel) (by decide) (fa_cons ⟨1, by decide, ct_X7_no⟩ (fa_cons ⟨1, by decide, ct_X7_within⟩ (fa_cons ⟨5, by decide, ct_X7_cellsOf⟩ fa_nil))) (Nat.le_of_ble_eq_true rfl) (rfl : narrow .int (.int x) = .int x) hn
theorem iX7_round {as : List AV} {c : CallR} (h : wX7_round as = some c) : (∃ (a0 : Nat) (a1 : Int32), as = [aR 7 a0, aI a1] ∧ c = cRI (fX7_round a0 a1)) := by
  unfold wX7_round at h
  split at h
  · exact ⟨_, _, rfl, (Option.some.inj h).symm⟩
  · cases h
theorem ct_X7_round {l : Launch} {D : va_G} {cA : Nat → ClassId} {ov : Value} {aR0 : Nat → Nat → Nat} {B nS : Nat} {xs : Nat → Int32} {q : Nat} : Ctr l D cA ov aR0 B nS xs q 4 221 := by
  intro as c h
  have h : wX7_round as = some c := h
  rcases iX7_round h with ⟨a0, a1, rfl, rfl⟩
  · refine ⟨⟨rfl, fun _ => ⟨_, _, rfl⟩⟩, fun m v m' ha => ?_⟩
    obtain ⟨x, hx, rfl⟩ := ha
    rw [fX7_round_eq] at hx
    obtain ⟨n, hn⟩ := pfX7_round q (csF_m q) a0 a1 m (x, m') _ hx ⟨0, rfl⟩
    exact ctr_mk (t := tX7_round) (cl := [138, 142, 184, 232, 233]) (by decide) (tabOK_mk okX7_round (by decide +kernel)) (by decide +kernel) (by decide) (fa_cons ⟨1, by decide, ct_X7_no⟩ (fa_cons ⟨2, by decide, ct_X7_isWalker⟩ (fa_cons ⟨3, by decide, ct_X7_steps⟩ (fa_cons ⟨1, by decide, ct_X7_keep⟩ (fa_cons ⟨1, by decide, ct_X7_again⟩ fa_nil))))) (Nat.le_of_ble_eq_true rfl) (rfl : narrow .int (.int x) = .int x) hn
theorem iX7_join {as : List AV} {c : CallR} (h : wX7_join as = some c) : (∃ (a0 : Nat) (a1 : Int32) (a2 : Int32), as = [aR 7 a0, aI a1, aI a2] ∧ c = cRI (fX7_join a0 a1 a2)) := by
  unfold wX7_join at h
  split at h
  · exact ⟨_, _, _, rfl, (Option.some.inj h).symm⟩
  · cases h
theorem ct_X7_join {l : Launch} {D : va_G} {cA : Nat → ClassId} {ov : Value} {aR0 : Nat → Nat → Nat} {B nS : Nat} {xs : Nat → Int32} {q : Nat} : Ctr l D cA ov aR0 B nS xs q 5 222 := by
  intro as c h
  have h : wX7_join as = some c := h
  rcases iX7_join h with ⟨a0, a1, a2, rfl, rfl⟩
  · refine ⟨⟨rfl, fun _ => ⟨_, _, rfl⟩⟩, fun m v m' ha => ?_⟩
    obtain ⟨x, hx, rfl⟩ := ha
    rw [fX7_join_eq] at hx
    obtain ⟨n, hn⟩ := pfX7_join q (csF_m q) a0 a1 a2 m (x, m') _ hx ⟨0, rfl⟩
    exact ctr_mk (t := tX7_join) (cl := [138, 141, 185, 232, 233]) (by decide) (tabOK_mk okX7_join (by decide +kernel)) (by decide +kernel) (by decide) (fa_cons ⟨1, by decide, ct_X7_no⟩ (fa_cons ⟨2, by decide, ct_X7_isBottle⟩ (fa_cons ⟨4, by decide, ct_X7_passes⟩ (fa_cons ⟨1, by decide, ct_X7_keep⟩ (fa_cons ⟨1, by decide, ct_X7_again⟩ fa_nil))))) (Nat.le_of_ble_eq_true rfl) (rfl : narrow .int (.int x) = .int x) hn
theorem iX7_first {as : List AV} {c : CallR} (h : wX7_first as = some c) : (∃ (a0 : Nat) (a1 : Int32), as = [aR 7 a0, aI a1] ∧ c = cRI (fX7_first a0 a1)) := by
  unfold wX7_first at h
  split at h
  · exact ⟨_, _, rfl, (Option.some.inj h).symm⟩
  · cases h
theorem ct_X7_first {l : Launch} {D : va_G} {cA : Nat → ClassId} {ov : Value} {aR0 : Nat → Nat → Nat} {B nS : Nat} {xs : Nat → Int32} {q : Nat} : Ctr l D cA ov aR0 B nS xs q 6 223 := by
  intro as c h
  have h : wX7_first as = some c := h
  rcases iX7_first h with ⟨a0, a1, rfl, rfl⟩
  · refine ⟨⟨rfl, fun _ => ⟨_, _, rfl⟩⟩, fun m v m' ha => ?_⟩
    obtain ⟨x, hx, rfl⟩ := ha
    rw [fX7_first_eq] at hx
    obtain ⟨n, hn⟩ := pfX7_first q (csF_m q) a0 a1 m (x, m') _ hx ⟨0, rfl⟩
    exact ctr_mk (t := tX7_first) (cl := [138, 142, 190]) (by decide) (tabOK_mk okX7_first (by decide +kernel)) (by decide +kernel) (by decide) (fa_cons ⟨1, by decide, ct_X7_no⟩ (fa_cons ⟨2, by decide, ct_X7_isWalker⟩ (fa_cons ⟨5, by decide, ct_X7_whenSo⟩ fa_nil))) (Nat.le_of_ble_eq_true rfl) (rfl : narrow .int (.int x) = .int x) hn
theorem iX7_next_ {as : List AV} {c : CallR} (h : wX7_next_ as = some c) : (∃ (a0 : Nat) (a1 : Int32) (a2 : Int32) (a3 : Int32), as = [aR 7 a0, aI a1, aI a2, aI a3] ∧ c = cRI (fX7_next_ a0 a1 a2 a3)) := by
  unfold wX7_next_ at h
  split at h
  · exact ⟨_, _, _, _, rfl, (Option.some.inj h).symm⟩
  · cases h
theorem ct_X7_next_ {l : Launch} {D : va_G} {cA : Nat → ClassId} {ov : Value} {aR0 : Nat → Nat → Nat} {B nS : Nat} {xs : Nat → Int32} {q : Nat} : Ctr l D cA ov aR0 B nS xs q 3 224 := by
  intro as c h
  have h : wX7_next_ as = some c := h
  rcases iX7_next_ h with ⟨a0, a1, a2, a3, rfl, rfl⟩
  · refine ⟨⟨rfl, fun _ => ⟨_, _, rfl⟩⟩, fun m v m' ha => ?_⟩
    obtain ⟨x, hx, rfl⟩ := ha
    rw [fX7_next__eq] at hx
    obtain ⟨n, hn⟩ := pfX7_next_ q (csF_m q) a0 a1 a2 a3 m (x, m') _ hx ⟨0, rfl⟩
    exact ctr_mk (t := tX7_next_) (cl := [138, 140, 143, 163, 183]) (by decide) (tabOK_mk okX7_next_ (by decide +kernel)) (by decide +kernel) (by decide) (fa_cons ⟨1, by decide, ct_X7_no⟩ (fa_cons ⟨2, by decide, ct_X7_isCell⟩ (fa_cons ⟨2, by decide, ct_X7_isSuch⟩ (fa_cons ⟨1, by decide, ct_X7_becomes⟩ (fa_cons ⟨2, by decide, ct_X7_drifts⟩ fa_nil))))) (Nat.le_of_ble_eq_true rfl) (rfl : narrow .int (.int x) = .int x) hn
theorem iX7_stays {as : List AV} {c : CallR} (h : wX7_stays as = some c) : (∃ (a0 : Nat) (a1 : Int32) (a2 : Int32), as = [aR 7 a0, aI a1, aI a2] ∧ c = cRI (fX7_stays a0 a1 a2)) := by
  unfold wX7_stays at h
  split at h
  · exact ⟨_, _, _, rfl, (Option.some.inj h).symm⟩
  · cases h
theorem ct_X7_stays {l : Launch} {D : va_G} {cA : Nat → ClassId} {ov : Value} {aR0 : Nat → Nat → Nat} {B nS : Nat} {xs : Nat → Int32} {q : Nat} : Ctr l D cA ov aR0 B nS xs q 3 225 := by
  intro as c h
  have h : wX7_stays as = some c := h
  rcases iX7_stays h with ⟨a0, a1, a2, rfl, rfl⟩
  · refine ⟨⟨rfl, fun _ => ⟨_, _, rfl⟩⟩, fun m v m' ha => ?_⟩
    obtain ⟨x, hx, rfl⟩ := ha
    rw [fX7_stays_eq] at hx
    obtain ⟨n, hn⟩ := pfX7_stays q (csF_m q) a0 a1 a2 m (x, m') _ hx ⟨0, rfl⟩
    exact ctr_mk (t := tX7_stays) (cl := [138, 143, 163, 183]) (by decide) (tabOK_mk okX7_stays (by decide +kernel)) (by decide +kernel) (by decide) (fa_cons ⟨1, by decide, ct_X7_no⟩ (fa_cons ⟨2, by decide, ct_X7_isSuch⟩ (fa_cons ⟨1, by decide, ct_X7_becomes⟩ (fa_cons ⟨2, by decide, ct_X7_drifts⟩ fa_nil)))) (Nat.le_of_ble_eq_true rfl) (rfl : narrow .int (.int x) = .int x) hn
theorem iX7_ofKind {as : List AV} {c : CallR} (h : wX7_ofKind as = some c) : (∃ (a0 : Nat) (a1 : Int32), as = [aR 7 a0, aI a1] ∧ c = cRI (fX7_ofKind a0 a1)) := by
  unfold wX7_ofKind at h
  split at h
  · exact ⟨_, _, rfl, (Option.some.inj h).symm⟩
  · cases h
theorem ct_X7_ofKind {l : Launch} {D : va_G} {cA : Nat → ClassId} {ov : Value} {aR0 : Nat → Nat → Nat} {B nS : Nat} {xs : Nat → Int32} {q : Nat} : Ctr l D cA ov aR0 B nS xs q 2 226 := by
  intro as c h
  have h : wX7_ofKind as = some c := h
  rcases iX7_ofKind h with ⟨a0, a1, rfl, rfl⟩
  · refine ⟨⟨rfl, fun _ => ⟨_, _, rfl⟩⟩, fun m v m' ha => ?_⟩
    obtain ⟨x, hx, rfl⟩ := ha
    rw [fX7_ofKind_eq] at hx
    obtain ⟨n, hn⟩ := pfX7_ofKind q (csF_m q) a0 a1 m (x, m') _ hx ⟨0, rfl⟩
    exact ctr_mk (t := tX7_ofKind) (cl := [138, 139]) (by decide) (tabOK_mk okX7_ofKind (by decide +kernel)) (by decide +kernel) (by decide) (fa_cons ⟨1, by decide, ct_X7_no⟩ (fa_cons ⟨1, by decide, ct_X7_within⟩ fa_nil)) (Nat.le_of_ble_eq_true rfl) (rfl : narrow .int (.int x) = .int x) hn
theorem iX7_judge {as : List AV} {c : CallR} (h : wX7_judge as = some c) : (∃ (a0 : Nat) (a1 : Int32) (a2 : Int32) (a3 : Int32), as = [aR 7 a0, aI a1, aI a2, aI a3] ∧ c = cRI (fX7_judge a0 a1 a2 a3)) := by
  unfold wX7_judge at h
  split at h
  · exact ⟨_, _, _, _, rfl, (Option.some.inj h).symm⟩
  · cases h
theorem ct_X7_judge {l : Launch} {D : va_G} {cA : Nat → ClassId} {ov : Value} {aR0 : Nat → Nat → Nat} {B nS : Nat} {xs : Nat → Int32} {q : Nat} : Ctr l D cA ov aR0 B nS xs q 5 227 := by
  intro as c h
  have h : wX7_judge as = some c := h
  rcases iX7_judge h with ⟨a0, a1, a2, a3, rfl, rfl⟩
  · refine ⟨⟨rfl, fun _ => ⟨_, _, rfl⟩⟩, fun m v m' ha => ?_⟩
    obtain ⟨x, hx, rfl⟩ := ha
    rw [fX7_judge_eq] at hx
    obtain ⟨n, hn⟩ := pfX7_judge q (csF_m q) a0 a1 a2 a3 m (x, m') _ hx ⟨0, rfl⟩
    exact ctr_mk (t := tX7_judge) (cl := [138, 139, 141, 145, 185, 201, 202, 232, 233]) (by decide) (tabOK_mk okX7_judge (by decide +kernel)) (by decide +kernel) (by decide) (fa_cons ⟨1, by decide, ct_X7_no⟩ (fa_cons ⟨1, by decide, ct_X7_within⟩ (fa_cons ⟨2, by decide, ct_X7_isBottle⟩ (fa_cons ⟨2, by decide, ct_X7_isShelf⟩ (fa_cons ⟨4, by decide, ct_X7_passes⟩ (fa_cons ⟨1, by decide, ct_X7_toldAt⟩ (fa_cons ⟨3, by decide, ct_X7_noTold⟩ (fa_cons ⟨1, by decide, ct_X7_keep⟩ (fa_cons ⟨1, by decide, ct_X7_again⟩ fa_nil))))))))) (Nat.le_of_ble_eq_true rfl) (rfl : narrow .int (.int x) = .int x) hn
theorem iX7_days {as : List AV} {c : CallR} (h : wX7_days as = some c) : (∃ (a0 : Nat) (a1 : Int32), as = [aR 7 a0, aI a1] ∧ c = cRI (fX7_days a0 a1)) := by
  unfold wX7_days at h
  split at h
  · exact ⟨_, _, rfl, (Option.some.inj h).symm⟩
  · cases h
theorem ct_X7_days {l : Launch} {D : va_G} {cA : Nat → ClassId} {ov : Value} {aR0 : Nat → Nat → Nat} {B nS : Nat} {xs : Nat → Int32} {q : Nat} : Ctr l D cA ov aR0 B nS xs q 6 228 := by
  intro as c h
  have h : wX7_days as = some c := h
  rcases iX7_days h with ⟨a0, a1, rfl, rfl⟩
  · refine ⟨⟨rfl, fun _ => ⟨_, _, rfl⟩⟩, fun m v m' ha => ?_⟩
    obtain ⟨x, hx, rfl⟩ := ha
    rw [fX7_days_eq] at hx
    obtain ⟨n, hn⟩ := pfX7_days q (csF_m q) a0 a1 m (x, m') _ hx ⟨0, rfl⟩
    exact ctr_mk (t := tX7_days) (cl := [138, 139, 186]) (by decide) (tabOK_mk okX7_days (by decide +kernel)) (by decide +kernel) (by decide) (fa_cons ⟨1, by decide, ct_X7_no⟩ (fa_cons ⟨1, by decide, ct_X7_within⟩ (fa_cons ⟨5, by decide, ct_X7_goesOn⟩ fa_nil))) (Nat.le_of_ble_eq_true rfl) (rfl : narrow .int (.int x) = .int x) hn
theorem iX7_draw {as : List AV} {c : CallR} (h : wX7_draw as = some c) : (∃ (a0 : Nat) (a1 : Int32), as = [aR 7 a0, aI a1] ∧ c = cRI (fX7_draw a0 a1)) := by
  unfold wX7_draw at h
  split at h
  · exact ⟨_, _, rfl, (Option.some.inj h).symm⟩
  · cases h
theorem ct_X7_draw {l : Launch} {D : va_G} {cA : Nat → ClassId} {ov : Value} {aR0 : Nat → Nat → Nat} {B nS : Nat} {xs : Nat → Int32} {q : Nat} : Ctr l D cA ov aR0 B nS xs q 1 229 := by
  intro as c h
  have h : wX7_draw as = some c := h
  rcases iX7_draw h with ⟨a0, a1, rfl, rfl⟩
  · refine ⟨⟨rfl, fun _ => ⟨_, _, rfl⟩⟩, fun m v m' ha => ?_⟩
    obtain ⟨x, hx, rfl⟩ := ha
    rw [fX7_draw_eq] at hx
    obtain ⟨n, hn⟩ := pfX7_draw q (csF_m q) a0 a1 m (x, m') _ hx ⟨0, rfl⟩
    exact ctr_mk (t := tX7_draw) (cl := []) (by decide) (tabOK_mk okX7_draw (by decide +kernel)) (by decide +kernel) (by decide) fa_nil (Nat.le_of_ble_eq_true rfl) (rfl : narrow .int (.int x) = .int x) hn
theorem iX7_drawn {as : List AV} {c : CallR} (h : wX7_drawn as = some c) : (∃ (a0 : Nat) (a1 : Int32), as = [aR 7 a0, aI a1] ∧ c = cRI (fX7_drawn a0 a1)) := by
  unfold wX7_drawn at h
  split at h
  · exact ⟨_, _, rfl, (Option.some.inj h).symm⟩
  · cases h
theorem ct_X7_drawn {l : Launch} {D : va_G} {cA : Nat → ClassId} {ov : Value} {aR0 : Nat → Nat → Nat} {B nS : Nat} {xs : Nat → Int32} {q : Nat} : Ctr l D cA ov aR0 B nS xs q 5 230 := by
  intro as c h
  have h : wX7_drawn as = some c := h
  rcases iX7_drawn h with ⟨a0, a1, rfl, rfl⟩
  · refine ⟨⟨rfl, fun _ => ⟨_, _, rfl⟩⟩, fun m v m' ha => ?_⟩
    obtain ⟨x, hx, rfl⟩ := ha
    rw [fX7_drawn_eq] at hx
    obtain ⟨n, hn⟩ := pfX7_drawn q (csF_m q) a0 a1 m (x, m') _ hx ⟨0, rfl⟩
    exact ctr_mk (t := tX7_drawn) (cl := [138, 139, 163, 185, 229]) (by decide) (tabOK_mk okX7_drawn (by decide +kernel)) (by decide +kernel) (by decide) (fa_cons ⟨1, by decide, ct_X7_no⟩ (fa_cons ⟨1, by decide, ct_X7_within⟩ (fa_cons ⟨1, by decide, ct_X7_becomes⟩ (fa_cons ⟨4, by decide, ct_X7_passes⟩ (fa_cons ⟨1, by decide, ct_X7_draw⟩ fa_nil))))) (Nat.le_of_ble_eq_true rfl) (rfl : narrow .int (.int x) = .int x) hn
theorem iX7_seed {as : List AV} {c : CallR} (h : wX7_seed as = some c) : (∃ (a0 : Nat) (a1 : Int32), as = [aR 7 a0, aI a1] ∧ c = cRI (fX7_seed a0 a1)) := by
  unfold wX7_seed at h
  split at h
  · exact ⟨_, _, rfl, (Option.some.inj h).symm⟩
  · cases h
theorem ct_X7_seed {l : Launch} {D : va_G} {cA : Nat → ClassId} {ov : Value} {aR0 : Nat → Nat → Nat} {B nS : Nat} {xs : Nat → Int32} {q : Nat} : Ctr l D cA ov aR0 B nS xs q 1 231 := by
  intro as c h
  have h : wX7_seed as = some c := h
  rcases iX7_seed h with ⟨a0, a1, rfl, rfl⟩
  · refine ⟨⟨rfl, fun _ => ⟨_, _, rfl⟩⟩, fun m v m' ha => ?_⟩
    obtain ⟨x, hx, rfl⟩ := ha
    rw [fX7_seed_eq] at hx
    obtain ⟨n, hn⟩ := pfX7_seed q (csF_m q) a0 a1 m (x, m') _ hx ⟨0, rfl⟩
    exact ctr_mk (t := tX7_seed) (cl := []) (by decide) (tabOK_mk okX7_seed (by decide +kernel)) (by decide +kernel) (by decide) fa_nil (Nat.le_of_ble_eq_true rfl) (rfl : narrow .int (.int x) = .int x) hn
theorem iX7_image {as : List AV} {c : CallR} (h : wX7_image as = some c) : (∃ (a0 : Nat), as = [aR 7 a0] ∧ c = cRI (fX7_image a0)) := by
  unfold wX7_image at h
  split at h
  · exact ⟨_, rfl, (Option.some.inj h).symm⟩
  · cases h
theorem ct_X7_image {l : Launch} {D : va_G} {cA : Nat → ClassId} {ov : Value} {aR0 : Nat → Nat → Nat} {B nS : Nat} {xs : Nat → Int32} {q : Nat} : Ctr l D cA ov aR0 B nS xs q 2 234 := by
  intro as c h
  have h : wX7_image as = some c := h
  rcases iX7_image h with ⟨a0, rfl, rfl⟩
  · refine ⟨⟨rfl, fun _ => ⟨_, _, rfl⟩⟩, fun m v m' ha => ?_⟩
    obtain ⟨x, hx, rfl⟩ := ha
    rw [fX7_image_eq] at hx
    obtain ⟨n, hn⟩ := pfX7_image q (csF_m q) a0 m (x, m') _ hx ⟨0, rfl⟩
    exact ctr_mk (t := tX7_image) (cl := [232]) (by decide) (tabOK_mk okX7_image (by decide +kernel)) (by decide +kernel) (by decide) (fa_cons ⟨1, by decide, ct_X7_keep⟩ fa_nil) (Nat.le_of_ble_eq_true rfl) (rfl : narrow .int (.int x) = .int x) hn
theorem iX7_back {as : List AV} {c : CallR} (h : wX7_back as = some c) : (∃ (a0 : Nat), as = [aR 7 a0] ∧ c = cRI (fX7_back a0)) := by
  unfold wX7_back at h
  split at h
  · exact ⟨_, rfl, (Option.some.inj h).symm⟩
  · cases h
theorem ct_X7_back {l : Launch} {D : va_G} {cA : Nat → ClassId} {ov : Value} {aR0 : Nat → Nat → Nat} {B nS : Nat} {xs : Nat → Int32} {q : Nat} : Ctr l D cA ov aR0 B nS xs q 2 235 := by
  intro as c h
  have h : wX7_back as = some c := h
  rcases iX7_back h with ⟨a0, rfl, rfl⟩
  · refine ⟨⟨rfl, fun _ => ⟨_, _, rfl⟩⟩, fun m v m' ha => ?_⟩
    obtain ⟨x, hx, rfl⟩ := ha
    rw [fX7_back_eq] at hx
    obtain ⟨n, hn⟩ := pfX7_back q (csF_m q) a0 m (x, m') _ hx ⟨0, rfl⟩
    exact ctr_mk (t := tX7_back) (cl := [138, 233]) (by decide) (tabOK_mk okX7_back (by decide +kernel)) (by decide +kernel) (by decide) (fa_cons ⟨1, by decide, ct_X7_no⟩ (fa_cons ⟨1, by decide, ct_X7_again⟩ fa_nil)) (Nat.le_of_ble_eq_true rfl) (rfl : narrow .int (.int x) = .int x) hn
theorem iX7_status {as : List AV} {c : CallR} (h : wX7_status as = some c) : (∃ (a0 : Nat) (a1 : Int32), as = [aR 7 a0, aI a1] ∧ c = cRI (fX7_status a0 a1)) := by
  unfold wX7_status at h
  split at h
  · exact ⟨_, _, rfl, (Option.some.inj h).symm⟩
  · cases h
theorem ct_X7_status {l : Launch} {D : va_G} {cA : Nat → ClassId} {ov : Value} {aR0 : Nat → Nat → Nat} {B nS : Nat} {xs : Nat → Int32} {q : Nat} : Ctr l D cA ov aR0 B nS xs q 2 236 := by
  intro as c h
  have h : wX7_status as = some c := h
  rcases iX7_status h with ⟨a0, a1, rfl, rfl⟩
  · refine ⟨⟨rfl, fun _ => ⟨_, _, rfl⟩⟩, fun m v m' ha => ?_⟩
    obtain ⟨x, hx, rfl⟩ := ha
    rw [fX7_status_eq] at hx
    obtain ⟨n, hn⟩ := pfX7_status q (csF_m q) a0 a1 m (x, m') _ hx ⟨0, rfl⟩
    exact ctr_mk (t := tX7_status) (cl := [139, 212, 237]) (by decide) (tabOK_mk okX7_status (by decide +kernel)) (by decide +kernel) (by decide) (fa_cons ⟨1, by decide, ct_X7_within⟩ (fa_cons ⟨1, by decide, ct_X7_areSo⟩ (fa_cons ⟨1, by decide, ct_J6_bitCount_0f7a4⟩ fa_nil))) (Nat.le_of_ble_eq_true rfl) (rfl : narrow .int (.int x) = .int x) hn
