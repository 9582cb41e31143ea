/-! PURE: pairs, the model's tries, a node -/
/-- the children tried so far -/
def ChQ (A : Nat → Nat → Bool) (V : Nat → Nat → Nat) (nb i : Nat) (mask : Int32) (b : Int) (w : Nat) (m m' : MM) : Prop :=
  match chR (okm A i mask) (scR A V (7 - i) mask) w with
  | none => Sm m m'
  | some x => Bst A V nb i b x.1 (nI x.2) (orK mask x.2) m m m'
theorem ChQ.skip {A : Nat → Nat → Bool} {V : Nat → Nat → Nat} {nb i w : Nat} {mask : Int32} {b : Int} {m m' : MM} (h : ChQ A V nb i mask b w m m') (hw : okm A i mask w = false) : ChQ A V nb i mask b (w + 1) m m' := by
  unfold ChQ
  have e : chR (okm A i mask) (scR A V (7 - i) mask) (w + 1) = chR (okm A i mask) (scR A V (7 - i) mask) w := by
    show (if okm A i mask w = true then _ else chR (okm A i mask) (scR A V (7 - i) mask) w) = _
    rw [hw, if_neg (by decide)]
  rw [e]; exact h
theorem ChQ.take {A : Nat → Nat → Bool} {V : Nat → Nat → Nat} {nb i w : Nat} {mask : Int32} {b : Int} {m m' m2 : MM} (h : ChQ A V nb i mask b w m m') (hw : okm A i mask w = true) (g : Bst A V nb i b (scR A V (7 - i) mask w) (nI w) (orK mask w) m m' m2) : ChQ A V nb i mask b (w + 1) m m2 := by
  unfold ChQ at h ⊢
  have e : chR (okm A i mask) (scR A V (7 - i) mask) (w + 1) = (match chR (okm A i mask) (scR A V (7 - i) mask) w with | none => some (scR A V (7 - i) mask w, w) | some x => if x.1 < scR A V (7 - i) mask w then some (scR A V (7 - i) mask w, w) else some x) := by
    show (if okm A i mask w = true then _ else chR (okm A i mask) (scR A V (7 - i) mask) w) = _
    rw [if_pos hw]
    cases chR (okm A i mask) (scR A V (7 - i) mask) w <;> rfl
  rw [e]
  cases q : chR (okm A i mask) (scR A V (7 - i) mask) w with
  | none => rw [q] at h; exact Bst.first h g
  | some x =>
    rw [q] at h
    have h : Bst A V nb i b x.1 (nI x.2) (orK mask x.2) m m m' := h
    have k := Bst.next h g
    dsimp only
    by_cases c : x.1 < scR A V (7 - i) mask w
    · rw [if_pos c]; exact k.1 c
    · rw [if_neg c]; exact k.2 c
theorem ChQ.last {A : Nat → Nat → Bool} {V : Nat → Nat → Nat} {nb nw i : Nat} {mask : Int32} {b : Int} {m m' m2 : MM} (hi : i < 8) (h6 : nw ≤ 6) (hA : ∀ i w, nw ≤ w → A i w = false) (h : ChQ A V nb i mask b nw m m') (g : Bst A V nb i b (bfR A V (7 - i) mask) (-1) mask m m' m2) : TQ A V nb i mask b m m2 := by
  refine TQ.of hi ?_
  unfold ndR
  have e7 : 7 - (7 - i) = i := by omega
  rw [e7]
  have e := chR_ext (n := nw) (okm A i mask) (scR A V (7 - i) mask) (6 - nw) (fun w hw => by unfold okm; rw [hA _ _ hw]; rfl)
  rw [show nw + (6 - nw) = 6 by omega] at e
  rw [e]
  unfold ChQ at h
  cases q : chR (okm A i mask) (scR A V (7 - i) mask) nw with
  | none =>
    rw [q] at h
    show Bst A V nb i b (bfR A V (7 - i) mask) (-1) (nxt mask (-1)) m m m2
    unfold nxt; rw [if_pos rfl]
    exact Bst.first h g
  | some x =>
    rw [q] at h
    have h : Bst A V nb i b x.1 (nI x.2) (orK mask x.2) m m m' := h
    have k := Bst.next h g
    have sp := chR_spec (okm A i mask) (scR A V (7 - i) mask) nw
    rw [q] at sp
    have hx : x.2 < nw := sp.1
    show Bst A V nb i b (if x.1 < bfR A V (7 - i) mask then (bfR A V (7 - i) mask, -1) else (x.1, nI x.2) : Nat × Int32).1 (if x.1 < bfR A V (7 - i) mask then (bfR A V (7 - i) mask, -1) else (x.1, nI x.2) : Nat × Int32).2 (nxt mask (if x.1 < bfR A V (7 - i) mask then (bfR A V (7 - i) mask, -1) else (x.1, nI x.2) : Nat × Int32).2) m m m2
    by_cases c : x.1 < bfR A V (7 - i) mask
    · rw [if_pos c]
      dsimp only
      unfold nxt; rw [if_pos rfl]; exact k.1 c
    · rw [if_neg c]
      dsimp only
      unfold nxt; rw [if_neg (n_nm1 (by omega))]; exact k.2 c
theorem Dtr_mono {i : Nat} {m m' : MM} (f : FrP (Dtr (i + 1)) m m') : FrP (Dtr i) m m' := f.mono (by unfold Dtr; omega)
/-- the tries from a bottle on -/
theorem tries_ok {v : Nat → Int32} {nb nw n : Nat} (h8 : nb ≤ 8) (h6 : nw ≤ 6) (hn : n < 61) (dd : Nat) : ∀ (N i c d : Nat) (mask : Int32) (m : MM), i + dd = nb → dd < N → inB mask 64 = true → c ≤ i → d ≤ 60 * c → Stc v nb nw m → Rok m →
    Ok (fX7_tries_n N 0 (nI i) mask (nI c) (nI d) (nI n) m) (fun _ m' => TQ (Am v nb nw n) (Vm v nb nw n) nb i mask (1000 * (c : Int) - d) m m' ∧ Rok m' ∧ FrP (Dtr i) m m') := by
  have hA : ∀ i w, nb ≤ i → Am v nb nw n i w = false := fun i w h => by unfold Am mtg; rw [if_neg (by omega)]; decide
  have hAw : ∀ i w, nw ≤ w → Am v nb nw n i w = false := fun i w h => by unfold Am mtg; rw [if_neg (by omega)]; decide
  induction dd with
  | zero =>
    intro N i c d mask m e hN hm hc hd hS hR
    obtain ⟨N, rfl⟩ : ∃ k, N = k + 1 := ⟨N - 1, by omega⟩
    obtain rfl : i = nb := by omega
    show Ok (fX7_tries_s (fX7_tries_n N) 0 (nI i) mask (nI c) (nI d) (nI n) m) _
    exact leaf7 h8 hA hc hd hS hR
  | succ dd ih =>
    intro N i c d mask m e hN hm hc hd hS hR
    obtain ⟨N, rfl⟩ : ∃ k, N = k + 1 := ⟨N - 1, by omega⟩
    show Ok (fX7_tries_s (fX7_tries_n N) 0 (nI i) mask (nI c) (nI d) (nI n) m) _
    unfold fX7_tries_s
    rw [hS.1, if_pos (by rw [n_inj (by omega) (by omega)]; omega)]
    have hi : i < 8 := by omega
    have e7 : 7 - (7 - i) = i := by omega
    refine Ok.bind (Ok.fold (f := fX7_tries_b79 (fX7_tries_n N) 0 (nI i) mask (nI c) (nI d) (nI n)) nw (fun w => nI w) () (fun w m' => FrP (Dtr i) m m' ∧ Rok m' ∧ ChQ (Am v nb nw n) (Vm v nb nw n) nb i mask (1000 * (c : Int) - d) w m m') ?_ ?_ (by omega) m ⟨FrP.rfl, hR, ⟨rfl, rfl, fun _ => rfl⟩⟩) ?_
    · intro w m' hw ⟨f, r, q⟩
      have hS' := hS.fr f
      unfold fX7_tries_b79
      have e6 : (6 : Int32) * nI i + nI w = nI (6 * i + w) := by rw [show (6 : Int32) = nI 6 from rfl, ← n_mul, ← n_add]
      rw [hS'.2.1, if_neg (by rw [n_le (by omega) (by omega)]; omega), e6, inB_t (show 6 * i + w < 48 by omega) (by omega), cond_true, n_cl (show 6 * i + w < 2147483648 by omega), hS'.2.2 i w (by omega) hw]
      have em : mtg v nb nw n i w = met v i w n := by unfold mtg; rw [if_pos ⟨by omega, hw⟩]
      obtain ⟨k1, k2, k3⟩ := met_cut v i w hn
      have skip : okm (Am v nb nw n) i mask w = false → Ok (some (Sum.inl (nI w + 1), m')) (fun (o : Int32 ⊕ Unit) m2 => o = Sum.inl (nI (w + 1)) ∧ FrP (Dtr i) m m2 ∧ Rok m2 ∧ ChQ (Am v nb nw n) (Vm v nb nw n) nb i mask (1000 * (c : Int) - d) (w + 1) m m2) := fun h => Ok.ret ⟨by rw [n_s], f, r, q.skip h⟩
      cases b : bt mask w
      · rw [if_neg (by rw [bt_shr1 mask (show w < 32 by omega), b]; decide)]
        by_cases q1 : met v i w 60 = -1
        · rw [if_pos q1]
          exact skip (by unfold okm Am; rw [em, k1 q1]; rfl)
        · rw [if_neg q1]
          by_cases q2 : met v i w 60 ≤ nI n
          · rw [if_pos q2, inB_t hi (by omega), cond_true, n_cl (show i < 2147483648 by omega), ← n_s, ← n_s]
            have e2 := k2 q1 q2
            have hin := mtg_in v nb nw hn i w
            rw [em, e2] at hin
            rcases hin with hin | hin
            · exact absurd hin q1
            obtain ⟨v1, v2⟩ := inB_ex hin
            have eV : Vm v nb nw n i w = (met v i w 60).toNatClampNeg := by unfold Vm; rw [em, e2]
            have hok : okm (Am v nb nw n) i mask w = true := by unfold okm Am; rw [em, e2, decide_eq_true q1, b]; rfl
            rw [← eV] at v1 v2
            rw [v2, ← n_add]
            have eo : mask ||| 1 <<< (nI w &&& 31) = orK mask w := rfl
            rw [eo]
            have f1 : FrP (Dtr i) m (upI m'.1 66 0 i (nI w), m'.2) := FrP.up (m' := m') f (by unfold Dtr; omega) _
            have r1 : Rok (upI m'.1 66 0 i (nI w), m'.2) := by
              unfold Rok; dsimp only; rw [upI_nn (by omega), upI_nn (by omega)]; exact r
            refine (ih N (i + 1) (c + 1) (d + Vm v nb nw n i w) (orK mask w) _ (by omega) (by omega) (orK_in hm (by omega)) (by omega) (by omega) (hS.fr f1) r1).bind ?_
            intro _ m2 ⟨t1, t2, t3⟩
            have g := Bst.child (s := scR (Am v nb nw n) (Vm v nb nw n) (7 - i) mask w) (b := 1000 * (c : Int) - d) f t1 (by
              unfold scR
              rw [e7, show 8 - (i + 1) = 7 - i by omega]
              omega)
            exact Ok.ret ⟨by rw [n_s], f1.trans (Dtr_mono t3), t2, q.take hok g⟩
          · rw [if_neg q2]
            exact skip (by unfold okm Am; rw [em, k3 q1 q2]; rfl)
      · rw [if_pos ((bt_shr1 mask (show w < 32 by omega)).mpr b)]
        exact skip (by unfold okm; rw [b]; cases Am v nb nw n i w <;> rfl)
    · intro m' ⟨f, _, _⟩
      unfold fX7_tries_b79
      rw [(hS.fr f).2.1, if_pos (by rw [n_le (by omega) (by omega)]; omega)]
    · intro _ m' ⟨_, f, r, q⟩
      dsimp only
      rw [inB_t hi (by omega), cond_true, n_cl (show i < 2147483648 by omega), ← n_s]
      have f1 : FrP (Dtr i) m (upI m'.1 66 0 i (-1), m'.2) := FrP.up (m' := m') f (by unfold Dtr; omega) _
      have r1 : Rok (upI m'.1 66 0 i (-1), m'.2) := by
        unfold Rok; dsimp only; rw [upI_nn (by omega), upI_nn (by omega)]; exact r
      refine (ih N (i + 1) c d mask _ (by omega) (by omega) hm (by omega) hd (hS.fr f1) r1).bind ?_
      intro _ m2 ⟨t1, t2, t3⟩
      have g := Bst.child (s := bfR (Am v nb nw n) (Vm v nb nw n) (7 - i) mask) (b := 1000 * (c : Int) - d) f t1 (by rw [show 8 - (i + 1) = 7 - i by omega])
      exact Ok.ret ⟨q.last hi h6 hAw g, t2, f1.trans (Dtr_mono t3)⟩
