/-! ONE INSTRUCTION, the heap, further: stores, rows, statics, switches, Math, copies -/
section HST2
variable {p : Program} {l : Launch} {e : Env} {R : Room} {s : State} {m : MethodId} {args : Array Value} {below : List Frame} {meth : Method} {c : Code} {Q : State → Prop}
variable {D : va_G} {cA : Nat → ClassId} {ov : Value} {aR0 : Nat → Nat → Nat} {B nS : Nat} {xs : Nat → Int32} {cc : ByteArray} {nL own a0 b0 : Nat}
variable {al : Bool} {cs : CS} {pc : Nat} {L : LV} {S : List AV} {M : Mem} {k : Nat → LV → List AV → Mem → Option Out} {out : Out}
variable {dir : List (Nat × Nat)} {ad : Nat → Nat → Nat} {H : Heap} {locs : List Loc} {ls : Array Slot} {len a b d : Nat} {v : Int32} {w : Int64} {brs : List (Int32 × Nat)}

theorem fV_upI_ne {ad : Nat → Nat → Nat} {M : Mem} {c i k j : Nat} {x : Int32} (h : j ≠ k) : fV ad (M.1, (upI M.2.1 c i k x, M.2.2)) c i j = fV ad M c i j := by
  have e : upI M.2.1 c i k x c i j = M.2.1 c i j := by rw [upI_eq]; exact if_neg h
  unfold fV
  show (if sk c j = 4 then _ else Value.int (upI M.2.1 c i k x c i j)) = _
  rw [e]
theorem fV_upI_eq {ad : Nat → Nat → Nat} {M : Mem} {c i k : Nat} {x : Int32} (h : ¬ sk c k = 4) : fV ad (M.1, (upI M.2.1 c i k x, M.2.2)) c i k = .int x := by
  have e : upI M.2.1 c i k x c i k = x := by rw [upI_eq]; exact if_pos rfl
  unfold fV
  rw [if_neg h]
  show Value.int (upI M.2.1 c i k x c i k) = _
  rw [e]
theorem fV_upR_ne {ad : Nat → Nat → Nat} {M : Mem} {c i k j : Nat} {x : Option (Nat × Nat)} (h : j ≠ k) : fV ad ((M.1.1, M.1.2.1, upR M.1.2.2.1 c i k x, M.1.2.2.2.1, M.1.2.2.2.2), M.2) c i j = fV ad M c i j := by
  have e : upR M.1.2.2.1 c i k x c i j = M.1.2.2.1 c i j := if_neg (fun q => h q.2.2)
  unfold fV
  show (if sk c j = 4 then va_rf ((upR M.1.2.2.1 c i k x c i j).map (adq ad)) else Value.int (M.2.1 c i j)) = _
  rw [e]
theorem fV_upR_eq {ad : Nat → Nat → Nat} {M : Mem} {c i k : Nat} {x : Option (Nat × Nat)} (h : sk c k = 4) : fV ad ((M.1.1, M.1.2.1, upR M.1.2.2.1 c i k x, M.1.2.2.2.1, M.1.2.2.2.2), M.2) c i k = va_rf (x.map (adq ad)) := by
  have e : upR M.1.2.2.1 c i k x c i k = x := if_pos ⟨rfl, rfl, rfl⟩
  unfold fV
  rw [if_pos h]
  show va_rf ((upR M.1.2.2.1 c i k x c i k).map (adq ad)) = _
  rw [e]
theorem upR_ne {mr : Nat → Nat → Nat → Option (Nat × Nat)} {c i k : Nat} {x : Option (Nat × Nat)} {q : Nat × Nat} (h : q ≠ (c, i)) : upR mr c i k x q.1 q.2 = mr q.1 q.2 := by
  funext k'
  unfold upR
  rw [if_neg (fun e => h (Prod.ext e.1 e.2.1))]
theorem narrow_bool {x : Int32} (h : x = 0 ∨ x = 1) : narrow .boolean (.int x) = .int x ∧ fits .boolean (.int x) = true := by
  rcases h with rfl | rfl <;> exact ⟨by decide +kernel, by decide +kernel⟩

theorem ROm.wrR {nS : Nat} {xs : Nat → Int32} {M : Mem} (h : ROm nS xs M) {c i k : Nat} {x : Option (Nat × Nat)} (hc : c < 30 ∨ 40 ≤ c) (cn' : Nat → Nat) (a1 a2 : Nat) : ROm nS xs ((cn', M.1.2.1, upR M.1.2.2.1 c i k x, a1, a2), M.2) := by
  obtain ⟨h1, h2, h3, h4, h5⟩ := h
  refine ⟨fun j hj => ⟨(h1 j hj).1, (h1 j hj).2.1, (h1 j hj).2.2.1, ?_⟩, h2, h3, h4, h5⟩
  show upR M.1.2.2.1 c i k x 31 j 0 = _
  have e : upR M.1.2.2.1 c i k x 31 j = M.1.2.2.1 31 j := upR_ne (q := (31, j)) (fun z => by cases z; omega)
  rw [e]
  exact (h1 j hj).2.2.2

set_option maxHeartbeats 1000000 in
theorem s_putfield {z : Nat} (hinit : al = true → own < 8 → meth.name = "<init>") (C : Cx p s m args c cc nL own D cA ov aR0 B nS xs) (I : Inv s nL D cA ov aR0 B nS xs a0 b0 dir ad M H locs ls L S) (K : KK p l e R s m args below meth c Q nL D cA ov aR0 B nS xs a0 b0 dir ad al M k out)
    (hok : okF own nL cc pc (.putfield z, len, (a, b, d), v, w, brs) = true) (h : astep al cs (.putfield z, len, (a, b, d), v, w, brs) pc L S M k = some out) : W p l e R s m args below meth c H locs (M.1.2.2.2.1 - a0) (M.1.2.2.2.2 - b0) Q (F0 m pc ls (S.map (cv ad ov))) := by
  obtain ⟨hx, hb, hml, hown, hts, hSF, hB⟩ := C
  obtain ⟨hR, hRO, hS, hL, hvS, hvL, hro, hac, has⟩ := I
  obtain ⟨h1, h2, ⟨h3, h4, h5, h6⟩, h7, h8, h9, h10, h11, h12, h13, ho⟩ := hSF
  simp only [okF, nOK, okE, okD, Bool.and_eq_true, Bool.or_eq_true, decide_eq_true_eq, Nat.beq_eq] at hok
  obtain ⟨hown4, ⟨hd, rfl⟩, hf⟩ := hok
  obtain ⟨ha, hb2, hw⟩ := flE_of hf
  have hfk := fk_of ha hb2
  have int : ∀ {x : Int32} {ii : Nat} {S : List AV} {ty : FieldType}, ¬ sk a b = 4 → (∀ v ∈ aI x :: aR a ii :: S, vok dir v) → tyT a b = ty → (TT a b).2.2.2 = false → narrow ty (.int x) = .int x → fits ty (.int x) = true → k (pc + 3) L S (M.1, (upI M.2.1 a ii b x, M.2.2)) = some out → W p l e R s m args below meth c H locs (M.1.2.2.2.1 - a0) (M.1.2.2.2.2 - b0) Q (F0 m pc ls ((aI x :: aR a ii :: S).map (cv ad ov))) := by
    intro x ii S ty hs hvS hty hfin hn hfit h
    have hm : (a, ii) ∈ dir := hR.ro (vH1 (vT1 hvS)) (by simp [isW, ha])
    obtain ⟨q0, hq0, he⟩ := wl_at (cA := cA) (ad := ad) (m := M) hm
    rw [ent_obj ha] at he
    have hcv : cv ad ov (.inr (some (a, ii))) = .ref (ad a ii) := cv_ne (by omega)
    show W p l e R s m args below meth c H locs _ _ Q (F0 m pc ls (Value.int x :: cv ad ov (.inr (some (a, ii))) :: S.map (cv ad ov)))
    rw [hcv]
    refine va_put (D := D) (ci := a) (v := .int x) (ty := ty) (C := cn a) (T := TT a) (N := NF a) hx hb hts (uws_in ha) (tyT a) (tyT_ok ha) (nmT_ok ha) hown h1 hR.1 hR.2.1 hS q0 he (vw_at ha) b hb2 (hts _ hw) (fun _ h9 => h9) hfin (by rw [tyT_ok ha b hb2, hty]) hn hfit (by rw [fsL_len]; exact hb2) hd (fun H1 locs1 hP1 hD1 hS1 => ?_)
    refine K _ _ _ _ h (Rel.of rfl) dir ad H1 locs1 ls Ext.rf ⟨hR.put hq0 hP1 hD1 ?_ (fun q _ hq => ent_congr (upI_ne hq) rfl rfl rfl) rfl hR.2.2.2.2.2, hRO.wr (Or.inl (by omega)) _, hS1, hL, vT1 (vT1 hvS), hvL, hro, hac, has⟩
    rw [ent_obj ha, fsL_set (.int x) hb2 (fV_upI_eq hs) (fun j hj => fV_upI_ne hj)]
  have hs3 : (sk a b = 0 ∧ tyT a b = .int ∧ (TT a b).2.2.2 = false) ∨ (sk a b = 1 ∧ tyT a b = .boolean ∧ (TT a b).2.2.2 = false) ∨ (sk a b = 4 ∧ (TT a b).2.2.2 = true ∧ (TT a b).1 = cn a ∧ ∃ ty, tyT a b = ty ∧ ((∃ n, ty = .object n) ∨ ∃ t, ty = .array t)) := by
    unfold fkOK at hfk
    split at hfk
    · rename_i e
      simp only [Bool.and_eq_true, decide_eq_true_eq, Bool.not_eq_true'] at hfk
      exact Or.inl ⟨e, hfk.1, hfk.2⟩
    · rename_i e
      simp only [Bool.and_eq_true, decide_eq_true_eq, Bool.not_eq_true'] at hfk
      exact Or.inr (Or.inl ⟨e, hfk.1, hfk.2⟩)
    · rename_i e
      simp only [Bool.and_eq_true, decide_eq_true_eq] at hfk
      refine Or.inr (Or.inr ⟨e, hfk.1.1, hfk.1.2, _, rfl, ?_⟩)
      have h9 := hfk.2
      split at h9
      · rename_i n e9; exact Or.inl ⟨n, e9⟩
      · rename_i n e9; exact Or.inr ⟨n, e9⟩
      · cases h9
    · cases hfk
  rcases hs3 with ⟨hsk, hty, hfin⟩ | ⟨hsk, hty, hfin⟩ | ⟨hsk, hfin, hdc, ty, hty, htr⟩
  · rcases S with _ | ⟨(x | x) | x, _ | ⟨(y | y) | _ | ⟨ci, ii⟩, S⟩⟩ <;> try (simp [astep, hsk] at h; done)
    have g9 : (bif Nat.beq ci a then k (pc + 3) L S (M.1, (upI M.2.1 ci ii b x, M.2.2)) else none) = some out := by simp only [astep, hsk] at h; exact h
    cases hc : Nat.beq ci a with
    | false => rw [hc] at g9; exact ons g9
    | true =>
    rw [hc] at g9
    have hca : ci = a := Nat.eq_of_beq_eq_true hc
    subst hca
    exact int (by omega) hvS hty hfin rfl rfl g9
  · rcases S with _ | ⟨(x | x) | x, _ | ⟨(y | y) | _ | ⟨ci, ii⟩, S⟩⟩ <;> try (simp [astep, hsk] at h; done)
    have g9 : (bif Nat.beq ci a && (x == 0 || x == 1) then k (pc + 3) L S (M.1, (upI M.2.1 ci ii b x, M.2.2)) else none) = some out := by simp only [astep, hsk] at h; exact h
    cases hc : Nat.beq ci a && (x == 0 || x == 1) with
    | false => rw [hc] at g9; exact ons g9
    | true =>
    rw [hc] at g9
    simp only [Bool.and_eq_true, Bool.or_eq_true, beq_iff_eq, Nat.beq_eq] at hc
    obtain ⟨hca, hx01⟩ := hc
    subst hca
    exact int (by omega) hvS hty hfin (narrow_bool hx01).1 (narrow_bool hx01).2 g9
  · rcases S with _ | ⟨(x | x) | _ | q, _ | ⟨(y | y) | _ | ⟨ci, ii⟩, S⟩⟩ <;> try (simp [astep, hsk] at h; done)
    have g9 : (bif al && Nat.beq ci a && isW q.1 then k (pc + 3) L S ((M.1.1, M.1.2.1, upR M.1.2.2.1 ci ii b (some q), M.1.2.2.2.1, M.1.2.2.2.2), M.2) else none) = some out := by simp only [astep, hsk] at h; exact h
    cases hc : al && Nat.beq ci a && isW q.1 with
    | false => rw [hc] at g9; exact ons g9
    | true =>
    rw [hc] at g9
    simp only [Bool.and_eq_true, Nat.beq_eq] at hc
    obtain ⟨⟨hal, hca⟩, hqw⟩ := hc
    subst hca
    have hoa : own = ci := by
      rw [hsk] at hown4
      simpa using hown4
    have hm : (ci, ii) ∈ dir := hR.ro (vH1 (vT1 hvS)) (by simp [isW, ha])
    obtain ⟨q0, hq0, he⟩ := wl_at (cA := cA) (ad := ad) (m := M) hm
    rw [ent_obj ha] at he
    have hqd : q ∈ dir := hR.ro (vH1 hvS) hqw
    have hq34 := isW_cases hqw
    have hcv : cv ad ov (.inr (some (ci, ii))) = .ref (ad ci ii) := cv_ne (by omega)
    have hcq : cv ad ov (.inr (some q)) = .ref (ad q.1 q.2) := cv_ne (c := q.1) (i := q.2) (by omega)
    show W p l e R s m args below meth c H locs _ _ Q (F0 m pc ls (cv ad ov (.inr (some q)) :: cv ad ov (.inr (some (ci, ii))) :: S.map (cv ad ov)))
    rw [hcv, hcq]
    refine va_putF (D := D) (ci := ci) (v := .ref (ad q.1 q.2)) (ty := ty) (C := cn ci) (T := TT ci) (N := NF ci) hx hb hts (uws_in ha) (tyT ci) (tyT_ok ha) (nmT_ok ha) hown h1 hR.1 hR.2.1 hS q0 he (vw_at ha) b hb2 (hts _ hw) (fun _ h9 => h9) hfin (hinit hal (by omega)) (by rw [hoa]; exact hdc) (by rw [tyT_ok ha b hb2, hty]) (by rcases htr with ⟨n, rfl⟩ | ⟨n, rfl⟩ <;> rfl) (by rcases htr with ⟨n, rfl⟩ | ⟨n, rfl⟩ <;> rfl) (by rw [fsL_len]; exact hb2) hd (fun H1 locs1 hP1 hD1 hS1 => ?_)
    refine K _ _ _ _ g9 (Rel.mk2 hal (Nat.le_refl _) (Nat.le_refl _)) dir ad H1 locs1 ls Ext.rf ⟨hR.put hq0 hP1 hD1 ?_ (fun z _ hz => ent_congr rfl rfl (upR_ne hz) rfl) rfl ?_, hRO.wrR (Or.inl (by omega)) _ _ _, hS1, hL, vT1 (vT1 hvS), hvL, hro, hac, has⟩
    · rw [ent_obj ha, fsL_set (.ref (ad q.1 q.2)) hb2 (fV_upR_eq hsk) (fun j hj => fV_upR_ne hj)]
    · intro c9 i9 k9 z hz hb9 hz2
      have hz2 : upR M.1.2.2.1 ci ii b (some q) c9 i9 k9 = some z := hz2
      unfold upR at hz2
      split at hz2
      · rw [← Option.some.inj hz2]; exact hqd
      · exact hR.2.2.2.2.2 c9 i9 k9 z hz hb9 hz2

set_option maxHeartbeats 1000000 in
theorem s_iaload (C : Cx p s m args c cc nL own D cA ov aR0 B nS xs) (I : Inv s nL D cA ov aR0 B nS xs a0 b0 dir ad M H locs ls L S) (K : KK p l e R s m args below meth c Q nL D cA ov aR0 B nS xs a0 b0 dir ad al M k out)
    (hok : okF own nL cc pc (.iaload, len, (a, b, d), v, w, brs) = true) (h : astep al cs (.iaload, len, (a, b, d), v, w, brs) pc L S M k = some out) : W p l e R s m args below meth c H locs (M.1.2.2.2.1 - a0) (M.1.2.2.2.2 - b0) Q (F0 m pc ls (S.map (cv ad ov))) := by
  obtain ⟨hx, hb, hml, hown, hts, hSF, hB⟩ := C
  obtain ⟨hR, hRO, hS, hL, hvS, hvL, hro, hac, has⟩ := I
  obtain ⟨h1, h2, ⟨h3, h4, h5, h6⟩, h7, h8, h9, h10, h11, h12, h13, ho⟩ := hSF
  obtain ⟨hd, rfl⟩ : decode cc pc = .ok (.iaload, 1) ∧ len = 1 := by simpa [okF, nOK, okE, okD] using hok
  rcases S with _ | ⟨(j | j) | j, _ | ⟨(y | y) | _ | ⟨ci, ii⟩, S⟩⟩ <;> try exact ons h
  have h : (bif (isIA ci || Nat.beq ci 32 || Nat.beq ci 33) && inB j (M.1.2.1 ci ii) then k (pc + 1) L (aI (M.2.1 ci ii j.toNatClampNeg) :: S) M else none) = some out := h
  cases hc : (isIA ci || Nat.beq ci 32 || Nat.beq ci 33) && inB j (M.1.2.1 ci ii) with
  | false => rw [hc] at h; exact ons h
  | true =>
  rw [hc] at h
  simp only [Bool.and_eq_true, Bool.or_eq_true, Nat.beq_eq] at hc
  obtain ⟨hc, hj⟩ := hc
  have hv := vH1 (vT1 hvS)
  have kk := K _ _ _ _ h (Rel.of rfl) dir ad H locs ls Ext.rf ⟨hR, hRO, hS, hL, vS1 trivial (vT1 (vT1 hvS)), hvL, hro, hac, has⟩
  rcases hc with (hc | rfl) | rfl
  · have hm : (ci, ii) ∈ dir := hR.ro hv (by simp [isW, hc])
    obtain ⟨q0, hq0, he⟩ := wl_at (cA := cA) (ad := ad) (m := M) hm
    rw [ent_ia hc] at he
    have := isIA_ge hc
    have hcv : cv ad ov (.inr (some (ci, ii))) = .ref (ad ci ii) := cv_ne (by omega)
    show W p l e R s m args below meth c H locs _ _ Q (F0 m pc ls (Value.int j :: cv ad ov (.inr (some (ci, ii))) :: S.map (cv ad ov)))
    rw [hcv]
    exact va_iald hx hb h1 hR.1 q0 0 he rfl (inB_in hj) hd kk
  · have hr := hR.nro hv (by omega)
    have hi : ii = 0 := by rcases hr with hr | hr <;> (dsimp only at hr; omega)
    subst hi
    rw [hRO.2.1] at hj
    have hcv : cv ad ov (.inr (some (32, 0))) = .ref (aR0 32 0) := by rw [← hro 32 0 (by omega) (by omega)]; exact cv_ne (by decide)
    show W p l e R s m args below meth c H locs _ _ Q (F0 m pc ls (Value.int j :: cv ad ov (.inr (some (32, 0))) :: S.map (cv ad ov)))
    rw [hcv]
    exact va_ti hx hb h10 hS (inB_in hj) (by rw [← hRO.2.2.1]; rfl) hd kk
  · have hr := hR.nro hv (by omega)
    have hi : ii = 0 := by rcases hr with hr | hr <;> (dsimp only at hr; omega)
    subst hi
    rw [hRO.2.2.2.1] at hj
    have hcv : cv ad ov (.inr (some (33, 0))) = .ref (aR0 33 0) := by rw [← hro 33 0 (by omega) (by omega)]; exact cv_ne (by decide)
    show W p l e R s m args below meth c H locs _ _ Q (F0 m pc ls (Value.int j :: cv ad ov (.inr (some (33, 0))) :: S.map (cv ad ov)))
    rw [hcv]
    exact va_ti hx hb h11 hS (inB_in hj) (by rw [← hRO.2.2.2.2]; rfl) hd kk

set_option maxHeartbeats 1000000 in
theorem s_baload (C : Cx p s m args c cc nL own D cA ov aR0 B nS xs) (I : Inv s nL D cA ov aR0 B nS xs a0 b0 dir ad M H locs ls L S) (K : KK p l e R s m args below meth c Q nL D cA ov aR0 B nS xs a0 b0 dir ad al M k out)
    (hok : okF own nL cc pc (.baload, len, (a, b, d), v, w, brs) = true) (h : astep al cs (.baload, len, (a, b, d), v, w, brs) pc L S M k = some out) : W p l e R s m args below meth c H locs (M.1.2.2.2.1 - a0) (M.1.2.2.2.2 - b0) Q (F0 m pc ls (S.map (cv ad ov))) := by
  obtain ⟨hx, hb, hml, hown, hts, hSF, hB⟩ := C
  obtain ⟨hR, hRO, hS, hL, hvS, hvL, hro, hac, has⟩ := I
  obtain ⟨h1, h2, ⟨h3, h4, h5, h6⟩, h7, h8, h9, h10, h11, h12, h13, ho⟩ := hSF
  obtain ⟨hd, rfl⟩ : decode cc pc = .ok (.baload, 1) ∧ len = 1 := by simpa [okF, nOK, okE, okD] using hok
  rcases S with _ | ⟨(j | j) | j, _ | ⟨(y | y) | _ | ⟨ci, ii⟩, S⟩⟩ <;> try exact ons h
  have h : (bif Nat.beq ci 30 && inB j (M.1.2.1 ci ii) then k (pc + 1) L (aI (M.2.1 ci ii j.toNatClampNeg) :: S) M else none) = some out := h
  cases hc : Nat.beq ci 30 && inB j (M.1.2.1 ci ii) with
  | false => rw [hc] at h; exact ons h
  | true =>
  rw [hc] at h
  simp only [Bool.and_eq_true, Nat.beq_eq] at hc
  obtain ⟨rfl, hj⟩ := hc
  have hv := vH1 (vT1 hvS)
  have kk := K _ _ _ _ h (Rel.of rfl) dir ad H locs ls Ext.rf ⟨hR, hRO, hS, hL, vS1 trivial (vT1 (vT1 hvS)), hvL, hro, hac, has⟩
  have hr := hR.nro hv (by omega)
  have hi : ii < 12 := by rcases hr with hr | hr <;> (dsimp only at hr; omega)
  rw [(hRO.1 ii hi).1] at hj
  have hcv : cv ad ov (.inr (some (30, ii))) = .ref (aR0 30 ii) := by rw [← hro 30 ii (by omega) (by omega)]; exact cv_ne (by decide)
  show W p l e R s m args below meth c H locs _ _ Q (F0 m pc ls (Value.int j :: cv ad ov (.inr (some (30, ii))) :: S.map (cv ad ov)))
  rw [hcv]
  exact va_tb hx hb (h12 ii hi).2.2.2 hS (inB_in hj) (by rw [← (hRO.1 ii hi).2.1]; rfl) hd kk

set_option maxHeartbeats 1000000 in
theorem s_laload (C : Cx p s m args c cc nL own D cA ov aR0 B nS xs) (I : Inv s nL D cA ov aR0 B nS xs a0 b0 dir ad M H locs ls L S) (K : KK p l e R s m args below meth c Q nL D cA ov aR0 B nS xs a0 b0 dir ad al M k out)
    (hok : okF own nL cc pc (.laload, len, (a, b, d), v, w, brs) = true) (h : astep al cs (.laload, len, (a, b, d), v, w, brs) pc L S M k = some out) : W p l e R s m args below meth c H locs (M.1.2.2.2.1 - a0) (M.1.2.2.2.2 - b0) Q (F0 m pc ls (S.map (cv ad ov))) := by
  obtain ⟨hx, hb, hml, hown, hts, hSF, hB⟩ := C
  obtain ⟨hR, hRO, hS, hL, hvS, hvL, hro, hac, has⟩ := I
  obtain ⟨h1, h2, ⟨h3, h4, h5, h6⟩, h7, h8, h9, h10, h11, h12, h13, ho⟩ := hSF
  obtain ⟨hd, rfl⟩ : decode cc pc = .ok (.laload, 1) ∧ len = 1 := by simpa [okF, nOK, okE, okD] using hok
  rcases S with _ | ⟨(j | j) | j, _ | ⟨(y | y) | _ | ⟨ci, ii⟩, S⟩⟩ <;> try exact ons h
  have h : (bif isLA ci && inB j (M.1.2.1 ci ii) then k (pc + 1) L (aL (M.2.2 ci ii j.toNatClampNeg) :: S) M else none) = some out := h
  cases hc : isLA ci && inB j (M.1.2.1 ci ii) with
  | false => rw [hc] at h; exact ons h
  | true =>
  rw [hc] at h
  simp only [Bool.and_eq_true] at hc
  obtain ⟨hc, hj⟩ := hc
  have hv := vH1 (vT1 hvS)
  have kk := K _ _ _ _ h (Rel.of rfl) dir ad H locs ls Ext.rf ⟨hR, hRO, hS, hL, vS1 trivial (vT1 (vT1 hvS)), hvL, hro, hac, has⟩
  have hm : (ci, ii) ∈ dir := hR.ro hv (by simp [isW, hc])
  obtain ⟨q0, hq0, he⟩ := wl_at (cA := cA) (ad := ad) (m := M) hm
  rw [ent_la hc] at he
  have := isLA_ge hc
  have hcv : cv ad ov (.inr (some (ci, ii))) = .ref (ad ci ii) := cv_ne (by omega)
  show W p l e R s m args below meth c H locs _ _ Q (F0 m pc ls (Value.int j :: cv ad ov (.inr (some (ci, ii))) :: S.map (cv ad ov)))
  rw [hcv]
  exact va_lald hx hb h1 hR.1 q0 1 he rfl (inB_in hj) hd kk

theorem tysL_ra {cA : Nat → ClassId} {c : Nat} (h : isRA c = true) : ∃ ty, (tysL cA)[tyIx c]? = some (cA (tyIx c), ty) ∧ ty.isReference = true := by
  have h1 := isRA_ge h
  have h2 := isIA_no (c := c) (by omega)
  have h3 := isLA_no (c := c) (by omega)
  unfold tyIx
  rw [h2, h3]
  have : c = 22 ∨ c = 23 ∨ c = 24 ∨ c = 25 ∨ c = 26 := by omega
  rcases this with rfl | rfl | rfl | rfl | rfl <;> exact ⟨_, rfl, rfl⟩

set_option maxHeartbeats 1000000 in
theorem s_aaload (C : Cx p s m args c cc nL own D cA ov aR0 B nS xs) (I : Inv s nL D cA ov aR0 B nS xs a0 b0 dir ad M H locs ls L S) (K : KK p l e R s m args below meth c Q nL D cA ov aR0 B nS xs a0 b0 dir ad al M k out)
    (hok : okF own nL cc pc (.aaload, len, (a, b, d), v, w, brs) = true) (h : astep al cs (.aaload, len, (a, b, d), v, w, brs) pc L S M k = some out) : W p l e R s m args below meth c H locs (M.1.2.2.2.1 - a0) (M.1.2.2.2.2 - b0) Q (F0 m pc ls (S.map (cv ad ov))) := by
  obtain ⟨hx, hb, hml, hown, hts, hSF, hB⟩ := C
  obtain ⟨hR, hRO, hS, hL, hvS, hvL, hro, hac, has⟩ := I
  obtain ⟨h1, h2, ⟨h3, h4, h5, h6⟩, h7, h8, h9, h10, h11, h12, h13, ho⟩ := hSF
  obtain ⟨hd, rfl⟩ : decode cc pc = .ok (.aaload, 1) ∧ len = 1 := by simpa [okF, nOK, okE, okD] using hok
  rcases S with _ | ⟨(j | j) | j, _ | ⟨(y | y) | _ | ⟨ci, ii⟩, S⟩⟩ <;> try exact ons h
  have h : (bif isRA ci && inB j (M.1.2.1 ci ii) then k (pc + 1) L (.inr (M.1.2.2.1 ci ii j.toNatClampNeg) :: S) M else none) = some out := h
  cases hc : isRA ci && inB j (M.1.2.1 ci ii) with
  | false => rw [hc] at h; exact ons h
  | true =>
  rw [hc] at h
  simp only [Bool.and_eq_true] at hc
  obtain ⟨hc, hj⟩ := hc
  have hv := vH1 (vT1 hvS)
  have hm : (ci, ii) ∈ dir := hR.ro hv (by simp [isW, hc])
  have hin := inB_in hj
  have hlt : j.toNatClampNeg < M.1.2.1 ci ii := by
    have := vp_in_iff.mp hin
    show j.toInt.toNat < _
    omega
  have er := hR.cvr ov (k := j.toNatClampNeg) hm (Or.inr hlt)
  have kk := K _ _ _ _ h (Rel.of rfl) dir ad H locs ls Ext.rf ⟨hR, hRO, hS, hL, vS1 er.2 (vT1 (vT1 hvS)), hvL, hro, hac, has⟩
  obtain ⟨q0, hq0, he⟩ := wl_at (cA := cA) (ad := ad) (m := M) hm
  rw [ent_ra hc] at he
  have := isRA_ge hc
  have hcv : cv ad ov (.inr (some (ci, ii))) = .ref (ad ci ii) := cv_ne (by omega)
  show W p l e R s m args below meth c H locs _ _ Q (F0 m pc ls (Value.int j :: cv ad ov (.inr (some (ci, ii))) :: S.map (cv ad ov)))
  rw [hcv]
  have kk : W p l e R s m args below meth c H locs (M.1.2.2.2.1 - a0) (M.1.2.2.2.2 - b0) Q (F0 m (pc + 1) ls (va_rf ((M.1.2.2.1 ci ii j.toNatClampNeg).map (adq ad)) :: S.map (cv ad ov))) := by rw [er.1]; exact kk
  obtain ⟨ty, ht, hty⟩ := tysL_ra (cA := cA) hc
  exact W.aald (v := va_rf ((M.1.2.2.1 ci ii j.toNatClampNeg).map (adq ad))) (ty := ty) hx hb (hR.1 q0 _ he) ((h1.2 (tyIx ci) _ ht).1 (M.1.2.1 ci ii) (fun z => va_rf ((rfb M ci ii z).map (adq ad)))) hty (fun q => by cases q) (by show ¬ (j < 0 ∨ (arrV _ _ _).slots.size ≤ _); rw [arrV_size]; exact hin) (by show (arrV _ _ _).slots[_]? = _; rw [arrV_read _ _ hlt]; show some (va_rf ((rfb M ci ii j.toNatClampNeg).map (adq ad))) = _; rw [rfb_in hlt]) rfl rfl hd kk

set_option maxHeartbeats 1000000 in
theorem s_iastore (C : Cx p s m args c cc nL own D cA ov aR0 B nS xs) (I : Inv s nL D cA ov aR0 B nS xs a0 b0 dir ad M H locs ls L S) (K : KK p l e R s m args below meth c Q nL D cA ov aR0 B nS xs a0 b0 dir ad al M k out)
    (hok : okF own nL cc pc (.iastore, len, (a, b, d), v, w, brs) = true) (h : astep al cs (.iastore, len, (a, b, d), v, w, brs) pc L S M k = some out) : W p l e R s m args below meth c H locs (M.1.2.2.2.1 - a0) (M.1.2.2.2.2 - b0) Q (F0 m pc ls (S.map (cv ad ov))) := by
  obtain ⟨hx, hb, hml, hown, hts, hSF, hB⟩ := C
  obtain ⟨hR, hRO, hS, hL, hvS, hvL, hro, hac, has⟩ := I
  obtain ⟨h1, h2, ⟨h3, h4, h5, h6⟩, h7, h8, h9, h10, h11, h12, h13, ho⟩ := hSF
  obtain ⟨hd, rfl⟩ : decode cc pc = .ok (.iastore, 1) ∧ len = 1 := by simpa [okF, nOK, okE, okD] using hok
  rcases S with _ | ⟨(x | x) | x, _ | ⟨(j | j) | j, _ | ⟨(y | y) | _ | ⟨ci, ii⟩, S⟩⟩⟩ <;> try exact ons h
  have h : (bif isIA ci && inB j (M.1.2.1 ci ii) then k (pc + 1) L S (M.1, (upI M.2.1 ci ii j.toNatClampNeg x, M.2.2)) else none) = some out := h
  cases hc : isIA ci && inB j (M.1.2.1 ci ii) with
  | false => rw [hc] at h; exact ons h
  | true =>
  rw [hc] at h
  simp only [Bool.and_eq_true] at hc
  obtain ⟨hc, hj⟩ := hc
  have hv := vH1 (vT1 (vT1 hvS))
  have hm : (ci, ii) ∈ dir := hR.ro hv (by simp [isW, hc])
  obtain ⟨q0, hq0, he⟩ := wl_at (cA := cA) (ad := ad) (m := M) hm
  rw [ent_ia hc] at he
  have := isIA_ge hc
  have hcv : cv ad ov (.inr (some (ci, ii))) = .ref (ad ci ii) := cv_ne (by omega)
  show W p l e R s m args below meth c H locs _ _ Q (F0 m pc ls (Value.int x :: Value.int j :: cv ad ov (.inr (some (ci, ii))) :: S.map (cv ad ov)))
  rw [hcv]
  refine va_iast hx hb h1 hR.1 hR.2.1 hS q0 0 he rfl (inB_in hj) hd (fun H1 locs1 hP1 hD1 hS1 => ?_)
  refine K _ _ _ _ h (Rel.of rfl) dir ad H1 locs1 ls Ext.rf ⟨hR.put hq0 hP1 hD1 ?_ (fun q _ hq => ent_congr (upI_ne hq) rfl rfl rfl) rfl hR.2.2.2.2.2, hRO.wr (Or.inr (isIA_ge hc).1) _, hS1, hL, vT1 (vT1 (vT1 hvS)), hvL, hro, hac, has⟩
  rw [ent_ia hc, ← upI_eq]

set_option maxHeartbeats 1000000 in
theorem s_lastore (C : Cx p s m args c cc nL own D cA ov aR0 B nS xs) (I : Inv s nL D cA ov aR0 B nS xs a0 b0 dir ad M H locs ls L S) (K : KK p l e R s m args below meth c Q nL D cA ov aR0 B nS xs a0 b0 dir ad al M k out)
    (hok : okF own nL cc pc (.lastore, len, (a, b, d), v, w, brs) = true) (h : astep al cs (.lastore, len, (a, b, d), v, w, brs) pc L S M k = some out) : W p l e R s m args below meth c H locs (M.1.2.2.2.1 - a0) (M.1.2.2.2.2 - b0) Q (F0 m pc ls (S.map (cv ad ov))) := by
  obtain ⟨hx, hb, hml, hown, hts, hSF, hB⟩ := C
  obtain ⟨hR, hRO, hS, hL, hvS, hvL, hro, hac, has⟩ := I
  obtain ⟨h1, h2, ⟨h3, h4, h5, h6⟩, h7, h8, h9, h10, h11, h12, h13, ho⟩ := hSF
  obtain ⟨hd, rfl⟩ : decode cc pc = .ok (.lastore, 1) ∧ len = 1 := by simpa [okF, nOK, okE, okD] using hok
  rcases S with _ | ⟨(x | x) | x, _ | ⟨(j | j) | j, _ | ⟨(y | y) | _ | ⟨ci, ii⟩, S⟩⟩⟩ <;> try exact ons h
  have h : (bif isLA ci && inB j (M.1.2.1 ci ii) then k (pc + 1) L S (M.1, (M.2.1, upL M.2.2 ci ii j.toNatClampNeg x)) else none) = some out := h
  cases hc : isLA ci && inB j (M.1.2.1 ci ii) with
  | false => rw [hc] at h; exact ons h
  | true =>
  rw [hc] at h
  simp only [Bool.and_eq_true] at hc
  obtain ⟨hc, hj⟩ := hc
  have hv := vH1 (vT1 (vT1 hvS))
  have hm : (ci, ii) ∈ dir := hR.ro hv (by simp [isW, hc])
  obtain ⟨q0, hq0, he⟩ := wl_at (cA := cA) (ad := ad) (m := M) hm
  rw [ent_la hc] at he
  have := isLA_ge hc
  have hcv : cv ad ov (.inr (some (ci, ii))) = .ref (ad ci ii) := cv_ne (by omega)
  show W p l e R s m args below meth c H locs _ _ Q (F0 m pc ls (Value.long x :: Value.int j :: cv ad ov (.inr (some (ci, ii))) :: S.map (cv ad ov)))
  rw [hcv]
  refine va_last hx hb h1 hR.1 hR.2.1 hS q0 1 he rfl (inB_in hj) hd (fun H1 locs1 hP1 hD1 hS1 => ?_)
  refine K _ _ _ _ h (Rel.of rfl) dir ad H1 locs1 ls Ext.rf ⟨hR.put hq0 hP1 hD1 ?_ (fun q _ hq => ent_congr rfl (upL_ne hq) rfl rfl) rfl hR.2.2.2.2.2, hRO, hS1, hL, vT1 (vT1 (vT1 hvS)), hvL, hro, hac, has⟩
  rw [ent_la hc, ← upL_eq]

set_option maxHeartbeats 1000000 in
theorem s_arraylength (C : Cx p s m args c cc nL own D cA ov aR0 B nS xs) (I : Inv s nL D cA ov aR0 B nS xs a0 b0 dir ad M H locs ls L S) (K : KK p l e R s m args below meth c Q nL D cA ov aR0 B nS xs a0 b0 dir ad al M k out)
    (hok : okF own nL cc pc (.arraylength, len, (a, b, d), v, w, brs) = true) (h : astep al cs (.arraylength, len, (a, b, d), v, w, brs) pc L S M k = some out) : W p l e R s m args below meth c H locs (M.1.2.2.2.1 - a0) (M.1.2.2.2.2 - b0) Q (F0 m pc ls (S.map (cv ad ov))) := by
  obtain ⟨hx, hb, hml, hown, hts, hSF, hB⟩ := C
  obtain ⟨hR, hRO, hS, hL, hvS, hvL, hro, hac, has⟩ := I
  obtain ⟨h1, h2, ⟨h3, h4, h5, h6⟩, h7, h8, h9, h10, h11, h12, h13, ho⟩ := hSF
  obtain ⟨hd, rfl⟩ : decode cc pc = .ok (.arraylength, 1) ∧ len = 1 := by simpa [okF, nOK, okE, okD] using hok
  rcases S with _ | ⟨(j | j) | _ | ⟨ci, ii⟩, S⟩ <;> try exact ons h
  have h : (bif isIA ci || isLA ci || isRA ci || Nat.beq ci 30 || Nat.beq ci 32 || Nat.beq ci 33 then k (pc + 1) L (aI (nI (M.1.2.1 ci ii)) :: S) M else none) = some out := h
  cases hc : isIA ci || isLA ci || isRA ci || Nat.beq ci 30 || Nat.beq ci 32 || Nat.beq ci 33 with
  | false => rw [hc] at h; exact ons h
  | true =>
  rw [hc] at h
  simp only [Bool.or_eq_true, Nat.beq_eq] at hc
  have hv := vH1 hvS
  have kk := K _ _ _ _ h (Rel.of rfl) dir ad H locs ls Ext.rf ⟨hR, hRO, hS, hL, vS1 trivial (vT1 hvS), hvL, hro, hac, has⟩
  have go : ∀ {t0 : Nat} {z : vp_A} {cc0 : ClassId} {ty : FieldType}, isW ci = true → ent cA ad M ci ii = .inl (cc0, z) → z.1 = M.1.2.1 ci ii → (tysL cA)[t0]? = some (cc0, ty) → W p l e R s m args below meth c H locs (M.1.2.2.2.1 - a0) (M.1.2.2.2.2 - b0) Q (F0 m pc ls ((.inr (some (ci, ii)) :: S).map (cv ad ov))) := fun hw hent hz ht => by
    have hm : (ci, ii) ∈ dir := hR.ro hv hw
    obtain ⟨q0, hq0, he⟩ := wl_at (cA := cA) (ad := ad) (m := M) hm
    rw [hent] at he
    have := isW_cases hw
    have hcv : cv ad ov (.inr (some (ci, ii))) = .ref (ad ci ii) := cv_ne (by omega)
    show W p l e R s m args below meth c H locs _ _ Q (F0 m pc ls (cv ad ov (.inr (some (ci, ii))) :: S.map (cv ad ov)))
    rw [hcv]
    exact va_alen hx hb h1 hR.1 q0 _ he ht (by rw [hz]; rfl) hd kk
  rcases hc with ((((hc | hc) | hc) | rfl) | rfl) | rfl
  · exact go (t0 := 0) (by simp [isW, hc]) (ent_ia hc) rfl rfl
  · exact go (t0 := 1) (by simp [isW, hc]) (ent_la hc) rfl rfl
  · obtain ⟨ty, ht, -⟩ := tysL_ra (cA := cA) hc
    exact go (by simp [isW, hc]) (ent_ra hc) rfl ht
  · have hr := hR.nro hv (by omega)
    have hi : ii < 12 := by rcases hr with hr | hr <;> (dsimp only at hr; omega)
    have hcv : cv ad ov (.inr (some (30, ii))) = .ref (aR0 30 ii) := by rw [← hro 30 ii (by omega) (by omega)]; exact cv_ne (by decide)
    show W p l e R s m args below meth c H locs _ _ Q (F0 m pc ls (cv ad ov (.inr (some (30, ii))) :: S.map (cv ad ov)))
    rw [hcv]
    exact va_tlen hx hb (h12 ii hi).2.2.2 hS (by rw [(hRO.1 ii hi).1]; rfl) hd kk
  · have hr := hR.nro hv (by omega)
    have hi : ii = 0 := by rcases hr with hr | hr <;> (dsimp only at hr; omega)
    subst hi
    have hcv : cv ad ov (.inr (some (32, 0))) = .ref (aR0 32 0) := by rw [← hro 32 0 (by omega) (by omega)]; exact cv_ne (by decide)
    show W p l e R s m args below meth c H locs _ _ Q (F0 m pc ls (cv ad ov (.inr (some (32, 0))) :: S.map (cv ad ov)))
    rw [hcv]
    exact va_tlen hx hb h10 hS (by rw [hRO.2.1]; rfl) hd kk
  · have hr := hR.nro hv (by omega)
    have hi : ii = 0 := by rcases hr with hr | hr <;> (dsimp only at hr; omega)
    subst hi
    have hcv : cv ad ov (.inr (some (33, 0))) = .ref (aR0 33 0) := by rw [← hro 33 0 (by omega) (by omega)]; exact cv_ne (by decide)
    show W p l e R s m args below meth c H locs _ _ Q (F0 m pc ls (cv ad ov (.inr (some (33, 0))) :: S.map (cv ad ov)))
    rw [hcv]
    exact va_tlen hx hb h11 hS (by rw [hRO.2.2.2.1]; rfl) hd kk

set_option maxHeartbeats 1000000 in
theorem s_getstatic {z : Nat} (C : Cx p s m args c cc nL own D cA ov aR0 B nS xs) (I : Inv s nL D cA ov aR0 B nS xs a0 b0 dir ad M H locs ls L S) (K : KK p l e R s m args below meth c Q nL D cA ov aR0 B nS xs a0 b0 dir ad al M k out)
    (hok : okF own nL cc pc (.getstatic z, len, (a, b, d), v, w, brs) = true) (h : astep al cs (.getstatic z, len, (a, b, d), v, w, brs) pc L S M k = some out) : W p l e R s m args below meth c H locs (M.1.2.2.2.1 - a0) (M.1.2.2.2.2 - b0) Q (F0 m pc ls (S.map (cv ad ov))) := by
  obtain ⟨hx, hb, hml, hown, hts, hSF, hB⟩ := C
  obtain ⟨hR, hRO, hS, hL, hvS, hvL, hro, hac, has⟩ := I
  obtain ⟨h1, h2, ⟨h3, h4, h5, h6⟩, h7, h8, h9, h10, h11, h12, h13, ho⟩ := hSF
  simp only [okF, nOK, okE, okD, Bool.and_eq_true, Bool.or_eq_true, decide_eq_true_eq, Nat.beq_eq, Bool.true_and] at hok
  obtain ⟨⟨⟨hd, rfl⟩, hf⟩, hok⟩ := hok
  have hw := slE_w hf
  rcases hok with (rfl | rfl) | rfl
  · exact va_gets hx hb h8 hS hown (hts _ hw) (fun _ h9 => h9) hd (K _ _ _ _ h (Rel.of rfl) dir ad H locs ls Ext.rf ⟨hR, hRO, hS, hL, vS1 trivial hvS, hvL, hro, hac, has⟩)
  · have hcv : cv ad ov (.inr (some (32, 0))) = .ref (aR0 32 0) := by rw [← hro 32 0 (by omega) (by omega)]; exact cv_ne (by decide)
    refine va_gets hx hb h7 hS hown (hts _ hw) (fun _ h9 => h9) hd ?_
    rw [← hcv]
    exact K _ _ _ _ h (Rel.of rfl) dir ad H locs ls Ext.rf ⟨hR, hRO, hS, hL, vS1 (Or.inr (Or.inr ⟨by decide, by decide, rfl⟩)) hvS, hvL, hro, hac, has⟩
  · exact va_gets hx hb h9 hS hown (hts _ hw) (fun _ h9 => h9) hd (K _ _ _ _ h (Rel.of rfl) dir ad H locs ls Ext.rf ⟨hR, hRO, hS, hL, vS1 (Or.inr (Or.inr ⟨by decide, by decide, rfl⟩)) hvS, hvL, hro, hac, has⟩)

theorem KSt_len : KSt.length = 12 := by decide +kernel

set_option maxHeartbeats 1000000 in
theorem s_ldc {z : Nat} (C : Cx p s m args c cc nL own D cA ov aR0 B nS xs) (I : Inv s nL D cA ov aR0 B nS xs a0 b0 dir ad M H locs ls L S) (K : KK p l e R s m args below meth c Q nL D cA ov aR0 B nS xs a0 b0 dir ad al M k out)
    (hok : okF own nL cc pc (.ldc z, len, (a, b, d), v, w, brs) = true) (h : astep al cs (.ldc z, len, (a, b, d), v, w, brs) pc L S M k = some out) : W p l e R s m args below meth c H locs (M.1.2.2.2.1 - a0) (M.1.2.2.2.2 - b0) Q (F0 m pc ls (S.map (cv ad ov))) := by
  obtain ⟨hx, hb, hml, hown, hts, hSF, hB⟩ := C
  obtain ⟨hR, hRO, hS, hL, hvS, hvL, hro, hac, has⟩ := I
  obtain ⟨h1, h2, ⟨h3, h4, h5, h6⟩, h7, h8, h9, h10, h11, h12, h13, ho⟩ := hSF
  simp only [okF, nOK, okE, okD, Bool.and_eq_true, decide_eq_true_eq, Nat.beq_eq, Bool.true_and] at hok
  obtain ⟨⟨hd, rfl⟩, hf⟩ := hok
  unfold ksE at hf
  cases hk : KSt[a]? with
  | none => rw [hk] at hf; cases hf
  | some q =>
    rw [hk] at hf
    simp only [Bool.and_eq_true, Nat.beq_eq] at hf
    have hi : a < 12 := by rw [← KSt_len]; exact (List.getElem?_eq_some_iff.mp hk).1
    have hz := h13 a q hk
    rw [hf.1, hf.2] at hz
    have hcv : cv ad ov (.inr (some (31, a))) = .ref (aR0 31 a) := by rw [← hro 31 a (by omega) (by omega)]; exact cv_ne (by decide)
    refine va_ldcS hx hb hown hz hd ?_
    rw [← hcv]
    exact K _ _ _ _ h (Rel.of rfl) dir ad H locs ls Ext.rf ⟨hR, hRO, hS, hL, vS1 (Or.inr (Or.inl ⟨Nat.le_of_ble_eq_true rfl, Nat.le_of_ble_eq_true rfl, hi⟩)) hvS, hvL, hro, hac, has⟩

theorem consec_at : ∀ (l : List (Int32 × Nat)) (n : Int), consec n l = true → ∀ (j : Nat) (q : Int32 × Nat), l[j]? = some q → q.1 = Int32.ofInt (n + j) := by
  intro l
  induction l with
  | nil => intro n _ j q h; simp at h
  | cons x l ih =>
    intro n h j q hq
    simp only [consec, Bool.and_eq_true, decide_eq_true_eq] at h
    cases j with
    | zero => simp at hq; subst hq; rw [h.1]; simp
    | succ j =>
      have := ih (n + 1) h.2 j q (by simpa using hq)
      rw [this]
      congr 1
      omega
theorem sw_none {k : Nat → LV → List AV → Mem → Option Out} {L : LV} {S : List AV} {M : Mem} {x : Int32} {r : Option Out} : ∀ (l : List (Int32 × Nat)), (∀ q ∈ l, x ≠ q.1) → l.foldr (fun q r => if x = q.1 then k q.2 L S M else r) r = r := by
  intro l
  induction l with
  | nil => intro _; rfl
  | cons y l ih =>
    intro h
    show (if x = y.1 then _ else _) = r
    rw [if_neg (h y List.mem_cons_self)]
    exact ih (fun q hq => h q (List.mem_cons_of_mem _ hq))
theorem sw_some {k : Nat → LV → List AV → Mem → Option Out} {L : LV} {S : List AV} {M : Mem} {x : Int32} {r : Option Out} : ∀ (l : List (Int32 × Nat)) (j : Nat) (q : Int32 × Nat), l[j]? = some q → x = q.1 → (∀ i, i < j → ∀ q', l[i]? = some q' → x ≠ q'.1) → l.foldr (fun q r => if x = q.1 then k q.2 L S M else r) r = k q.2 L S M := by
  intro l
  induction l with
  | nil => intro j q h; simp at h
  | cons y l ih =>
    intro j q h hx hn
    cases j with
    | zero =>
      simp at h
      subst h
      show (if x = y.1 then _ else _) = _
      rw [if_pos hx]
    | succ j =>
      show (if x = y.1 then _ else _) = _
      rw [if_neg (hn 0 (by omega) y rfl)]
      exact ih j q (by simpa using h) hx (fun i hi q' hq' => hn (i + 1) (by omega) q' (by simpa using hq'))
theorem ofInt_small {n : Int} (h1 : -2000 < n) (h2 : n < 2000) : (Int32.ofInt n).toInt = n := by
  rw [Int32.toInt_ofInt, show Int32.size = 4294967296 from rfl]
  rw [Int.bmod_eq_of_le] <;> omega

set_option maxHeartbeats 1000000 in
theorem s_tableswitch {z1 z2 z3 : Int} {z4 : Array Int} (C : Cx p s m args c cc nL own D cA ov aR0 B nS xs) (I : Inv s nL D cA ov aR0 B nS xs a0 b0 dir ad M H locs ls L S) (K : KK p l e R s m args below meth c Q nL D cA ov aR0 B nS xs a0 b0 dir ad al M k out)
    (hok : okF own nL cc pc (.tableswitch z1 z2 z3 z4, len, (a, b, d), v, w, brs) = true) (h : astep al cs (.tableswitch z1 z2 z3 z4, len, (a, b, d), v, w, brs) pc L S M k = some out) : W p l e R s m args below meth c H locs (M.1.2.2.2.1 - a0) (M.1.2.2.2.2 - b0) Q (F0 m pc ls (S.map (cv ad ov))) := by
  obtain ⟨hx, hb, hml, hown, hts, hSF, hB⟩ := C
  obtain ⟨hR, hRO, hS, hL, hvS, hvL, hro, hac, has⟩ := I
  obtain ⟨h1, h2, ⟨h3, h4, h5, h6⟩, h7, h8, h9, h10, h11, h12, h13, ho⟩ := hSF
  rcases brs with _ | ⟨q0, brs⟩
  · simp [okF, nOK, okE] at hok
  simp only [okF, nOK, okE, okD, Bool.and_eq_true, decide_eq_true_eq, Bool.true_and] at hok
  obtain ⟨⟨⟨hcs, hlo⟩, hlo2⟩, hd⟩ := hok
  rcases S with _ | ⟨(x | x) | x, S⟩ <;> try exact ons h
  have h : (q0 :: brs).foldr (fun q r => if x = q.1 then k q.2 L S M else r) (k a L S M) = some out := h
  have g : ∀ {pc'}, k pc' L S M = some out → W p l e R s m args below meth c H locs (M.1.2.2.2.1 - a0) (M.1.2.2.2.2 - b0) Q (F0 m pc' ls (S.map (cv ad ov))) := fun h => K _ _ _ _ h (Rel.of rfl) dir ad H locs ls Ext.rf ⟨hR, hRO, hS, hL, vT1 hvS, hvL, hro, hac, has⟩
  have hat := consec_at _ _ hcs
  by_cases hin : x.toInt < q0.1.toInt ∨ q0.1.toInt + brs.length < x.toInt
  · rw [sw_none _ (fun q hq e => by
      obtain ⟨j, hj⟩ := List.mem_iff_getElem?.mp hq
      have hjl : j < (q0 :: brs).length := (List.getElem?_eq_some_iff.mp hj).1
      have e2 := hat j q hj
      rw [List.length_cons] at hjl
      have e3 : x.toInt = q0.1.toInt + j := by rw [e, e2]; exact ofInt_small (by omega) (by omega)
      omega)] at h
    exact lv_tableOut hx hb hd hin (off_eq pc a) (g h)
  · obtain ⟨j, hj⟩ : ∃ j : Nat, x.toInt = q0.1.toInt + j := ⟨(x.toInt - q0.1.toInt).toNat, by omega⟩
    have hjl : j < (q0 :: brs).length := by rw [List.length_cons]; omega
    have hq : (q0 :: brs)[j]? = some ((q0 :: brs)[j]) := List.getElem?_eq_getElem hjl
    have hxq : x = ((q0 :: brs)[j]).1 := by
      rw [hat j _ hq, ← hj, Int32.ofInt_toInt]
    rw [sw_some _ j _ hq hxq (fun i hi q' hq' e => by
      have e2 := hat i q' hq'
      have e3 : x.toInt = q0.1.toInt + i := by rw [e, e2]; exact ofInt_small (by omega) (by omega)
      omega)] at h
    refine lv_tableIn hx hb hd (by omega) (by omega) (off := (((q0 :: brs)[j]).2 : Int) - pc) ?_ (off_eq pc _) (g h)
    have e : (x.toInt - q0.1.toInt).toNat = j := by omega
    rw [e, List.getElem?_toArray, List.getElem?_map, hq]
    rfl

theorem cat_sum {ad : Nat → Nat → Nat} {ov : Value} (ho : ov = .null ∨ ∃ a, ov = .ref a) : ∀ S : List AV, ((S.map (cv ad ov)).map fun v => v.category).sum ≤ 2 * S.length := by
  intro S
  induction S with
  | nil => simp
  | cons v S ih =>
    have h1 : (cv ad ov v).category ≤ 2 := by
      rw [cv_cat ho]
      rcases v with (x | x) | x <;> simp [cat]
    simp only [List.map_cons, List.sum_cons, List.length_cons]
    omega
/-- the room of what is left: cells and places that what comes behind still makes -/
def KA (R : Room) (a0 b0 : Nat) (al : Bool) (M : Mem) (k : Nat → LV → List AV → Mem → Option Out) (out : Out) : Prop := ∀ pc' L' S' M', k pc' L' S' M' = some out → Rel al M M' → M'.1.2.2.2.1 - a0 ≤ R.cells ∧ M'.1.2.2.2.2 - b0 ≤ R.slots
theorem blw : (Cond.static Lib.Math.abs.name ∈ WSg ∧ Cond.static Lib.Math.max.name ∈ WSg ∧ Cond.static Lib.Math.min.name ∈ WSg ∧ Cond.initialized "java/lang/Math" ∈ WSg ∧ Cond.code Lib.Math.abs.name Lib.Math.abs.code 1 (some .int) ∈ WSg ∧ Cond.code Lib.Math.max.name Lib.Math.max.code 2 (some .int) ∈ WSg) ∧ (Cond.code Lib.Math.min.name Lib.Math.min.code 2 (some .int) ∈ WSg ∧ Cond.native arraycopyName ∈ WSg ∧ Cond.static arraycopyName ∈ WSg ∧ Cond.initialized "java/lang/System" ∈ WSg ∧ Cond.instanceMethod Lib.objectInit ∈ WSg ∧ Cond.code Lib.objectInit ⟨#[0xb1]⟩ 1 none ∈ WSg) := by
  have h := BL_words
  simp only [Bool.and_eq_true] at h
  obtain ⟨⟨⟨⟨⟨⟨⟨⟨⟨⟨⟨h1, h2⟩, h3⟩, h4⟩, h5⟩, h6⟩, h7⟩, h8⟩, h9⟩, h10⟩, h11⟩, h12⟩ := h
  exact ⟨⟨posOK_mem h1, posOK_mem h2, posOK_mem h3, posOK_mem h4, posOK_mem h5, posOK_mem h6⟩, posOK_mem h7, posOK_mem h8, posOK_mem h9, posOK_mem h10, posOK_mem h11, posOK_mem (of_decide_eq_true h12)⟩

set_option maxHeartbeats 1000000 in
theorem s_dneg (A : KA R a0 b0 al M k out) (hfr : 1 ≤ R.frames) (hlo : 64 ≤ R.locals) (C : Cx p s m args c cc nL own D cA ov aR0 B nS xs) (I : Inv s nL D cA ov aR0 B nS xs a0 b0 dir ad M H locs ls L S) (K : KK p l e R s m args below meth c Q nL D cA ov aR0 B nS xs a0 b0 dir ad al M k out)
    (hok : okF own nL cc pc (.dneg, len, (a, b, d), v, w, brs) = true) (h : astep al cs (.dneg, len, (a, b, d), v, w, brs) pc L S M k = some out) : W p l e R s m args below meth c H locs (M.1.2.2.2.1 - a0) (M.1.2.2.2.2 - b0) Q (F0 m pc ls (S.map (cv ad ov))) := by
  obtain ⟨hx, hb, hml, hown, hts, hSF, hB⟩ := C
  obtain ⟨hR, hRO, hS, hL, hvS, hvL, hro, hac, has⟩ := I
  obtain ⟨h1, h2, ⟨h3, h4, h5, h6⟩, h7, h8, h9, h10, h11, h12, h13, ho⟩ := hSF
  simp only [okF, nOK, okE, okD, Bool.and_eq_true, decide_eq_true_eq, Nat.beq_eq, Bool.true_and] at hok
  obtain ⟨⟨hd, rfl⟩, hf⟩ := hok
  rcases S with _ | ⟨(x | x) | x, S⟩ <;> try exact ons h
  have h : (bif Nat.ble S.length 8 then k (pc + 3) L (aI (if 0 ≤ x then x else 0 - x) :: S) M else none) = some out := h
  cases hc : Nat.ble S.length 8 with
  | false => rw [hc] at h; exact ons h
  | true =>
  rw [hc] at h
  have hc := Nat.le_of_ble_eq_true hc
  have hcs := cat_sum (ad := ad) (ov := ov) ho S
  have hA := A _ _ _ _ h (Rel.of rfl)
  exact va_mabs hx hb (by rw [hml]; exact hL.1.symm) hown (hts _ (blE_w hf)) (hts _ blw.1.1) (hts _ blw.1.2.2.2.1) (hts _ blw.1.2.2.2.2.1) hfr (by omega) hA.1 hA.2 hd (K _ _ _ _ h (Rel.of rfl) dir ad H locs ls Ext.rf ⟨hR, hRO, hS, hL, vS1 trivial (vT1 hvS), hvL, hro, hac, has⟩)

set_option maxHeartbeats 1000000 in
theorem s_dadd (A : KA R a0 b0 al M k out) (hfr : 1 ≤ R.frames) (hlo : 64 ≤ R.locals) (C : Cx p s m args c cc nL own D cA ov aR0 B nS xs) (I : Inv s nL D cA ov aR0 B nS xs a0 b0 dir ad M H locs ls L S) (K : KK p l e R s m args below meth c Q nL D cA ov aR0 B nS xs a0 b0 dir ad al M k out)
    (hok : okF own nL cc pc (.dadd, len, (a, b, d), v, w, brs) = true) (h : astep al cs (.dadd, len, (a, b, d), v, w, brs) pc L S M k = some out) : W p l e R s m args below meth c H locs (M.1.2.2.2.1 - a0) (M.1.2.2.2.2 - b0) Q (F0 m pc ls (S.map (cv ad ov))) := by
  obtain ⟨hx, hb, hml, hown, hts, hSF, hB⟩ := C
  obtain ⟨hR, hRO, hS, hL, hvS, hvL, hro, hac, has⟩ := I
  obtain ⟨h1, h2, ⟨h3, h4, h5, h6⟩, h7, h8, h9, h10, h11, h12, h13, ho⟩ := hSF
  simp only [okF, nOK, okE, okD, Bool.and_eq_true, decide_eq_true_eq, Nat.beq_eq, Bool.true_and] at hok
  obtain ⟨⟨hd, rfl⟩, hf⟩ := hok
  rcases S with _ | ⟨(y | y) | y, _ | ⟨(x | x) | x, S⟩⟩ <;> try exact ons h
  have h : (bif Nat.ble S.length 8 then k (pc + 3) L (aI (if x < y then y else x) :: S) M else none) = some out := h
  cases hc : Nat.ble S.length 8 with
  | false => rw [hc] at h; exact ons h
  | true =>
  rw [hc] at h
  have hc := Nat.le_of_ble_eq_true hc
  have hcs := cat_sum (ad := ad) (ov := ov) ho S
  have hA := A _ _ _ _ h (Rel.of rfl)
  exact va_mmax hx hb (by rw [hml]; exact hL.1.symm) hown (hts _ (blE_w hf)) (hts _ blw.1.2.1) (hts _ blw.1.2.2.2.1) (hts _ blw.1.2.2.2.2.2) hfr (by omega) hA.1 hA.2 hd (K _ _ _ _ h (Rel.of rfl) dir ad H locs ls Ext.rf ⟨hR, hRO, hS, hL, vS1 trivial (vT1 (vT1 hvS)), hvL, hro, hac, has⟩)

set_option maxHeartbeats 1000000 in
theorem s_dsub (A : KA R a0 b0 al M k out) (hfr : 1 ≤ R.frames) (hlo : 64 ≤ R.locals) (C : Cx p s m args c cc nL own D cA ov aR0 B nS xs) (I : Inv s nL D cA ov aR0 B nS xs a0 b0 dir ad M H locs ls L S) (K : KK p l e R s m args below meth c Q nL D cA ov aR0 B nS xs a0 b0 dir ad al M k out)
    (hok : okF own nL cc pc (.dsub, len, (a, b, d), v, w, brs) = true) (h : astep al cs (.dsub, len, (a, b, d), v, w, brs) pc L S M k = some out) : W p l e R s m args below meth c H locs (M.1.2.2.2.1 - a0) (M.1.2.2.2.2 - b0) Q (F0 m pc ls (S.map (cv ad ov))) := by
  obtain ⟨hx, hb, hml, hown, hts, hSF, hB⟩ := C
  obtain ⟨hR, hRO, hS, hL, hvS, hvL, hro, hac, has⟩ := I
  obtain ⟨h1, h2, ⟨h3, h4, h5, h6⟩, h7, h8, h9, h10, h11, h12, h13, ho⟩ := hSF
  simp only [okF, nOK, okE, okD, Bool.and_eq_true, decide_eq_true_eq, Nat.beq_eq, Bool.true_and] at hok
  obtain ⟨⟨hd, rfl⟩, hf⟩ := hok
  rcases S with _ | ⟨(y | y) | y, _ | ⟨(x | x) | x, S⟩⟩ <;> try exact ons h
  have h : (bif Nat.ble S.length 8 then k (pc + 3) L (aI (if y < x then y else x) :: S) M else none) = some out := h
  cases hc : Nat.ble S.length 8 with
  | false => rw [hc] at h; exact ons h
  | true =>
  rw [hc] at h
  have hc := Nat.le_of_ble_eq_true hc
  have hcs := cat_sum (ad := ad) (ov := ov) ho S
  have hA := A _ _ _ _ h (Rel.of rfl)
  exact va_mmin hx hb (by rw [hml]; exact hL.1.symm) hown (hts _ (blE_w hf)) (hts _ blw.1.2.2.1) (hts _ blw.1.2.2.2.1) (hts _ blw.2.1) hfr (by omega) hA.1 hA.2 hd (K _ _ _ _ h (Rel.of rfl) dir ad H locs ls Ext.rf ⟨hR, hRO, hS, hL, vS1 trivial (vT1 (vT1 hvS)), hvL, hro, hac, has⟩)

set_option maxHeartbeats 1000000 in
theorem s_nop (hfr : 1 ≤ R.frames) (hlo : 64 ≤ R.locals) (C : Cx p s m args c cc nL own D cA ov aR0 B nS xs) (I : Inv s nL D cA ov aR0 B nS xs a0 b0 dir ad M H locs ls L S) (K : KK p l e R s m args below meth c Q nL D cA ov aR0 B nS xs a0 b0 dir ad al M k out)
    (hok : okF own nL cc pc (.nop, len, (a, b, d), v, w, brs) = true) (h : astep al cs (.nop, len, (a, b, d), v, w, brs) pc L S M k = some out) : W p l e R s m args below meth c H locs (M.1.2.2.2.1 - a0) (M.1.2.2.2.2 - b0) Q (F0 m pc ls (S.map (cv ad ov))) := by
  obtain ⟨hx, hb, hml, hown, hts, hSF, hB⟩ := C
  obtain ⟨hR, hRO, hS, hL, hvS, hvL, hro, hac, has⟩ := I
  obtain ⟨h1, h2, ⟨h3, h4, h5, h6⟩, h7, h8, h9, h10, h11, h12, h13, ho⟩ := hSF
  simp only [okF, nOK, okE, okD, Bool.and_eq_true, decide_eq_true_eq, Nat.beq_eq, Bool.true_and] at hok
  obtain ⟨⟨hd, rfl⟩, hf⟩ := hok
  rcases S with _ | ⟨(x | x) | _ | ⟨ci, ii⟩, S⟩ <;> try exact ons h
  have h : (bif al && Nat.blt ci 8 && Nat.ble S.length 8 then k (pc + 3) L S M else none) = some out := h
  cases hc : al && Nat.blt ci 8 && Nat.ble S.length 8 with
  | false => rw [hc] at h; exact ons h
  | true =>
  rw [hc] at h
  simp only [Bool.and_eq_true, Nat.blt_eq, Nat.ble_eq] at hc
  have hcs := cat_sum (ad := ad) (ov := ov) ho S
  have hcv : cv ad ov (.inr (some (ci, ii))) = .ref (ad ci ii) := cv_ne (by omega)
  show W p l e R s m args below meth c H locs _ _ Q (F0 m pc ls (cv ad ov (.inr (some (ci, ii))) :: S.map (cv ad ov)))
  rw [hcv]
  refine W.objInit hx hb hown (hts _ (blE_w hf)) (hts _ blw.2.2.2.2.2.1) (hts _ blw.2.2.2.2.2.2) rfl (by rw [hml]; exact hL.1) rfl hd hfr (by show 2 * 0 + _ + 12 ≤ _; omega) ?_
  exact W.eq (g2 := F0 m (pc + 3) ls (S.map (cv ad ov))) rfl (K _ _ _ _ h (Rel.of rfl) dir ad H locs ls Ext.rf ⟨hR, hRO, hS, hL, vT1 hvS, hvL, hro, hac, has⟩)

end HST2
