/-! PURE: pairs, the class's answer -/
theorem pick_in (A : Nat → Nat → Bool) (V : Nat → Nat → Nat) (r : Nat) (mask : Int32) : (ndR A V r mask).2 = -1 ∨ ∃ w, w < 6 ∧ (ndR A V r mask).2 = nI w ∧ okm A (7 - r) mask w = true ∧ scR A V r mask w = (ndR A V r mask).1 := by
  unfold ndR
  have h := chR_spec (okm A (7 - r) mask) (scR A V r mask) 6
  cases e : chR (okm A (7 - r) mask) (scR A V r mask) 6 with
  | none => exact Or.inl rfl
  | some x =>
    rw [e] at h
    obtain ⟨i1, i2, i3, i4, i5⟩ := h
    by_cases d : x.1 < bfR A V r mask
    · refine Or.inl ?_
      show (if x.1 < bfR A V r mask then (bfR A V r mask, -1) else (x.1, nI x.2) : Nat × Int32).2 = _
      rw [if_pos d]
    · refine Or.inr ⟨x.2, i1, ?_, i2, ?_⟩
      · show (if x.1 < bfR A V r mask then (bfR A V r mask, -1) else (x.1, nI x.2) : Nat × Int32).2 = _
        rw [if_neg d]
      · show _ = (if x.1 < bfR A V r mask then (bfR A V r mask, -1) else (x.1, nI x.2) : Nat × Int32).1
        rw [if_neg d]; exact i3
theorem n_nm1 {k : Nat} (h : k < 2147483648) : ¬ nI k = -1 := by
  intro e
  have := congrArg Int32.toInt e
  rw [n_ti h, show (-1 : Int32).toInt = -1 from rfl] at this
  omega
theorem nxt_in {A : Nat → Nat → Bool} {V : Nat → Nat → Nat} {r : Nat} {mask : Int32} (h : inB mask 64 = true) : inB (nxt mask (ndR A V r mask).2) 64 = true := by
  rcases pick_in A V r mask with e | ⟨w, hw, e, _⟩
  · rw [e]; exact h
  · rw [e]; unfold nxt; rw [if_neg (n_nm1 (by omega))]; exact orK_in h hw
/-- the walkers taken before a bottle -/
def mkM (A : Nat → Nat → Bool) (V : Nat → Nat → Nat) : Nat → Int32
  | 0 => 0
  | k + 1 => nxt (mkM A V k) (ndR A V (7 - k) (mkM A V k)).2
theorem mkM_in (A : Nat → Nat → Bool) (V : Nat → Nat → Nat) (k : Nat) : inB (mkM A V k) 64 = true := by
  induction k with
  | zero => exact (by decide : inB 0 64 = true)
  | succ k ih => exact nxt_in ih
theorem ptR_mk (A : Nat → Nat → Bool) (V : Nat → Nat → Nat) (k j : Nat) (h : k + j < 8) : ptR A V (8 - k) (mkM A V k) j = ptR A V 8 0 (k + j) := by
  induction k generalizing j with
  | zero => rw [Nat.zero_add]; rfl
  | succ k ih =>
    have := ih (j + 1) (by omega)
    rw [show k + 1 + j = k + (j + 1) by omega, ← this, show 8 - k = (7 - k) + 1 by omega, show 8 - (k + 1) = 7 - k by omega]
    rfl
theorem part_row {v : Nat → Int32} {nb nw n r : Nat} {m0 m : MM} {a1 mask : Int32} (hn : n < 61) (hr : r < 8) (hm : inB mask 64 = true) (h : Tbl v nb nw n 8 m0 m) : Ok (loopF 1000 (fX6_partnerOf_b25 0 a1 mask (nI (7 - r))) (-1, 0) m) (fun p m' => p = (ndR (Am v nb nw n) (Vm v nb nw n) r mask).2 ∧ m' = m) := by
  obtain ⟨t1, t2, t3⟩ := h
  have t2r := t2 r (by omega)
  have tb := t2 (r + 1) (by omega) mask hm
  rw [show 8 - (r + 1) = 7 - r by omega] at tb
  have pk := fnl_pick (okm (Am v nb nw n) (7 - r) mask) (scR (Am v nb nw n) (Vm v nb nw n) r mask) 6 (bfR (Am v nb nw n) (Vm v nb nw n) r mask)
  have ebf : (fnl (chR (okm (Am v nb nw n) (7 - r) mask) (scR (Am v nb nw n) (Vm v nb nw n) r mask) 6) (bfR (Am v nb nw n) (Vm v nb nw n) r mask)).1 = bfR (Am v nb nw n) (Vm v nb nw n) (r + 1) mask := rfl
  rw [ebf] at pk
  have epk : (fnl (chR (okm (Am v nb nw n) (7 - r) mask) (scR (Am v nb nw n) (Vm v nb nw n) r mask) 6) (bfR (Am v nb nw n) (Vm v nb nw n) r mask)).2 = (ndR (Am v nb nw n) (Vm v nb nw n) r mask).2 := rfl
  rw [← epk, ← pk]
  have hbf := bfR_le (Am v nb nw n) (Vm v nb nw n) (r + 1) mask
  generalize hB : bfR (Am v nb nw n) (Vm v nb nw n) (r + 1) mask = B at *
  generalize hP : (fun w => okm (Am v nb nw n) (7 - r) mask w && decide (scR (Am v nb nw n) (Vm v nb nw n) r mask w = B)) = P
  have pw : ∀ w, P w = (okm (Am v nb nw n) (7 - r) mask w && decide (scR (Am v nb nw n) (Vm v nb nw n) r mask w = B)) := fun w => by rw [← hP]
  clear hP pk ebf epk
  refine Ok.count 0 6 (fun w s m' => m' = m ∧ s.2 = nI w ∧ ((s.1 = -1 ∧ ∀ k, k < w → P k = false) ∨ (∃ k, k < 6 ∧ s.1 = nI k ∧ fst1 P 6 0 = nI k))) ?_ ?_ (by omega) 1000 (by omega) _ m ⟨rfl, rfl, Or.inl ⟨rfl, fun k hk => by omega⟩⟩
  · intro w s m' _ hw ⟨em, es, hs⟩
    subst em
    obtain ⟨s1, s2⟩ := s
    dsimp only at es hs
    subst es
    unfold fX6_partnerOf_b25
    dsimp only
    rw [if_neg (by rw [show (6 : Int32) = nI 6 from rfl, n_le (by omega) (by omega)]; omega)]
    rcases hs with ⟨e1, e2⟩ | ⟨k, hk, e1, e2⟩
    · rw [if_neg (fun h => h e1), score_e m' hn hr hw hm (t1 _ _ (by omega) hw) t2r]
      simp only [Option.bind_some]
      rw [best_e m' (by omega) hm, tb]
      simp only [Option.bind_some]
      have hsc : scR (Am v nb nw n) (Vm v nb nw n) r mask w < 2147483648 := by
        have := bfR_le (Am v nb nw n) (Vm v nb nw n) r (orK mask w)
        unfold scR; omega
      have hh := pw w
      cases o : okm (Am v nb nw n) (7 - r) mask w
      · rw [o, Bool.false_and] at hh
        have hne : ¬ (-1 : Int32) = nI B := fun h => n_nm1 (show B < 2147483648 by omega) h.symm
        simp only [reduceCtorEq, if_false]
        rw [if_pos hne]
        refine Ok.ret ⟨rfl, (n_s w).symm, Or.inl ⟨e1, fun k hk => ?_⟩⟩
        by_cases q : k = w
        · rw [q]; exact hh
        · exact e2 k (by omega)
      · rw [o, Bool.true_and] at hh
        rw [if_pos rfl]
        by_cases q : scR (Am v nb nw n) (Vm v nb nw n) r mask w = B
        · rw [decide_eq_true q] at hh
          rw [q, if_neg (fun h => h rfl)]
          refine Ok.ret ⟨rfl, (n_s w).symm, Or.inr ⟨w, hw, rfl, fst1_some 6 0 w (fun y _ hy => e2 y hy) (Nat.zero_le _) (by omega) hh⟩⟩
        · rw [decide_eq_false q] at hh
          rw [if_pos (by rw [n_inj hsc (by omega)]; exact q)]
          refine Ok.ret ⟨rfl, (n_s w).symm, Or.inl ⟨e1, fun k hk => ?_⟩⟩
          by_cases q' : k = w
          · rw [q']; exact hh
          · exact e2 k (by omega)
    · rw [if_pos (by rw [e1]; exact n_nm1 (by omega))]
      exact Ok.ret ⟨by rw [e1, e2], rfl⟩
  · intro s m' ⟨em, es, hs⟩
    subst em
    unfold fX6_partnerOf_b25
    rw [if_pos (by rw [es]; decide)]
    rcases hs with ⟨e1, e2⟩ | ⟨k, hk, e1, e2⟩
    · exact Ok.ret ⟨by rw [e1, fst1_none 6 0 (fun x _ hx => e2 x (by omega))], rfl⟩
    · exact Ok.ret ⟨by rw [e1, e2], rfl⟩
theorem part6 {v : Nat → Int32} {nb nw n x : Nat} {m0 m : MM} (hn : n < 61) (hx : x < 8) (h : Tbl v nb nw n 8 m0 m) : Ok (fX6_partnerOf 0 (nI x) m) (fun p m' => p = ptR (Am v nb nw n) (Vm v nb nw n) 8 0 x ∧ m' = m) := by
  rw [fX6_partnerOf_eq]; unfold fX6_partnerOf_b
  simp only [bind_eta]
  refine Ok.mono (Ok.fold (f := fX6_partnerOf_b7 0 (nI x)) (x + 1) (fun k => (mkM (Am v nb nw n) (Vm v nb nw n) k, (if k = 0 then -1 else ptR (Am v nb nw n) (Vm v nb nw n) 8 0 (k - 1)), nI k)) (ptR (Am v nb nw n) (Vm v nb nw n) 8 0 x) (fun _ m' => m' = m) ?_ ?_ (by omega) m rfl) (fun r m' h => h)
  · intro k m' hk e
    subst e
    unfold fX6_partnerOf_b7
    dsimp only
    rw [if_neg (by rw [n_lt (by omega) (by omega)]; omega), if_neg (by rw [show (8 : Int32) = nI 8 from rfl, n_le (by omega) (by omega)]; omega)]
    have pr := part_row (a1 := nI x) (r := 7 - k) hn (by omega) (mkM_in (Am v nb nw n) (Vm v nb nw n) k) h
    rw [show 7 - (7 - k) = k by omega] at pr
    refine pr.bind ?_
    intro p m2 ⟨ep, em⟩
    subst em
    have e1 : ptR (Am v nb nw n) (Vm v nb nw n) 8 0 k = p := by
      rw [ep]
      have := ptR_mk (Am v nb nw n) (Vm v nb nw n) k 0 (by omega)
      rw [Nat.add_zero, show 8 - k = (7 - k) + 1 by omega] at this
      rw [← this]; rfl
    have e2 : mkM (Am v nb nw n) (Vm v nb nw n) (k + 1) = nxt (mkM (Am v nb nw n) (Vm v nb nw n) k) p := by rw [ep]; rfl
    dsimp only
    rw [e2, if_neg (show ¬ k + 1 = 0 by omega), Nat.add_sub_cancel, e1]
    by_cases q : p = -1
    · rw [if_pos q]
      refine Ok.ret ⟨?_, rfl⟩
      unfold nxt; rw [if_pos q, n_s]
    · rw [if_neg q]
      refine Ok.ret ⟨?_, rfl⟩
      unfold nxt; rw [if_neg q, n_s]; rfl
  · intro m' e
    unfold fX6_partnerOf_b7
    dsimp only
    rw [if_pos (by rw [n_lt (by omega) (by omega)]; omega), if_neg (show ¬ x + 1 = 0 by omega), Nat.add_sub_cancel]
/-- what is answered -/
def prR (v : Nat → Int32) (nb nw n : Nat) (x : Int32) : Int32 :=
  if x = -2 then nI ((bfR (Am v nb nw n) (Vm v nb nw n) 8 0 + 999) / 1000)
  else if x = -1 then nI ((bfR (Am v nb nw n) (Vm v nb nw n) 8 0 + 999) / 1000 * 1000 - bfR (Am v nb nw n) (Vm v nb nw n) 8 0)
  else ptR (Am v nb nw n) (Vm v nb nw n) 8 0 x.toNatClampNeg
theorem pairs6 {v : Nat → Int32} {nb nw nc n : Nat} {m : MM} {x : Int32} (h : Rlt v nb nw nc m) (hn : n < 61) (h1 : 1 ≤ n) (hx : x = -2 ∨ x = -1 ∨ inB x nb = true) : Ok (fX6_pairs_j27 0 (nI n) x 1 m) (fun r m' => r = prR v nb nw n x ∧ FrP ScrC m m') := by
  have h8 := h.1.nb.2.1
  unfold fX6_pairs_j27
  rw [e6_w7, show (1 : Int32) = nI 1 from rfl, show (60 : Int32) = nI 60 from rfl, within_lo 1 60 (by omega) (by omega) m, n_cl (show n < 2147483648 by omega), decide_eq_true ⟨inB_t (show n < 60 + 1 by omega) (by omega), h1⟩]
  simp only [Option.bind_some, bI_0, reduceCtorEq, if_false]
  rw [if_pos (show ¬ nI 1 = 0 by decide)]
  refine (fillM h hn).bind ?_
  intro _ m1 h1'
  dsimp only
  refine (fillB hn h1').bind ?_
  intro _ m2 hT
  have hbf := bfR_le (Am v nb nw n) (Vm v nb nw n) 8 0
  have hv := hT.2.1 8 (Nat.le_refl _) 0 (by decide)
  rw [Nat.sub_self] at hv
  have e0 : (0 : Int32) = nI 0 := rfl
  have eb : fX6_bestFrom 0 0 0 m2 = some (nI (bfR (Am v nb nw n) (Vm v nb nw n) 8 0), m2) := by
    have := best_e (i := 0) (mask := 0) m2 (by omega) (by decide)
    rw [hv] at this; exact this
  have ec : (nI (bfR (Am v nb nw n) (Vm v nb nw n) 8 0) + 1000 - nI 1) / 1000 = nI ((bfR (Am v nb nw n) (Vm v nb nw n) 8 0 + 999) / 1000) := by
    rw [show (1000 : Int32) = nI 1000 from rfl, ← n_add, ← n_sub (by omega), n_divs (by omega) (by omega)]
    rfl
  dsimp only
  rcases hx with hx | hx | hx
  · subst hx
    rw [if_pos (by decide), eb]
    simp only [Option.bind_some]
    rw [if_pos (by decide), ec]
    exact Ok.ret ⟨rfl, hT.2.2⟩
  · subst hx
    rw [if_pos (by decide), eb]
    simp only [Option.bind_some]
    rw [if_neg (fun h => h rfl), ec]
    refine Ok.ret ⟨?_, hT.2.2⟩
    unfold prR
    rw [if_neg (by decide), if_pos rfl, n_sub (by omega), n_mul]
    rfl
  · obtain ⟨a, b⟩ := inB_ex hx
    generalize hk : x.toNatClampNeg = k at *
    rw [b, if_neg (by rw [e0, n_lt (by omega) (by omega)]; omega)]
    refine (part6 hn (show k < 8 by omega) hT).bind ?_
    intro p m3 ⟨ep, em⟩
    subst em
    refine Ok.ret ⟨?_, hT.2.2⟩
    unfold prR
    rw [if_neg (fun h => by have := congrArg Int32.toInt h; rw [n_ti (by omega), show (-2 : Int32).toInt = -2 from rfl] at this; omega), if_neg (n_nm1 (by omega)), n_cl (by omega)]
    exact ep
