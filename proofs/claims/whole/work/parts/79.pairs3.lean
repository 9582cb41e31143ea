/-! PURE: pairs, the class's table -/
def Am (v : Nat → Int32) (nb nw n : Nat) : Nat → Nat → Bool := fun i w => decide (¬ mtg v nb nw n i w = -1)
def Vm (v : Nat → Int32) (nb nw n : Nat) : Nat → Nat → Nat := fun i w => (mtg v nb nw n i w).toNatClampNeg
theorem mtg_in (v : Nat → Int32) (nb nw : Nat) {n : Nat} (hn : n < 61) (i w : Nat) : mtg v nb nw n i w = -1 ∨ inB (mtg v nb nw n i w) 61 = true := by
  unfold mtg
  split
  · exact fst1_in _ n 1 61 (by omega) (by omega)
  · exact Or.inl rfl
theorem mxI_g (a b : Nat) (ha : a < 2147483648) (hb : b < 2147483648) : mxI (nI a) (nI b) = nI (if a < b then b else a) := by
  rw [← Int32.toInt_inj, mxI_ti, n_ti ha, n_ti hb]
  by_cases q : a < b
  · rw [if_pos q, n_ti hb]; split <;> omega
  · rw [if_neg q, n_ti ha]; split <;> omega
theorem mxI_m1 (a : Nat) (ha : a < 2147483648) : mxI (nI a) (-1) = nI a := by
  rw [← Int32.toInt_inj, mxI_ti, n_ti ha, show (-1 : Int32).toInt = -1 from rfl]
  split <;> omega
theorem best_e {i : Nat} {mask : Int32} (m : MM) (hi : i < 9) (hm : inB mask 64 = true) : fX6_bestFrom 0 (nI i) mask m = some (m.1 44 i mask.toNatClampNeg, m) := by
  rw [fX6_bestFrom_eq]; unfold fX6_bestFrom_b
  rw [show (8 : Int32) = nI 8 from rfl, e6_within' (nI i) 8 m (by omega), inB_t (show i < 8 + 1 by omega) (by omega)]
  simp only [Option.bind_some, bI_0, reduceCtorEq, if_false]
  rw [show (63 : Int32) = nI 63 from rfl, e6_within' mask 63 m (by omega), hm]
  simp only [Option.bind_some, bI_0, reduceCtorEq, if_false]
  rw [cond_true, cond_true, n_cl (show i < 2147483648 by omega)]
theorem score_e {v : Nat → Int32} {nb nw n r w : Nat} {mask : Int32} (m : MM) (hn : n < 61) (hr : r < 8) (hw : w < 6) (hm : inB mask 64 = true) (h43 : m.1 43 (7 - r) w = mtg v nb nw n (7 - r) w) (h44 : ∀ mask, inB mask 64 = true → m.1 44 (8 - r) mask.toNatClampNeg = nI (bfR (Am v nb nw n) (Vm v nb nw n) r mask)) :
    fX6_pairingScore 0 (nI (7 - r)) (nI w) mask m = some (if okm (Am v nb nw n) (7 - r) mask w = true then nI (scR (Am v nb nw n) (Vm v nb nw n) r mask w) else -1, m) := by
  rw [fX6_pairingScore_eq]; unfold fX6_pairingScore_b
  rw [show (7 : Int32) = nI 7 from rfl, e6_within' (nI (7 - r)) 7 m (by omega), inB_t (show 7 - r < 7 + 1 by omega) (by omega)]
  simp only [Option.bind_some, bI_0, reduceCtorEq, if_false]
  rw [show (5 : Int32) = nI 5 from rfl, e6_within' (nI w) 5 m (by omega), inB_t (show w < 5 + 1 by omega) (by omega)]
  simp only [Option.bind_some, bI_0, reduceCtorEq, not_false_eq_true, if_true]
  rw [cond_true, cond_true, n_cl (show 7 - r < 2147483648 by omega), n_cl (show w < 2147483648 by omega), h43]
  unfold okm Am
  by_cases q : mtg v nb nw n (7 - r) w = -1
  · rw [if_pos q, decide_eq_false (fun h => h q)]; rfl
  · rw [if_neg q, decide_eq_true q, Bool.true_and]
    rcases mtg_in v nb nw hn (7 - r) w with e | e
    · exact absurd e q
    obtain ⟨e1, e2⟩ := inB_ex e
    cases b : bt mask w
    · rw [if_pos ((bt_shr0 mask (show w < 32 by omega)).mpr b), ← n_s, show 7 - r + 1 = 8 - r by omega]
      have eo : mask ||| 1 <<< (nI w &&& 31) = orK mask w := rfl
      rw [eo, best_e m (by omega) (orK_in hm hw), h44 _ (orK_in hm hw)]
      simp only [Option.bind_some, Bool.not_false, if_true]
      unfold scR
      have e3 : (1000 : Int32) - mtg v nb nw n (7 - r) w = nI (1000 - Vm v nb nw n (7 - r) w) := by
        rw [show (1000 : Int32) = nI 1000 from rfl, n_sub (show Vm v nb nw n (7 - r) w ≤ 1000 by unfold Vm; omega), ← show mtg v nb nw n (7 - r) w = nI (Vm v nb nw n (7 - r) w) from e2]
      rw [e3, ← n_add]
      rfl
    · rw [if_neg (by rw [bt_shr0 mask (show w < 32 by omega), b]; decide)]
      simp only [Bool.not_true, reduceCtorEq, if_false]
/-- so many rows of the table are filled -/
def Tbl (v : Nat → Int32) (nb nw n r : Nat) (m0 m : MM) : Prop :=
  (∀ i w, i < 8 → w < 6 → m.1 43 i w = mtg v nb nw n i w) ∧ (∀ r', r' ≤ r → ∀ mask, inB mask 64 = true → m.1 44 (8 - r') mask.toNatClampNeg = nI (bfR (Am v nb nw n) (Vm v nb nw n) r' mask)) ∧ FrP ScrC m0 m
theorem fill0 {v : Nat → Int32} {nb nw n : Nat} {m0 m : MM} (h : Smt v nb nw n m0 8 m) : Ok (loopF 1000 (fX6_fillBestPairs_b2 0) 0 m) (fun _ m' => Tbl v nb nw n 0 m0 m') := by
  refine Ok.mono (Ok.fold (f := fX6_fillBestPairs_b2 0) 64 (fun s => nI s) () (fun s m' => Smt v nb nw n m0 8 m' ∧ ∀ k, k < s → m'.1 44 8 k = 0) ?_ ?_ (by omega) m ⟨h, fun k hk => by omega⟩) ?_
  · intro s m' hs ⟨⟨s1, s2⟩, s3⟩
    unfold fX6_fillBestPairs_b2
    rw [if_neg (by rw [show (64 : Int32) = nI 64 from rfl, n_le (by omega) (by omega)]; omega), show inB 8 9 = true by decide, cond_true, inB_t hs (by omega), cond_true, n_cl (show s < 2147483648 by omega), show (8 : Int32).toNatClampNeg = 8 from rfl]
    refine Ok.ret ⟨by rw [n_s], ⟨fun j w hj hw => ?_, FrP.up (m' := m') s2 (by unfold ScrC; omega) _⟩, fun k hk => ?_⟩
    · dsimp only
      rw [upI_nn (by omega)]; exact s1 j w hj hw
    · dsimp only
      by_cases q : k = s
      · rw [q, upI_same]
      · rw [upI_nn (by omega)]; exact s3 k (by omega)
  · intro m' _
    unfold fX6_fillBestPairs_b2
    rw [if_pos (show (64 : Int32) ≤ nI 64 by decide)]
  · intro _ m' ⟨_, ⟨s1, s2⟩, s3⟩
    refine ⟨s1, fun r' hr mask hm => ?_, s2⟩
    obtain rfl : r' = 0 := by omega
    rw [s3 _ (inB_ex hm).1]; rfl
theorem fill_row {v : Nat → Int32} {nb nw n r : Nat} {m0 m : MM} (hn : n < 61) (hr : r < 8) (h : Tbl v nb nw n r m0 m) : Ok (loopF 1000 (fX6_fillBestPairs_b33 0 (nI (7 - r))) 0 m) (fun _ m' => Tbl v nb nw n (r + 1) m0 m') := by
  refine Ok.mono (Ok.fold (f := fX6_fillBestPairs_b33 0 (nI (7 - r))) 64 (fun s => nI s) () (fun s m' => Tbl v nb nw n r m0 m' ∧ ∀ k, k < s → m'.1 44 (7 - r) k = nI (bfR (Am v nb nw n) (Vm v nb nw n) (r + 1) (nI k))) ?_ ?_ (by omega) m ⟨h, fun k hk => by omega⟩) ?_
  · intro s m' hs ⟨⟨t1, t2, t3⟩, s3⟩
    have hm := inB_t hs (show 64 ≤ 2147483648 by omega)
    have t2r := t2 r (Nat.le_refl _)
    unfold fX6_fillBestPairs_b33
    rw [if_neg (by rw [show (64 : Int32) = nI 64 from rfl, n_le (by omega) (by omega)]; omega), ← n_s, show 7 - r + 1 = 8 - r by omega, best_e m' (by omega) hm, t2r _ hm]
    simp only [Option.bind_some]
    refine Ok.bind (Ok.fold (f := fX6_fillBestPairs_b51 0 (nI (7 - r)) (nI s)) 6 (fun w => (nI (fnl (chR (okm (Am v nb nw n) (7 - r) (nI s)) (scR (Am v nb nw n) (Vm v nb nw n) r (nI s)) w) (bfR (Am v nb nw n) (Vm v nb nw n) r (nI s))).1, nI w)) (nI (bfR (Am v nb nw n) (Vm v nb nw n) (r + 1) (nI s))) (fun _ m2 => m2 = m') ?_ ?_ (by omega) m' rfl) ?_
    · intro w m2 hw e
      subst e
      unfold fX6_fillBestPairs_b51
      dsimp only
      rw [if_neg (by rw [show (6 : Int32) = nI 6 from rfl, n_le (by omega) (by omega)]; omega), score_e m2 hn hr hw hm (t1 _ _ (by omega) hw) t2r]
      simp only [Option.bind_some]
      refine Ok.ret ⟨?_, rfl⟩
      rw [n_s, fnl_step]
      have hb := bfR_le (Am v nb nw n) (Vm v nb nw n) r (orK (nI s) w)
      have hsc : scR (Am v nb nw n) (Vm v nb nw n) r (nI s) w < 2147483648 := by unfold scR; omega
      have hfn : (fnl (chR (okm (Am v nb nw n) (7 - r) (nI s)) (scR (Am v nb nw n) (Vm v nb nw n) r (nI s)) w) (bfR (Am v nb nw n) (Vm v nb nw n) r (nI s))).1 < 2147483648 := by
        have hz := bfR_le (Am v nb nw n) (Vm v nb nw n) r (nI s)
        have hsp := chR_spec (okm (Am v nb nw n) (7 - r) (nI s)) (scR (Am v nb nw n) (Vm v nb nw n) r (nI s)) w
        cases e : chR (okm (Am v nb nw n) (7 - r) (nI s)) (scR (Am v nb nw n) (Vm v nb nw n) r (nI s)) w with
        | none => show bfR (Am v nb nw n) (Vm v nb nw n) r (nI s) < _; omega
        | some x =>
          rw [e] at hsp
          obtain ⟨i1, i2, i3, i4, i5⟩ := hsp
          have hb' := bfR_le (Am v nb nw n) (Vm v nb nw n) r (orK (nI s) x.2)
          have : x.1 < 2147483648 := by rw [← i3]; unfold scR; omega
          show (if x.1 < bfR (Am v nb nw n) (Vm v nb nw n) r (nI s) then (bfR (Am v nb nw n) (Vm v nb nw n) r (nI s), -1) else (x.1, nI x.2) : Nat × Int32).1 < _
          by_cases d : x.1 < bfR (Am v nb nw n) (Vm v nb nw n) r (nI s)
          · rw [if_pos d]; show bfR (Am v nb nw n) (Vm v nb nw n) r (nI s) < _; omega
          · rw [if_neg d]; exact this
      by_cases o : okm (Am v nb nw n) (7 - r) (nI s) w = true
      · rw [if_pos o, if_pos o, mxI_g _ _ hfn hsc]
      · rw [if_neg o, if_neg o, mxI_m1 _ hfn]
    · intro m2 _
      unfold fX6_fillBestPairs_b51
      rw [if_pos (show (6 : Int32) ≤ nI 6 by decide)]
      rfl
    · intro x m2 ⟨ex, em⟩
      subst ex em
      rw [inB_t (show 7 - r < 9 by omega) (by omega), cond_true, hm, cond_true, n_cl (show 7 - r < 2147483648 by omega), n_cl (show s < 2147483648 by omega)]
      refine Ok.ret ⟨by rw [n_s], ⟨fun i w hi hw => ?_, fun r' hr' mask hmask => ?_, FrP.up (m' := m2) t3 (by unfold ScrC; omega) _⟩, fun k hk => ?_⟩
      · dsimp only
        rw [upI_nn (by omega)]; exact t1 i w hi hw
      · dsimp only
        rw [upI_nn (by omega)]; exact t2 r' hr' mask hmask
      · dsimp only
        by_cases q : k = s
        · rw [q, upI_same]
        · rw [upI_nn (by omega)]; exact s3 k (by omega)
  · intro m' _
    unfold fX6_fillBestPairs_b33
    rw [if_pos (show (64 : Int32) ≤ nI 64 by decide)]
  · intro _ m' ⟨_, ⟨t1, t2, t3⟩, s3⟩
    refine ⟨t1, fun r' hr' mask hm => ?_, t3⟩
    by_cases q : r' = r + 1
    · obtain ⟨a, b⟩ := inB_ex hm
      rw [q, show 8 - (r + 1) = 7 - r by omega, s3 _ a, ← b]
    · exact t2 r' (by omega) mask hm
theorem fillB {v : Nat → Int32} {nb nw n : Nat} {m0 m : MM} (hn : n < 61) (h : Smt v nb nw n m0 8 m) : Ok (fX6_fillBestPairs 0 m) (fun _ m' => Tbl v nb nw n 8 m0 m') := by
  rw [fX6_fillBestPairs_eq]; unfold fX6_fillBestPairs_b
  refine (fill0 h).bind ?_
  intro _ m1 h1
  have e0 : (7 : Int32) = if (0 : Nat) < 8 then nI (7 - 0) else -1 := rfl
  rw [e0]
  refine Ok.bind (Ok.fold (f := fX6_fillBestPairs_b27 0) 8 (fun r => if r < 8 then nI (7 - r) else -1) () (fun r m' => Tbl v nb nw n r m0 m') ?_ ?_ (by omega) m1 h1) (fun _ m' ⟨_, h'⟩ => Ok.ret h')
  · intro r m' hr hT
    unfold fX6_fillBestPairs_b27
    rw [if_pos hr, if_neg (by rw [show (0 : Int32) = nI 0 from rfl, n_lt (by omega) (by omega)]; omega)]
    refine (fill_row hn hr hT).bind ?_
    intro _ m2 h2
    refine Ok.ret ⟨?_, h2⟩
    by_cases q : r + 1 < 8
    · rw [if_pos q, show 7 - r = (7 - (r + 1)) + 1 by omega, n_s, Int32.add_assoc, show (1 : Int32) + -1 = 0 by decide, Int32.add_zero]
    · rw [if_neg q, show 7 - r = 0 by omega]; rfl
  · intro m' _
    unfold fX6_fillBestPairs_b27
    rw [if_neg (show ¬ (8 : Nat) < 8 by omega), if_pos (by decide)]
