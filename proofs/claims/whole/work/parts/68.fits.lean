/-! PURE: fits -/
def allB (p : Nat → Bool) : Nat → Bool
  | 0 => true
  | n + 1 => allB p n && p n
theorem allB_f {p : Nat → Bool} {i : Nat} : ∀ n, i < n → p i = false → allB p n = false := by
  intro n
  induction n with
  | zero => intro h; omega
  | succ n ih =>
    intro h hp
    show (allB p n && p n) = false
    by_cases e : i = n
    · rw [← e, hp, Bool.and_false]
    · rw [ih (by omega) hp, Bool.false_and]
theorem lg_lt (x y : Int64) : (lg_cmp x y < 0) = (x < y) := by
  unfold lg_cmp
  apply propext
  by_cases h : x > y
  · rw [if_pos h]
    refine ⟨fun e => absurd e (by decide), fun e => ?_⟩
    have a := Int64.lt_iff_toInt_lt.1 h
    have b := Int64.lt_iff_toInt_lt.1 e
    omega
  · rw [if_neg h]
    by_cases q : x = y
    · rw [if_pos q]
      refine ⟨fun e => absurd e (by decide), fun e => ?_⟩
      have b := Int64.lt_iff_toInt_lt.1 e
      rw [q] at b; omega
    · rw [if_neg q]
      refine ⟨fun _ => ?_, fun _ => by decide⟩
      have a : ¬ y.toInt < x.toInt := fun w => h (Int64.lt_iff_toInt_lt.2 w)
      have b : ¬ x.toInt = y.toInt := fun w => q (Int64.toInt_inj.1 w)
      exact Int64.lt_iff_toInt_lt.2 (by omega)
theorem l0_ti : (0 : Int64).toInt = 0 := rfl
/-- the told start, in the coast -/
def inC (x : Int64) (nc : Nat) : Bool := decide (0 ≤ x.toInt ∧ x.toInt < nc)
theorem inC_ex {x : Int64} {nc : Nat} (hn : nc ≤ 30) (h : inC x nc = true) : ∃ c, c < nc ∧ x.toInt32 = nI c := by
  have h := of_decide_eq_true h
  refine ⟨x.toInt.toNat, by omega, ?_⟩
  rw [← Int32.toInt_inj, n_ti (by omega), Int64.toInt_toInt32]
  rw [Int.bmod_eq_of_le (by omega) (by omega)]
  omega
def okI (v : Nat → Int32) (b : Nat) (told : Nat → Int64) (i : Nat) : Bool := decide (i = 0 ∨ ((simV v b i).2 = 0 ∧ (simV v b i).1.toInt64 = told i))
def goB (v : Nat → Int32) (b nc n : Nat) (kd a : Int32) (told : Nat → Int64) : Bool := inC (told 0) nc && allB (okI (th v b kd a (told 0).toInt32 (-1)) b told) n
theorem nob_how {e : Ev} {nc : Nat} {k a : Int32} {s : CH} (hn : e.2.1 = nI nc) (h2 : 1 ≤ nc) (h3 : nc ≤ 30) (hs : inB s.1 30 = true) (h0 : s.2 = 0) (d : Nat) : inB (simB e k a (fun _ => -1) s d).1 30 = true ∧ ((simB e k a (fun _ => -1) s d).2 = 0 ∨ (simB e k a (fun _ => -1) s d).2 = 2) := by
  induction d with
  | zero => exact ⟨hs, Or.inl h0⟩
  | succ d ih =>
    obtain ⟨i1, i2⟩ := ih
    have e1 : simB e k a (fun _ => -1) s (d + 1) = dft e (dyd e d) k a (simB e k a (fun _ => -1) s d) := spd_m1 hn h2 h3 i1
    rw [e1]
    refine ⟨dft_in hn h2 h3 i1, ?_⟩
    unfold dft
    rcases i2 with q | q
    · rw [if_pos q]
      split
      · exact Or.inl rfl
      · exact Or.inr rfl
    · rw [if_neg (by rw [q]; decide)]; exact Or.inr q
/-- the class's walk along the row, in the trial's world -/
theorem along6 {v' : Nat → Int32} {nb nw nc s sz b n : Nat} {kd a : Int32} {m : MM} (hW : RelW m.1 2 nb nw v') (h93 : v' 93 = nI nc) (h16 : 16 ≤ nc) (h30 : nc ≤ 30) (hb : b < 9) (hs : s < 8) (hk : inB (m.1 1 s 0) 5 = true) (z1 : sz ≤ 40) (z2 : m.1 1 s 1 = nI sz) (hn1 : 1 ≤ n) (hn : n ≤ sz) : Ok (fX6_driftsAlong 0 s (nI n) kd a m) (fun r m' => r = goB v' b nc n kd a (m.2 20 s) ∧ Fr (fun c i => c = 0 ∧ i = 27) m m') := by
  have e52 : m.1 5 2 0 = nI nc := hW.1.trans h93
  rw [fX6_driftsAlong_eq]; unfold fX6_driftsAlong_b goB
  rw [show (0 : Int32) = nI 0 from rfl, e1_take s sz 0 m z2 z1 hk (by omega)]
  simp only [Option.bind_some]
  have n64 : (nI nc).toInt64.toInt = (nc : Int) := by rw [Int32.toInt_toInt64, n_ti (by omega)]
  have c1 : (lg_cmp (m.2 20 s 0) 0 < nI 0) = (m.2 20 s 0 < 0) := lg_lt _ _
  have c2 : (lg_cmp (m.2 20 s 0) (nI nc).toInt64 < nI 0) = (m.2 20 s 0 < (nI nc).toInt64) := lg_lt _ _
  by_cases q1 : m.2 20 s 0 < 0
  · rw [if_pos (by rw [c1]; exact q1)]
    have : inC (m.2 20 s 0) nc = false := by
      refine decide_eq_false (fun h => ?_)
      have := Int64.lt_iff_toInt_lt.1 q1
      rw [l0_ti] at this; omega
    rw [this]
    exact Ok.ret ⟨rfl, Fr.rfl⟩
  · rw [if_neg (by rw [c1]; exact q1), e52]
    have q1' : 0 ≤ (m.2 20 s 0).toInt := by
      by_cases w : (m.2 20 s 0).toInt < 0
      · exact absurd (Int64.lt_iff_toInt_lt.2 (by rw [l0_ti]; exact w)) q1
      · omega
    by_cases q2 : m.2 20 s 0 < (nI nc).toInt64
    · rw [if_pos (by rw [c2]; exact q2)]
      have q2' := Int64.lt_iff_toInt_lt.1 q2
      rw [n64] at q2'
      have hin : inC (m.2 20 s 0) nc = true := decide_eq_true ⟨q1', q2'⟩
      obtain ⟨c, hc, ec⟩ := inC_ex h30 hin
      rw [hin, Bool.true_and, ec, e_start]
      simp only [Option.bind_some]
      have f1 := Fr_start 27 kd a (nI c) (-1) m
      have b1 := BF_th v' b hb kd a (nI c) (-1) m
      generalize hm1 : (upI (upI (upI (upI (upI m.1 0 27 0 kd) 0 27 1 a) 0 27 2 (nI c)) 0 27 3 (-1)) 0 27 4 0, m.2) = m1 at f1
      have b2 : BF m1.1 27 (th v' b kd a (nI c) (-1)) b := by rw [← hm1]; exact b1
      obtain ⟨t1, t2, t3, t4, t5⟩ := th_b v' b hb kd a (nI c) (-1)
      have vE' := vE_th (v := v') hb kd a (nI c) (-1)
      have hE : cE m1 2 = vE v' := by rw [cE_fr f1 2 (by omega) (by omega)]; exact hW.E
      have sim : ∀ d, simV (th v' b kd a (nI c) (-1)) b d = simB (vE v') kd a (fun _ => -1) (nI c, 0) d := by
        intro d
        unfold simV fVv vB
        rw [vE', t1, t2, t4, t5, t3, if_pos rfl]
      have hh := nob_how (e := vE v') (nc := nc) (k := kd) (a := a) (s := (nI c, 0)) h93 (by omega) h30 (inB_t (by omega) (by omega)) rfl
      generalize th v' b kd a (nI c) (-1) = V at *
      obtain ⟨g1, g2, g3, g4, g5⟩ := b2
      refine Ok.bind (P := fun o m' => (match o with | .inl _ => true | .inr _ => false) = allB (okI V b (m.2 20 s)) n ∧ Fr (fun c i => c = 0 ∧ i = 27) m m') ?_ ?_
      · refine Ok.count 1 n (fun i t m' => t = nI i ∧ rB m' 27 = simV V b (i - 1) ∧ m'.1 0 27 0 = kd ∧ m'.1 0 27 1 = a ∧ Fr (fun c i => c = 0 ∧ i = 27) m m' ∧ cE m' 2 = vE v' ∧ m'.1 5 2 2 = (vE v').2.2.2 ∧ allB (okI V b (m.2 20 s)) i = true) ?_ ?_ hn1 1000 (by omega) _ m1 ⟨rfl, ?_, ?_, ?_, f1, hE, congrArg (fun e : Ev => e.2.2.2) hE, rfl⟩
        · intro i t m' hi1 hi2 ⟨a1, a2, a3, a4, a5, a6, a8, a7⟩
          obtain ⟨j, rfl⟩ : ∃ j, i = j + 1 := ⟨i - 1, by omega⟩
          subst a1
          unfold fX6_driftsAlong_b47
          rw [if_neg (by rw [n_le (by omega) (by omega)]; omega), e_dayBehind, n_p1, a8]
          simp only [Option.bind_some]
          rw [e_spend, a2, a3, a4, a6]
          simp only [Option.bind_some]
          have es : spd (vE v') (mnI 999 ((vE v').2.2.2 + nI j)) kd a (-1) (simV V b (j + 1 - 1)) = simV V b (j + 1) := by
            rw [sim, sim]; rfl
          rw [es]
          have f2 : Fr (fun c i => c = 0 ∧ i = 27) m (upB m' 27 (simV V b (j + 1))) := by
            have d : (fun c i => c = 0 ∧ i = 27) 0 27 := ⟨rfl, rfl⟩
            have w := Fr.up a5 d 2 (simV V b (j + 1)).1
            exact Fr.up w d 4 (simV V b (j + 1)).2
          have k1 : (upB m' 27 (simV V b (j + 1))).1 0 27 2 = (simV V b (j + 1)).1 := by unfold upB; simp only [upI_same, upI_k, upI_c, ne_eq, not_false_eq_true, reduceCtorEq, Nat.reduceEqDiff, Nat.zero_ne_one, Nat.one_ne_zero, and_self]
          have k2 : (upB m' 27 (simV V b (j + 1))).1 0 27 4 = (simV V b (j + 1)).2 := by unfold upB; simp only [upI_same, upI_k, upI_c, ne_eq, not_false_eq_true, reduceCtorEq, Nat.reduceEqDiff, Nat.zero_ne_one, Nat.one_ne_zero, and_self]
          have k3 : (upB m' 27 (simV V b (j + 1))).1 0 27 0 = kd := by rw [← a3]; unfold upB; simp only [upI_same, upI_k, upI_c, ne_eq, not_false_eq_true, reduceCtorEq, Nat.reduceEqDiff, Nat.zero_ne_one, Nat.one_ne_zero, and_self]
          have k4 : (upB m' 27 (simV V b (j + 1))).1 0 27 1 = a := by rw [← a4]; unfold upB; simp only [upI_same, upI_k, upI_c, ne_eq, not_false_eq_true, reduceCtorEq, Nat.reduceEqDiff, Nat.zero_ne_one, Nat.one_ne_zero, and_self]
          have k5 : cE (upB m' 27 (simV V b (j + 1))) 2 = vE v' := by
            rw [cE_fr f2 2 (by omega) (by omega)]; exact hW.E
          have k6 : rB (upB m' 27 (simV V b (j + 1))) 27 = simV V b (j + 1) := by unfold rB; rw [k1, k2]
          have k7 : (upB m' 27 (simV V b (j + 1))).1 1 s 0 = m.1 1 s 0 := (f2 1 s (by omega) 0).1
          have k8 : (upB m' 27 (simV V b (j + 1))).1 1 s 1 = nI sz := ((f2 1 s (by omega) 1).1).trans z2
          have k9 : (upB m' 27 (simV V b (j + 1))).2 = m.2 := f2.snd (by omega)
          generalize upB m' 27 (simV V b (j + 1)) = m2 at *
          rw [k1, k2]
          by_cases q : (simV V b (j + 1)).2 = 2
          · rw [if_pos q]
            refine Ok.ret ⟨(allB_f n hi2 (decide_eq_false (fun h => ?_))).symm, f2⟩
            rcases h with h | h
            · omega
            · rw [q] at h; exact absurd h.1 (by decide)
          · rw [if_neg q, e1_take s sz (j + 1) m2 k8 z1 (by rw [k7]; exact hk) (by omega), k9]
            simp only [Option.bind_some, lg_0]
            have q0 : (simV V b (j + 1)).2 = 0 := by
              have := (hh (j + 1)).2
              rw [← sim] at this
              exact this.resolve_right q
            by_cases q3 : (simV V b (j + 1)).1.toInt64 = m.2 20 s (j + 1)
            · rw [if_pos q3]
              refine Ok.ret ⟨(n_s (j + 1)).symm, k6, k3, k4, f2, k5, congrArg (fun e : Ev => e.2.2.2) k5, ?_⟩
              show (allB _ (j + 1) && okI V b (m.2 20 s) (j + 1)) = true
              rw [a7, Bool.true_and]
              exact decide_eq_true (Or.inr ⟨q0, q3⟩)
            · rw [if_neg q3]
              refine Ok.ret ⟨(allB_f n hi2 (decide_eq_false (fun h => ?_))).symm, f2⟩
              rcases h with h | h
              · omega
              · exact q3 h.2
        · intro t m' ⟨a1, a2, a3, a4, a5, a6, a8, a7⟩
          unfold fX6_driftsAlong_b47
          rw [a1, if_pos (by rw [n_le (by omega) (by omega)]; omega)]
          exact Ok.ret ⟨a7.symm, a5⟩
        · rw [sim]
          unfold rB
          rw [g3, g5, t3, t5]; rfl
        · rw [g1, t1]
        · rw [g2, t2]
      · intro o m' ⟨e1, e2⟩
        rcases o with o | o
        · exact Ok.ret ⟨e1, e2⟩
        · exact Ok.ret ⟨e1, e2⟩
    · rw [if_neg (by rw [c2]; exact q2)]
      have : inC (m.2 20 s 0) nc = false := by
        refine decide_eq_false (fun h => ?_)
        exact q2 (Int64.lt_iff_toInt_lt.2 (by rw [n64]; omega))
      rw [this]
      exact Ok.ret ⟨rfl, Fr.rfl⟩
/-- the reference's -/
theorem goes7 {v' : Nat → Int32} {nb nw nc s sz b n : Nat} {told : Nat → Int64} {m : MM} (hL : Lv v' m) (hF : WF v' nb nw nc) (hb : b < nb) (hs : s < 8) (hn1 : 1 ≤ n) (hn : n ≤ sz) (z1 : sz ≤ 40) (ht : ∀ i, i < 40 → m.2 21 0 (40 * s + i) = told i) : Ok (fX7_goesSo 0 (nI s) (nI n) (nI b) m) (fun r m' => r = goB v' b nc n (v' (30 + b)) (v' (39 + b)) told ∧ FrP (Dto 2) m m') := by
  have hnb := hF.2.1
  have hnw := hF.2.2.2.1
  have h16 := hF.2.2.2.2.2.1
  have h30 := hF.2.2.2.2.2.2.1
  rw [fX7_goesSo_eq]; unfold fX7_goesSo_b goB
  refine (keep_ok 2 m).bind ?_
  intro _ m1 ⟨k1, k2⟩
  have hL1 := Lv_to hL k2
  have ht1 : ∀ i, i < 40 → m1.2 21 0 (40 * s + i) = told i := fun i hi => by rw [k2.2]; exact ht i hi
  dsimp only
  rw [show (0 : Int32) = nI 0 from rfl, e7_toldAt s 0 m1 hs (by omega), ht1 0 (by omega)]
  simp only [Option.bind_some]
  have n64 : (nI nc).toInt64.toInt = (nc : Int) := by rw [Int32.toInt_toInt64, n_ti (by omega)]
  have c1 : (lg_cmp (told 0) 0 < nI 0) = (told 0 < 0) := lg_lt _ _
  have c2 : (nI 0 ≤ lg_cmp (told 0) (nI nc).toInt64) = ¬ (told 0 < (nI nc).toInt64) := by
    rw [le_lt]; exact congrArg Not (lg_lt _ _)
  -- outside
  have out : inC (told 0) nc = false → Ok (fX7_goesSo_j38 0 (nI s) (nI n) (nI b) m1) (fun r m' => r = (inC (told 0) nc && allB (okI (th v' b (v' (30 + b)) (v' (39 + b)) (told 0).toInt32 (-1)) b told) n) ∧ FrP (Dto 2) m m') := by
    intro q
    unfold fX7_goesSo_j38 fX7_goesSo_j39 fX7_goesSo_j71
    rw [if_pos rfl, q, Bool.false_and]
    have l : loopF 1000 (fX7_goesSo_b74 0 (nI s) (nI n) (nI b)) (0, 1) m1 = some (0, m1) := by
      refine loop_end (n := 999) ?_
      unfold fX7_goesSo_b74
      by_cases e : nI n ≤ 1
      · rw [if_pos e]
      · rw [if_neg e, if_pos rfl]
    rw [l]
    simp only [Option.bind_some, if_true]
    exact kept_back hL k1 k2 FrP.rfl (fun m3 h3 => ⟨rfl, h3⟩)
  by_cases q1 : told 0 < 0
  · rw [if_pos (by rw [c1]; exact q1)]
    refine out (decide_eq_false (fun h => ?_))
    have := Int64.lt_iff_toInt_lt.1 q1
    rw [l0_ti] at this; omega
  · rw [if_neg (by rw [c1]; exact q1), e7_toldAt s 0 m1 hs (by omega), ht1 0 (by omega)]
    simp only [Option.bind_some]
    rw [hL1.nc hF]
    have q1' : 0 ≤ (told 0).toInt := by
      by_cases w : (told 0).toInt < 0
      · exact absurd (Int64.lt_iff_toInt_lt.2 (by rw [l0_ti]; exact w)) q1
      · omega
    by_cases q2 : told 0 < (nI nc).toInt64
    · rw [if_neg (by rw [c2]; exact fun h => h q2)]
      have q2' := Int64.lt_iff_toInt_lt.1 q2
      rw [n64] at q2'
      have hin : inC (told 0) nc = true := decide_eq_true ⟨q1', q2'⟩
      obtain ⟨c, hc, ec⟩ := inC_ex h30 hin
      unfold fX7_goesSo_j39
      rw [if_neg (by decide), inB_t (show b < 9 by omega) (by omega), n_cl (show b < 2147483648 by omega), show (0 : Int32) = nI 0 from rfl, e7_toldAt s 0 m1 hs (by omega), ht1 0 (by omega)]
      simp only [cond_true, Option.bind_some]
      obtain ⟨d1, d2, _, _, _⟩ := hL1.2.1 b (by omega)
      rw [hin, Bool.true_and, ec, ← d1, ← d2, e7_becomes _ _ _ _ m1 (by omega)]
      simp only [Option.bind_some]
      have hL3 : Lv (th v' b (v' (30 + b)) (v' (39 + b)) (nI c) (-1)) (mB7 m1.1 b (v' (30 + b)) (v' (39 + b)) (nI c) (-1), m1.2) := Lv_mB7 hL1 (by omega)
      have f3 : FrP Dlv m1 (mB7 m1.1 b (v' (30 + b)) (v' (39 + b)) (nI c) (-1), m1.2) := (FrP_B7 b _ _ _ _ m1).mono (by unfold Dlv; omega)
      obtain ⟨_, _, _, t4, _⟩ := th_b v' b (by omega) (v' (30 + b)) (v' (39 + b)) (nI c) (-1)
      have hw := WFm_th (many := nb) (k := v' (30 + b)) (a := v' (39 + b)) (c := nI c) (x := -1) hF (show b < 9 by omega) (Or.inl hnb) (inB_t hc (by omega)) (Or.inl rfl)
      have h97 : th v' b (v' (30 + b)) (v' (39 + b)) (nI c) (-1) 97 = nI nb := by rw [th_o (by omega)]; exact hF.1
      have hx : ∀ i, i < nb → th v' b (v' (30 + b)) (v' (39 + b)) (nI c) (-1) (57 + i) = -1 ∨ inB (th v' b (v' (30 + b)) (v' (39 + b)) (nI c) (-1) (57 + i)) nw = true := by
        intro i hi
        by_cases e : i = b
        · rw [e, t4]; exact Or.inl rfl
        · rw [th_o (by omega)]; exact Or.inr (hF.b hi).2.1
      generalize th v' b (v' (30 + b)) (v' (39 + b)) (nI c) (-1) = V at *
      have m32 : (mB7 m1.1 b (v' (30 + b)) (v' (39 + b)) (nI c) (-1), m1.2).2 = m1.2 := rfl
      generalize (mB7 m1.1 b (v' (30 + b)) (v' (39 + b)) (nI c) (-1), m1.2) = m3 at hL3 f3 m32
      unfold fX7_goesSo_j71
      refine Ok.bind (P := fun r m' => r = (if allB (okI V b told) n = true then 1 else 0) ∧ ∃ i, SimM nb nw nc m3 i m') ?_ ?_
      · refine Ok.loop (fun k t m' => ∃ i, 1 ≤ i ∧ i ≤ n ∧ k = n - i ∧ t.2 = nI i ∧ SimM nb nw nc m3 (i - 1) m' ∧ ((t.1 = 1 ∧ allB (okI V b told) i = true) ∨ (t.1 = 0 ∧ allB (okI V b told) n = false))) ?_ 1000 _ m3 (n - 1) (by omega) ⟨1, by omega, by omega, by omega, rfl, SimM.begin (hL3.mv (by omega) hw), Or.inl ⟨rfl, rfl⟩⟩
        intro k t m' ⟨i, i1, i2, i3, i4, i5, i6⟩
        obtain ⟨t1, t2⟩ := t
        dsimp only at i4 i6
        subst i4
        unfold fX7_goesSo_b74
        dsimp only
        rcases i6 with ⟨a1, a2⟩ | ⟨a1, a2⟩
        · subst a1
          by_cases e : i = n
          · subst e
            rw [if_pos (by rw [n_le (by omega) (by omega)]; omega)]
            exact Ok.ret ⟨by rw [a2, if_pos rfl], _, i5⟩
          · rw [if_neg (by rw [n_le (by omega) (by omega)]; omega), if_neg (by decide)]
            have e7 : m'.1 7 0 4 = nI nb := by
              rw [i5.2.2.2.1.1 7 0 4 (by unfold Dps; omega), ← hL3.2.2.2.2.2.2.2.1]; exact h97
            rw [e7]
            refine (SimM.step (by omega) (by omega) i5).bind ?_
            intro _ m4 ⟨p1, _⟩
            obtain ⟨j, rfl⟩ : ∃ j, i = j + 1 := ⟨i - 1, by omega⟩
            have hs' := p1.B hL3 hw (by omega) hb (hx b hb)
            have c54 : m4.1 54 0 b = (simV V b (j + 1)).1 := hs'.1
            have c56 : m4.1 56 0 b = (simV V b (j + 1)).2 := hs'.2
            have c2' : m4.2 21 0 (40 * s + (j + 1)) = told (j + 1) := by
              rw [p1.2.2.2.1.2, m32]; exact ht1 _ (by omega)
            dsimp only
            rw [inB_t (show b < 9 by omega) (by omega), n_cl (show b < 2147483648 by omega), c56]
            simp only [cond_true]
            have nx : nI (j + 1) + 1 = nI (j + 1 + 1) := (n_s _).symm
            by_cases q : (simV V b (j + 1)).2 = 0
            · rw [if_neg (fun h => h q), e7_toldAt s (j + 1) m4 hs (by omega), c2', c54]
              simp only [Option.bind_some]
              by_cases q3 : (simV V b (j + 1)).1.toInt64 = told (j + 1)
              · rw [if_neg (fun h => h (by rw [lg_0]; exact q3))]
                refine Ok.ret ⟨n - (j + 1 + 1), by omega, j + 1 + 1, by omega, by omega, rfl, nx, p1, Or.inl ⟨rfl, ?_⟩⟩
                show (allB _ (j + 1) && okI V b told (j + 1)) = true
                rw [a2, Bool.true_and]
                exact decide_eq_true (Or.inr ⟨q, q3⟩)
              · rw [if_pos (by rw [lg_0]; exact q3)]
                refine Ok.ret ⟨n - (j + 1 + 1), by omega, j + 1 + 1, by omega, by omega, rfl, nx, p1, Or.inr ⟨rfl, allB_f n (show j + 1 < n by omega) (decide_eq_false (fun h => ?_))⟩⟩
                rcases h with h | h
                · omega
                · exact q3 h.2
            · rw [if_pos q]
              refine Ok.ret ⟨n - (j + 1 + 1), by omega, j + 1 + 1, by omega, by omega, rfl, nx, p1, Or.inr ⟨rfl, allB_f n (show j + 1 < n by omega) (decide_eq_false (fun h => ?_))⟩⟩
              rcases h with h | h
              · omega
              · exact q h.1
        · subst a1
          have res : (0 : Int32) = if allB (okI V b told) n = true then 1 else 0 := by rw [a2, if_neg (by decide)]
          by_cases e : nI n ≤ nI i
          · rw [if_pos e]; exact Ok.ret ⟨res, _, i5⟩
          · rw [if_neg e, if_pos rfl]; exact Ok.ret ⟨res, _, i5⟩
      · intro r m4 ⟨r1, i, r2⟩
        dsimp only
        rw [r1]
        cases q : allB (okI V b told) n
        · simp only [reduceCtorEq, if_false, if_true]
          exact kept_back hL k1 k2 (f3.trans (r2.fr (by omega) hnw)) (fun m5 h5 => ⟨rfl, h5⟩)
        · have n10 : ¬ (1 : Int32) = 0 := by decide
          simp only [n10, if_false, if_true]
          exact kept_back hL k1 k2 (f3.trans (r2.fr (by omega) hnw)) (fun m5 h5 => ⟨rfl, h5⟩)
    · rw [if_pos (by rw [c2]; exact q2)]
      refine out (decide_eq_false (fun h => ?_))
      exact q2 (Int64.lt_iff_toInt_lt.2 (by rw [n64]; omega))
