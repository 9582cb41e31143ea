/-! PURE: pairs -/
theorem within_m (y : Int32) (m : MM) : fX7_within y (-2) (-1) m = some (decide (y = -2 ∨ y = -1), m) := by
  rw [fX7_within_eq]; unfold fX7_within_b
  have e2 : (-2 : Int32).toInt = -2 := rfl
  have e1 : (-1 : Int32).toInt = -1 := rfl
  by_cases q : y = -2 ∨ y = -1
  · rw [decide_eq_true q]
    rcases q with q | q <;> subst q <;> rfl
  · rw [decide_eq_false q]
    by_cases q1 : y < -2
    · rw [if_pos q1]
    · rw [if_neg q1]
      by_cases q2 : -1 < y
      · rw [if_pos q2]
      · exfalso
        rw [Int32.lt_iff_toInt_lt, e2] at q1
        rw [Int32.lt_iff_toInt_lt, e1] at q2
        have : y.toInt = -2 ∨ y.toInt = -1 := by omega
        rcases this with h | h
        · exact q (Or.inl (Int32.toInt_inj.1 (by rw [h, e2])))
        · exact q (Or.inr (Int32.toInt_inj.1 (by rw [h, e1])))
def Dpr : Nat → Nat → Nat → Prop := fun c i _ => (c = 62 ∧ i = 2) ∨ (c = 65 ∧ i = 0)
def Spr (v : Nat → Int32) (nw : Nat) (m0 : MM) (i : Nat) (m : MM) : Prop := (∀ j w, j < i → w < nw → m.1 65 0 (6 * j + w) = met v j w 60) ∧ FrP Dpr m0 m
theorem fill7_row {v : Nat → Int32} {nb nw nc i : Nat} {m0 m : MM} {a1 a2 : Int32} (hL : Lv v m0) (hF : WF v nb nw nc) (hi : i < nb) (h : Spr v nw m0 i m) : Ok (loopF 1000 (fX7_pairs_b49 0 a1 a2 (nI i)) 0 m) (fun _ m' => Spr v nw m0 (i + 1) m') := by
  have h8 := hF.2.1
  have h6 := hF.2.2.2.1
  refine Ok.mono (Ok.fold (f := fX7_pairs_b49 0 a1 a2 (nI i)) nw (fun w => nI w) () (fun w m' => Spr v nw m0 i m' ∧ ∀ k, k < w → m'.1 65 0 (6 * i + k) = met v i k 60) ?_ ?_ (by omega) m ⟨h, fun k hk => by omega⟩) ?_
  · intro w m' hw ⟨⟨s1, s2⟩, s3⟩
    have hL' : Lv v m' := Lv_fr hL s2 (by unfold Dlv Dpr; omega)
    unfold fX7_pairs_b49
    rw [← hL'.2.2.2.2.2.2.2.2.1, hF.2.2.1, if_neg (by rw [n_le (by omega) (by omega)]; omega)]
    refine (meet7 hL' hF hi hw).bind ?_
    intro r m2 ⟨r1, r2⟩
    have e6 : (6 : Int32) * nI i + nI w = nI (6 * i + w) := by rw [show (6 : Int32) = nI 6 from rfl, ← n_mul, ← n_add]
    dsimp only
    rw [e6, inB_t (show 6 * i + w < 48 by omega) (by omega), cond_true, n_cl (show 6 * i + w < 2147483648 by omega)]
    have f2 : FrP Dpr m0 m2 := s2.trans (r2.mono (by unfold Dto Dpr; omega))
    refine Ok.ret ⟨by rw [n_s], ⟨fun j k hj hk => ?_, FrP.up (m' := m2) f2 (by unfold Dpr; omega) _⟩, fun k hk => ?_⟩
    · dsimp only
      rw [upI_nn (by omega), r2.1 65 0 _ (by unfold Dto; omega)]; exact s1 j k hj hk
    · dsimp only
      by_cases q : k = w
      · rw [q, upI_same, r1]
      · rw [upI_nn (by omega), r2.1 65 0 _ (by unfold Dto; omega)]; exact s3 k (by omega)
  · intro m' ⟨⟨s1, s2⟩, s3⟩
    have hL' : Lv v m' := Lv_fr hL s2 (by unfold Dlv Dpr; omega)
    unfold fX7_pairs_b49
    rw [← hL'.2.2.2.2.2.2.2.2.1, hF.2.2.1, if_pos (by rw [n_le (by omega) (by omega)]; omega)]
  · intro _ m' ⟨_, ⟨s1, s2⟩, s3⟩
    refine ⟨fun j w hj hw => ?_, s2⟩
    by_cases q : j = i
    · rw [q]; exact s3 w hw
    · exact s1 j w (by omega) hw
theorem fill7 {v : Nat → Int32} {nb nw nc : Nat} {m : MM} {a1 a2 : Int32} (hL : Lv v m) (hF : WF v nb nw nc) : Ok (loopF 1000 (fX7_pairs_b38 0 a1 a2) 0 m) (fun _ m' => Spr v nw m nb m') := by
  have h8 := hF.2.1
  refine Ok.mono (Ok.fold (f := fX7_pairs_b38 0 a1 a2) nb (fun i => nI i) () (fun i m' => Spr v nw m i m') ?_ ?_ (by omega) m ⟨fun j w hj => by omega, FrP.rfl⟩) (fun _ m' h => h.2)
  · intro i m' hi hS
    have hL' : Lv v m' := Lv_fr hL hS.2 (by unfold Dlv Dpr; omega)
    unfold fX7_pairs_b38
    rw [← hL'.2.2.2.2.2.2.2.1, hF.1, if_neg (by rw [n_le (by omega) (by omega)]; omega)]
    refine (fill7_row hL hF hi hS).bind ?_
    intro _ m2 h2
    exact Ok.ret ⟨by rw [n_s], h2⟩
  · intro m' hS
    have hL' : Lv v m' := Lv_fr hL hS.2 (by unfold Dlv Dpr; omega)
    unfold fX7_pairs_b38
    rw [← hL'.2.2.2.2.2.2.2.1, hF.1, if_pos (by rw [n_le (by omega) (by omega)]; omega)]
theorem pairs7 {v : Nat → Int32} {nb nw nc n : Nat} {m : MM} {x : Int32} (h : Rel0 v nb nw nc m) (hn : n < 61) (hx : x = -2 ∨ x = -1 ∨ inB x nb = true) : Ok (fX7_pairs_j36 0 (nI n) x m) (fun r m' => r = prR v nb nw n x ∧ FrP Scr m m') := by
  have hF := h.1
  have h8 := hF.2.1
  have h6 := hF.2.2.2.1
  unfold fX7_pairs_j36
  refine (fill7 h.2.1 hF).bind ?_
  intro _ m1 ⟨s1, s2⟩
  have hL1 : Lv v m1 := Lv_fr h.2.1 s2 (by unfold Dlv Dpr; omega)
  dsimp only
  have S3 : Stc v nb nw (upI (upI m1.1 7 0 30 (-1)) 7 0 31 0, m1.2) := by
    refine ⟨?_, ?_, fun i w hi hw => ?_⟩
    · dsimp only; rw [upI_nn (by omega), upI_nn (by omega), ← hL1.2.2.2.2.2.2.2.1]; exact hF.1
    · dsimp only; rw [upI_nn (by omega), upI_nn (by omega), ← hL1.2.2.2.2.2.2.2.2.1]; exact hF.2.2.1
    · dsimp only; rw [upI_nn (by omega), upI_nn (by omega)]; exact s1 i w hi hw
  have q30 : (upI (upI m1.1 7 0 30 (-1)) 7 0 31 0) 7 0 30 = -1 := by rw [upI_nn (by omega), upI_same]
  have q31 : (upI (upI m1.1 7 0 30 (-1)) 7 0 31 0) 7 0 31 = 0 := upI_same _ _ _ _ _
  have R3 : Rok (upI (upI m1.1 7 0 30 (-1)) 7 0 31 0, m1.2) := Or.inl ⟨q30, q31⟩
  have rs3 : rs (upI (upI m1.1 7 0 30 (-1)) 7 0 31 0, m1.2) = -1000 := by
    unfold rs; dsimp only; rw [q30, q31]; rfl
  have f3 : FrP Scr m (upI (upI m1.1 7 0 30 (-1)) 7 0 31 0, m1.2) := FrP.up (m' := (upI m1.1 7 0 30 (-1), m1.2)) (FrP.up (m' := m1) (s2.mono (by unfold Dpr Scr; omega)) (by unfold Scr; omega) _) (by unfold Scr; omega) _
  generalize (upI (upI m1.1 7 0 30 (-1)) 7 0 31 0, m1.2) = m3 at *
  have T := tries_ok h8 h6 hn nb 10 0 0 0 0 m3 (by omega) (by omega) (by decide) (by omega) (by omega) S3 R3
  rw [← fX7_tries_eq] at T
  refine Ok.bind (f := fun o7 => if ¬ x = (-2) then if ¬ x = (-1) then bif inB x 8 then some ((o7.2.1 67 0 x.toNatClampNeg), o7.2) else none else some ((o7.2.1 7 0 31), o7.2) else some ((o7.2.1 7 0 30), o7.2)) T ?_
  intro _ m4 ⟨t1, t2, t3⟩
  have f4 : FrP Scr m m4 := f3.trans (t3.mono (by unfold Dtr Scr; omega))
  have hbf := bfR_le (Am v nb nw n) (Vm v nb nw n) 8 0
  rcases t1 with ⟨u1, u2, u3, u4⟩ | ⟨u1, _⟩
  · rw [show 8 - 0 = 8 from rfl] at u2
    rcases t2 with ⟨w1, w2⟩ | ⟨c, d, w1, w2, w3, w4⟩
    · exfalso
      unfold rs at u2
      rw [w1, w2, show (-1 : Int32).toInt = -1 from rfl, show (0 : Int32).toInt = 0 from rfl] at u2
      omega
    · rw [rs_of w3 w4 (by omega) (by omega)] at u2
      dsimp only
      unfold prR
      by_cases q2 : x = -2
      · rw [if_neg (fun h => h q2), if_pos q2]
        refine Ok.ret ⟨?_, f4⟩
        rw [w3]
        exact congrArg nI (by omega)
      · rw [if_pos q2, if_neg q2]
        by_cases q1 : x = -1
        · rw [if_neg (fun h => h q1), if_pos q1]
          refine Ok.ret ⟨?_, f4⟩
          rw [w4]
          exact congrArg nI (by omega)
        · rw [if_pos q1, if_neg q1]
          have hb : inB x nb = true := by
            rcases hx with h | h | h
            · exact absurd h q2
            · exact absurd h q1
            · exact h
          obtain ⟨a, b⟩ := inB_ex hb
          rw [inB_mono hb h8, cond_true]
          refine Ok.ret ⟨?_, f4⟩
          have := u4 x.toNatClampNeg (by omega)
          rw [Nat.zero_add] at this
          exact this
  · exfalso
    rw [rs3] at u1
    omega
theorem c6_pairs {v : Nat → Int32} {nb nw nc : Nat} {m : MM} (h : Rlt v nb nw nc m) (x y : Int32) : fX6_pairs 0 x y m = fX6_pairs_j27 0 x y (if y = -2 ∨ y = -1 ∨ inB y nb = true then 1 else 0) m := by
  rw [fX6_pairs_eq]; unfold fX6_pairs_b fX6_pairs_j22
  by_cases q1 : y = -2
  · rw [if_pos q1, if_pos (Or.inl q1)]
  · rw [if_neg q1]
    by_cases q2 : y = -1
    · rw [if_pos q2, if_pos (Or.inr (Or.inl q2))]
    · rw [if_neg q2, e5_bottleAt h.1]
      by_cases q3 : inB y nb = true
      · rw [if_pos q3, if_pos (Or.inr (Or.inr q3))]
        rfl
      · rw [if_neg q3, if_neg (fun h => h.elim q1 (fun h => h.elim q2 q3))]
        rfl
theorem op_pairs {v : Nat → Int32} {nb nw nc : Nat} {m : MM} (h : Rlt v nb nw nc m) (x y : Int32) : Eq2 (fX6_pairs 0 x y) (fX7_pairs 0 x y) m := by
  have wx : ∀ m, fX7_within x 1 60 m = some (decide (inB x 61 = true ∧ 1 ≤ x.toNatClampNeg), m) := fun m => within_lo 1 60 (by omega) (by omega) m
  have wx6 : ∀ m, fX6_within x 1 60 m = some (decide (inB x 61 = true ∧ 1 ≤ x.toNatClampNeg), m) := fun m => by rw [e6_w7]; exact wx m
  have h8 := h.1.nb.2.1
  cases g2 : decide (inB x 61 = true ∧ 1 ≤ x.toNatClampNeg)
  · refine Eq2.bad h ?_ ?_
    · rw [c6_pairs h]; unfold fX6_pairs_j27
      rw [wx6, g2]
      simp only [Option.bind_some, bI_0, if_true, bind_eta]
    · intro m1 h1
      rw [fX7_pairs_eq]; unfold fX7_pairs_b
      rw [wx, g2]
      simp only [Option.bind_some, bI_0, if_true, bind_eta]
  · obtain ⟨ga, gb⟩ := of_decide_eq_true g2
    obtain ⟨hn, e⟩ := inB_ex ga
    by_cases q : y = -2 ∨ y = -1 ∨ inB y nb = true
    · refine Eq2.ask h (prR v nb nw x.toNatClampNeg y) ?_ ?_
      · rw [c6_pairs h, if_pos q]
        have := pairs6 h hn gb q
        rw [← e] at this
        exact this
      · intro m1 h1
        have P := pairs7 h1.1 hn q
        rw [← e] at P
        rw [fX7_pairs_eq]; unfold fX7_pairs_b
        rw [wx, g2]
        simp only [Option.bind_some, bI_0, reduceCtorEq, if_false]
        rw [within_m]
        simp only [Option.bind_some]
        by_cases q1 : y = -2 ∨ y = -1
        · rw [decide_eq_true q1]
          simp only [bI_0, reduceCtorEq, not_false_eq_true, if_true]
          exact P
        · have q3 : inB y nb = true := by
            rcases q with a | a | a
            · exact absurd (Or.inl a) q1
            · exact absurd (Or.inr a) q1
            · exact a
          rw [decide_eq_false q1]
          simp only [bI_0, not_true, if_false]
          rw [e7_isBottle h1.1, q3]
          simp only [Option.bind_some, bI_0, reduceCtorEq, not_false_eq_true, if_true]
          exact P
    · refine Eq2.bad h ?_ ?_
      · rw [c6_pairs h, if_neg q]; unfold fX6_pairs_j27
        rw [wx6, g2]
        simp only [Option.bind_some, bI_0, reduceCtorEq, if_false, not_true, bind_eta]
      · intro m1 h1
        rw [fX7_pairs_eq]; unfold fX7_pairs_b
        rw [wx, g2]
        simp only [Option.bind_some, bI_0, reduceCtorEq, if_false]
        rw [within_m, decide_eq_false (fun h => q (h.imp id Or.inl))]
        simp only [Option.bind_some, bI_0, not_true, if_false]
        have q3 : inB y nb = false := by
          cases hh : inB y nb
          · rfl
          · exact absurd (Or.inr (Or.inr hh)) q
        rw [e7_isBottle h1, q3]
        simp only [Option.bind_some, bI_0, not_true, if_false, bind_eta]
