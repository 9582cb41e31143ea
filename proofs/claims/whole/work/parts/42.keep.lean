/-! PURE: the state as one row of numbers; keeping it and laying it back -/
def Lv (v : Nat → Int32) (m : MM) : Prop :=
  (∀ c, c < 30 → v c = m.1 50 0 c) ∧ (∀ b, b < 9 → v (30 + b) = m.1 52 0 b ∧ v (39 + b) = m.1 53 0 b ∧ v (48 + b) = m.1 54 0 b ∧ v (57 + b) = m.1 55 0 b ∧ v (66 + b) = m.1 56 0 b) ∧ (∀ k, k < 18 → v (75 + k) = m.1 57 0 k) ∧
  v 93 = m.1 7 0 0 ∧ v 94 = m.1 51 0 0 ∧ v 95 = m.1 51 0 1 ∧ v 96 = m.1 7 0 3 ∧ v 97 = m.1 7 0 4 ∧ v 98 = m.1 7 0 10 ∧ v 99 = m.1 7 0 12
def Dto (a : Nat) : Nat → Nat → Nat → Prop := fun c i k => c = 62 ∧ i = a
def Dlv : Nat → Nat → Nat → Prop := fun c i k => i = 0 ∧ ((c = 50 ∧ k < 30) ∨ (52 ≤ c ∧ c ≤ 56 ∧ k < 9) ∨ (c = 57 ∧ k < 18) ∨ (c = 7 ∧ (k = 0 ∨ k = 3 ∨ k = 4 ∨ k = 10 ∨ k = 12)) ∨ (c = 51 ∧ k < 2))
theorem c_n (n : Nat) (h : n < 2147483648) : (no_index (OfNat.ofNat n) : Int32).toNatClampNeg = n := n_cl h
theorem keep_1 (a : Nat) (m : MM) : Ok (loopF 1000 (fX7_keep_b2 0 a) 0 m) (fun _ m' => (∀ c, c < 30 → m'.1 62 a c = m.1 50 0 c) ∧ FrP (fun c i k => c = 62 ∧ i = a ∧ k < 30) m m') := by
  refine Ok.count 0 30 (fun i s m' => s = nI i ∧ (∀ c, c < i → m'.1 62 a c = m.1 50 0 c) ∧ FrP (fun c j k => c = 62 ∧ j = a ∧ k < i) m m') ?_ ?_ (by omega) 1000 (by omega) 0 m ⟨rfl, fun b h => by omega, FrP.rfl⟩
  · intro i s m' _ hi ⟨es, e1, e2⟩
    subst es
    unfold fX7_keep_b2
    rw [if_neg (by rw [show (30 : Int32) = nI 30 from rfl, n_le (by omega) (by omega)]; omega), inB_t hi (by omega), inB_t (show i < 102 by omega) (by omega), n_cl (by omega)]
    refine Ok.ret ⟨(n_s i).symm, ?_, ?_⟩
    · intro c hc
      by_cases e : c = i
      · subst e; simp only [upI_same, upI_k, upI_c, ne_eq, not_false_eq_true, reduceCtorEq, Nat.reduceEqDiff, Nat.zero_ne_one, Nat.one_ne_zero, and_self]; exact e2.1 50 0 c (by omega)
      · simp only [upI_same, upI_k, upI_c, ne_eq, not_false_eq_true, reduceCtorEq, Nat.reduceEqDiff, Nat.zero_ne_one, Nat.one_ne_zero, and_self, e]; exact e1 c (by omega)
    · exact FrP.up (e2.mono (by omega)) (by omega) _
  · intro s m' ⟨es, e1, e2⟩
    unfold fX7_keep_b2
    rw [es, if_pos (by rw [show (30 : Int32) = nI 30 from rfl, n_le (by omega) (by omega)]; omega)]
    exact Ok.ret ⟨e1, e2⟩
theorem n_lita (a b : Nat) : (no_index (OfNat.ofNat a) : Int32) + nI b = nI (a + b) := (n_add a b).symm
theorem keep_2 (a : Nat) (m : MM) : Ok (loopF 1000 (fX7_keep_b25 0 a) 0 m) (fun _ m' => (∀ b, b < 9 → m'.1 62 a (30 + b) = m.1 52 0 b ∧ m'.1 62 a (39 + b) = m.1 53 0 b ∧ m'.1 62 a (48 + b) = m.1 54 0 b ∧ m'.1 62 a (57 + b) = m.1 55 0 b ∧ m'.1 62 a (66 + b) = m.1 56 0 b) ∧ FrP (fun c i k => c = 62 ∧ i = a ∧ 30 ≤ k ∧ k < 75) m m') := by
  refine Ok.count 0 9 (fun i s m' => s = nI i ∧ (∀ b, b < i → m'.1 62 a (30 + b) = m.1 52 0 b ∧ m'.1 62 a (39 + b) = m.1 53 0 b ∧ m'.1 62 a (48 + b) = m.1 54 0 b ∧ m'.1 62 a (57 + b) = m.1 55 0 b ∧ m'.1 62 a (66 + b) = m.1 56 0 b) ∧ FrP (fun c j k => c = 62 ∧ j = a ∧ 30 ≤ k ∧ k < 75) m m') ?_ ?_ (by omega) 1000 (by omega) 0 m ⟨rfl, fun b h => by omega, FrP.rfl⟩
  · intro i s m' _ hi ⟨es, e1, e2⟩
    subst es
    unfold fX7_keep_b25
    have i30 : (30 : Int32) + nI i = nI (30 + i) := (n_add 30 i).symm
    have i39 : (39 : Int32) + nI i = nI (39 + i) := (n_add 39 i).symm
    have i48 : (48 : Int32) + nI i = nI (48 + i) := (n_add 48 i).symm
    have i57 : (57 : Int32) + nI i = nI (57 + i) := (n_add 57 i).symm
    have i66 : (66 : Int32) + nI i = nI (66 + i) := (n_add 66 i).symm
    rw [if_neg (by rw [show (9 : Int32) = nI 9 from rfl, n_le (by omega) (by omega)]; omega)]
    rw [i30, i39, i48, i57, i66, inB_t hi (by omega), inB_t (show 30 + i < 102 by omega) (by omega), inB_t (show 39 + i < 102 by omega) (by omega), inB_t (show 48 + i < 102 by omega) (by omega), inB_t (show 57 + i < 102 by omega) (by omega), inB_t (show 66 + i < 102 by omega) (by omega), n_cl (show i < 2147483648 by omega), n_cl (show 30 + i < 2147483648 by omega), n_cl (show 39 + i < 2147483648 by omega), n_cl (show 48 + i < 2147483648 by omega), n_cl (show 57 + i < 2147483648 by omega), n_cl (show 66 + i < 2147483648 by omega)]
    simp only [cond_true, upI_same, upI_k, upI_c, ne_eq, not_false_eq_true, reduceCtorEq, Nat.reduceEqDiff, Nat.zero_ne_one, Nat.one_ne_zero, and_self]
    refine Ok.ret ⟨(n_s i).symm, ?_, ?_⟩
    · intro b hb
      have q : ∀ c, 52 ≤ c → c ≤ 56 → m'.1 c 0 i = m.1 c 0 i := fun c _ _ => e2.1 c 0 i (by omega)
      dsimp only
      by_cases e : b = i
      · subst e
        refine ⟨?_, ?_, ?_, ?_, ?_⟩
        · rw [upI_nn (by omega), upI_nn (by omega), upI_nn (by omega), upI_nn (by omega), upI_same]; exact q 52 (by omega) (by omega)
        · rw [upI_nn (by omega), upI_nn (by omega), upI_nn (by omega), upI_same]; exact q 53 (by omega) (by omega)
        · rw [upI_nn (by omega), upI_nn (by omega), upI_same]; exact q 54 (by omega) (by omega)
        · rw [upI_nn (by omega), upI_same]; exact q 55 (by omega) (by omega)
        · rw [upI_same]; exact q 56 (by omega) (by omega)
      · obtain ⟨f1, f2, f3, f4, f5⟩ := e1 b (by omega)
        refine ⟨?_, ?_, ?_, ?_, ?_⟩
        · rw [upI_nn (by omega), upI_nn (by omega), upI_nn (by omega), upI_nn (by omega), upI_nn (by omega)]; exact f1
        · rw [upI_nn (by omega), upI_nn (by omega), upI_nn (by omega), upI_nn (by omega), upI_nn (by omega)]; exact f2
        · rw [upI_nn (by omega), upI_nn (by omega), upI_nn (by omega), upI_nn (by omega), upI_nn (by omega)]; exact f3
        · rw [upI_nn (by omega), upI_nn (by omega), upI_nn (by omega), upI_nn (by omega), upI_nn (by omega)]; exact f4
        · rw [upI_nn (by omega), upI_nn (by omega), upI_nn (by omega), upI_nn (by omega), upI_nn (by omega)]; exact f5
    · exact FrP.up (FrP.up (FrP.up (FrP.up (FrP.up e2 (by omega) _) (by omega) _) (by omega) _) (by omega) _) (by omega) _
  · intro s m' ⟨es, e1, e2⟩
    unfold fX7_keep_b25
    rw [es, if_pos (by rw [show (9 : Int32) = nI 9 from rfl, n_le (by omega) (by omega)]; omega)]
    exact Ok.ret ⟨e1, e2⟩
theorem keep_3 (a : Nat) (m : MM) : Ok (loopF 1000 (fX7_keep_b99 0 a) 0 m) (fun _ m' => (∀ c, c < 18 → m'.1 62 a (75 + c) = m.1 57 0 c) ∧ FrP (fun c i k => c = 62 ∧ i = a ∧ 75 ≤ k ∧ k < 93) m m') := by
  refine Ok.count 0 18 (fun i s m' => s = nI i ∧ (∀ c, c < i → m'.1 62 a (75 + c) = m.1 57 0 c) ∧ FrP (fun c j k => c = 62 ∧ j = a ∧ 75 ≤ k ∧ k < 93) m m') ?_ ?_ (by omega) 1000 (by omega) 0 m ⟨rfl, fun b h => by omega, FrP.rfl⟩
  · intro i s m' _ hi ⟨es, e1, e2⟩
    subst es
    unfold fX7_keep_b99
    have i75 : (75 : Int32) + nI i = nI (75 + i) := (n_add 75 i).symm
    rw [i75, if_neg (by rw [show (18 : Int32) = nI 18 from rfl, n_le (by omega) (by omega)]; omega), inB_t hi (by omega), inB_t (show 75 + i < 102 by omega) (by omega), n_cl (show i < 2147483648 by omega), n_cl (by omega)]
    refine Ok.ret ⟨(n_s i).symm, ?_, ?_⟩
    · intro c hc
      dsimp only
      by_cases e : c = i
      · subst e; rw [upI_same]; exact e2.1 57 0 c (by omega)
      · rw [upI_nn (by omega)]; exact e1 c (by omega)
    · exact FrP.up e2 (by omega) _
  · intro s m' ⟨es, e1, e2⟩
    unfold fX7_keep_b99
    rw [es, if_pos (by rw [show (18 : Int32) = nI 18 from rfl, n_le (by omega) (by omega)]; omega)]
    exact Ok.ret ⟨e1, e2⟩
theorem keep_ok (a : Nat) (m : MM) : Ok (fX7_keep 0 a m) (fun _ m' => Lv (m'.1 62 a) m ∧ FrP (Dto a) m m') := by
  rw [fX7_keep_eq]; unfold fX7_keep_b
  refine (keep_1 a m).bind ?_
  intro _ m1 ⟨p1, p2⟩
  refine (keep_2 a m1).bind ?_
  intro _ m2 ⟨q1, q2⟩
  refine (keep_3 a m2).bind ?_
  intro _ m3 ⟨r1, r2⟩
  dsimp only
  have f3 : FrP (Dto a) m m3 := (p2.mono (by unfold Dto; omega)).trans ((q2.mono (by unfold Dto; omega)).trans (r2.mono (by unfold Dto; omega)))
  have b : inB 93 102 = true ∧ inB 0 2 = true ∧ inB 94 102 = true ∧ inB 1 2 = true ∧ inB 95 102 = true ∧ inB 96 102 = true ∧ inB 97 102 = true ∧ inB 98 102 = true ∧ inB 99 102 = true := by decide
  have c0 : (0 : Int32).toNatClampNeg = 0 := rfl
  have c1 : (1 : Int32).toNatClampNeg = 1 := rfl
  have c93 : (93 : Int32).toNatClampNeg = 93 := rfl
  have c94 : (94 : Int32).toNatClampNeg = 94 := rfl
  have c95 : (95 : Int32).toNatClampNeg = 95 := rfl
  have c96 : (96 : Int32).toNatClampNeg = 96 := rfl
  have c97 : (97 : Int32).toNatClampNeg = 97 := rfl
  have c98 : (98 : Int32).toNatClampNeg = 98 := rfl
  have c99 : (99 : Int32).toNatClampNeg = 99 := rfl
  simp only [b, cond_true, c0, c1, c93, c94, c95, c96, c97, c98, c99, upI_same, upI_k, upI_c, ne_eq, not_false_eq_true, reduceCtorEq, Nat.reduceEqDiff, Nat.zero_ne_one, Nat.one_ne_zero, and_self]
  refine Ok.ret ⟨⟨?_, ?_, ?_, ?_⟩, ?_⟩
  · intro c hc
    dsimp only
    repeat rw [upI_nn (by omega)]
    rw [r2.1 62 a c (by omega), q2.1 62 a c (by omega)]; exact p1 c hc
  · intro b hb
    dsimp only
    have g : ∀ k, 30 ≤ k → k < 75 → m3.1 62 a k = m2.1 62 a k := fun k h1 h2 => r2.1 62 a k (by omega)
    have h : ∀ c, 52 ≤ c → c ≤ 56 → m1.1 c 0 b = m.1 c 0 b := fun c h1 h2 => p2.1 c 0 b (by omega)
    obtain ⟨f1, f2, f3, f4, f5⟩ := q1 b hb
    refine ⟨?_, ?_, ?_, ?_, ?_⟩
    · repeat rw [upI_nn (by omega)]
      rw [g _ (by omega) (by omega), f1, h 52 (by omega) (by omega)]
    · repeat rw [upI_nn (by omega)]
      rw [g _ (by omega) (by omega), f2, h 53 (by omega) (by omega)]
    · repeat rw [upI_nn (by omega)]
      rw [g _ (by omega) (by omega), f3, h 54 (by omega) (by omega)]
    · repeat rw [upI_nn (by omega)]
      rw [g _ (by omega) (by omega), f4, h 55 (by omega) (by omega)]
    · repeat rw [upI_nn (by omega)]
      rw [g _ (by omega) (by omega), f5, h 56 (by omega) (by omega)]
  · intro k hk
    dsimp only
    repeat rw [upI_nn (by omega)]
    rw [r1 k hk, q2.1 57 0 k (by omega), p2.1 57 0 k (by omega)]
  · simp only [upI_same, upI_k, upI_c, ne_eq, not_false_eq_true, reduceCtorEq, Nat.reduceEqDiff, Nat.zero_ne_one, Nat.one_ne_zero, and_self]
    refine ⟨f3.1 7 0 0 (by unfold Dto; omega), f3.1 51 0 0 (by unfold Dto; omega), f3.1 51 0 1 (by unfold Dto; omega), f3.1 7 0 3 (by unfold Dto; omega), f3.1 7 0 4 (by unfold Dto; omega), f3.1 7 0 10 (by unfold Dto; omega), f3.1 7 0 12 (by unfold Dto; omega)⟩
  · have d : ∀ k, Dto a 62 a k := fun k => ⟨rfl, rfl⟩
    exact FrP.up (FrP.up (FrP.up (FrP.up (FrP.up (FrP.up (FrP.up f3 (d _) _) (d _) _) (d _) _) (d _) _) (d _) _) (d _) _) (d _) _
theorem again_1 (a : Nat) (m : MM) : Ok (loopF 1000 (fX7_again_b2 0 a) 0 m) (fun _ m' => (∀ c, c < 30 → m'.1 50 0 c = m.1 62 a c) ∧ FrP (fun c i k => c = 50 ∧ i = 0 ∧ k < 30) m m') := by
  refine Ok.count 0 30 (fun i s m' => s = nI i ∧ (∀ c, c < i → m'.1 50 0 c = m.1 62 a c) ∧ FrP (fun c j k => c = 50 ∧ j = 0 ∧ k < 30) m m') ?_ ?_ (by omega) 1000 (by omega) 0 m ⟨rfl, fun b h => by omega, FrP.rfl⟩
  · intro i s m' _ hi ⟨es, e1, e2⟩
    subst es
    unfold fX7_again_b2
    rw [if_neg (by rw [show (30 : Int32) = nI 30 from rfl, n_le (by omega) (by omega)]; omega), inB_t hi (by omega), inB_t (show i < 102 by omega) (by omega), n_cl (by omega)]
    refine Ok.ret ⟨(n_s i).symm, ?_, ?_⟩
    · intro c hc
      by_cases e : c = i
      · subst e; simp only [upI_same, upI_k, upI_c, ne_eq, not_false_eq_true, reduceCtorEq, Nat.reduceEqDiff, Nat.zero_ne_one, Nat.one_ne_zero, and_self]; exact e2.1 62 a c (by omega)
      · simp only [upI_same, upI_k, upI_c, ne_eq, not_false_eq_true, reduceCtorEq, Nat.reduceEqDiff, Nat.zero_ne_one, Nat.one_ne_zero, and_self, e]; exact e1 c (by omega)
    · exact FrP.up e2 (by omega) _
  · intro s m' ⟨es, e1, e2⟩
    unfold fX7_again_b2
    rw [es, if_pos (by rw [show (30 : Int32) = nI 30 from rfl, n_le (by omega) (by omega)]; omega)]
    exact Ok.ret ⟨e1, e2⟩
theorem again_2 (a : Nat) (m : MM) : Ok (loopF 1000 (fX7_again_b25 0 a) 0 m) (fun _ m' => (∀ b, b < 9 → m'.1 52 0 b = m.1 62 a (30 + b) ∧ m'.1 53 0 b = m.1 62 a (39 + b) ∧ m'.1 54 0 b = m.1 62 a (48 + b) ∧ m'.1 55 0 b = m.1 62 a (57 + b) ∧ m'.1 56 0 b = m.1 62 a (66 + b)) ∧ FrP (fun c i k => 52 ≤ c ∧ c ≤ 56 ∧ i = 0 ∧ k < 9) m m') := by
  refine Ok.count 0 9 (fun i s m' => s = nI i ∧ (∀ b, b < i → m'.1 52 0 b = m.1 62 a (30 + b) ∧ m'.1 53 0 b = m.1 62 a (39 + b) ∧ m'.1 54 0 b = m.1 62 a (48 + b) ∧ m'.1 55 0 b = m.1 62 a (57 + b) ∧ m'.1 56 0 b = m.1 62 a (66 + b)) ∧ FrP (fun c j k => 52 ≤ c ∧ c ≤ 56 ∧ j = 0 ∧ k < 9) m m') ?_ ?_ (by omega) 1000 (by omega) 0 m ⟨rfl, fun b h => by omega, FrP.rfl⟩
  · intro i s m' _ hi ⟨es, e1, e2⟩
    subst es
    unfold fX7_again_b25
    have i30 : (30 : Int32) + nI i = nI (30 + i) := (n_add 30 i).symm
    have i39 : (39 : Int32) + nI i = nI (39 + i) := (n_add 39 i).symm
    have i48 : (48 : Int32) + nI i = nI (48 + i) := (n_add 48 i).symm
    have i57 : (57 : Int32) + nI i = nI (57 + i) := (n_add 57 i).symm
    have i66 : (66 : Int32) + nI i = nI (66 + i) := (n_add 66 i).symm
    rw [if_neg (by rw [show (9 : Int32) = nI 9 from rfl, n_le (by omega) (by omega)]; omega)]
    rw [i30, i39, i48, i57, i66, inB_t hi (by omega), inB_t (show 30 + i < 102 by omega) (by omega), inB_t (show 39 + i < 102 by omega) (by omega), inB_t (show 48 + i < 102 by omega) (by omega), inB_t (show 57 + i < 102 by omega) (by omega), inB_t (show 66 + i < 102 by omega) (by omega), n_cl (show i < 2147483648 by omega), n_cl (show 30 + i < 2147483648 by omega), n_cl (show 39 + i < 2147483648 by omega), n_cl (show 48 + i < 2147483648 by omega), n_cl (show 57 + i < 2147483648 by omega), n_cl (show 66 + i < 2147483648 by omega)]
    simp only [cond_true, upI_same, upI_k, upI_c, ne_eq, not_false_eq_true, reduceCtorEq, Nat.reduceEqDiff, Nat.zero_ne_one, Nat.one_ne_zero, and_self]
    refine Ok.ret ⟨(n_s i).symm, ?_, ?_⟩
    · intro b hb
      have q : ∀ k, m'.1 62 a k = m.1 62 a k := fun k => e2.1 62 a k (by omega)
      simp only [q]
      by_cases e : b = i
      · subst e
        simp only [upI_same, upI_k, upI_c, ne_eq, not_false_eq_true, reduceCtorEq, Nat.reduceEqDiff, Nat.zero_ne_one, Nat.one_ne_zero, and_self]
      · obtain ⟨f1, f2, f3, f4, f5⟩ := e1 b (by omega)
        simp only [upI_same, upI_k, upI_c, ne_eq, not_false_eq_true, reduceCtorEq, Nat.reduceEqDiff, Nat.zero_ne_one, Nat.one_ne_zero, and_self, e, f1, f2, f3, f4, f5]
    · exact FrP.up (FrP.up (FrP.up (FrP.up (FrP.up e2 (by omega) _) (by omega) _) (by omega) _) (by omega) _) (by omega) _
  · intro s m' ⟨es, e1, e2⟩
    unfold fX7_again_b25
    rw [es, if_pos (by rw [show (9 : Int32) = nI 9 from rfl, n_le (by omega) (by omega)]; omega)]
    exact Ok.ret ⟨e1, e2⟩
theorem again_3 (a : Nat) (m : MM) : Ok (loopF 1000 (fX7_again_b99 0 a) 0 m) (fun _ m' => (∀ c, c < 18 → m'.1 57 0 c = m.1 62 a (75 + c)) ∧ FrP (fun c i k => c = 57 ∧ i = 0 ∧ k < 18) m m') := by
  refine Ok.count 0 18 (fun i s m' => s = nI i ∧ (∀ c, c < i → m'.1 57 0 c = m.1 62 a (75 + c)) ∧ FrP (fun c j k => c = 57 ∧ j = 0 ∧ k < 18) m m') ?_ ?_ (by omega) 1000 (by omega) 0 m ⟨rfl, fun b h => by omega, FrP.rfl⟩
  · intro i s m' _ hi ⟨es, e1, e2⟩
    subst es
    unfold fX7_again_b99
    have i75 : (75 : Int32) + nI i = nI (75 + i) := (n_add 75 i).symm
    rw [i75, if_neg (by rw [show (18 : Int32) = nI 18 from rfl, n_le (by omega) (by omega)]; omega), inB_t hi (by omega), inB_t (show 75 + i < 102 by omega) (by omega), n_cl (show i < 2147483648 by omega), n_cl (by omega)]
    refine Ok.ret ⟨(n_s i).symm, ?_, ?_⟩
    · intro c hc
      dsimp only
      by_cases e : c = i
      · subst e; rw [upI_same]; exact e2.1 62 a _ (by omega)
      · rw [upI_nn (by omega)]; exact e1 c (by omega)
    · exact FrP.up e2 (by omega) _
  · intro s m' ⟨es, e1, e2⟩
    unfold fX7_again_b99
    rw [es, if_pos (by rw [show (18 : Int32) = nI 18 from rfl, n_le (by omega) (by omega)]; omega)]
    exact Ok.ret ⟨e1, e2⟩
theorem again_ok (a : Nat) (m : MM) : Ok (fX7_again 0 a m) (fun _ m' => Lv (m.1 62 a) m' ∧ FrP Dlv m m') := by
  rw [fX7_again_eq]; unfold fX7_again_b
  refine (again_1 a m).bind ?_
  intro _ m1 ⟨p1, p2⟩
  refine (again_2 a m1).bind ?_
  intro _ m2 ⟨q1, q2⟩
  refine (again_3 a m2).bind ?_
  intro _ m3 ⟨r1, r2⟩
  dsimp only
  have f3 : FrP Dlv m m3 := (p2.mono (by unfold Dlv; omega)).trans ((q2.mono (by unfold Dlv; omega)).trans (r2.mono (by unfold Dlv; omega)))
  have g3 : ∀ k, m3.1 62 a k = m.1 62 a k := fun k => f3.1 62 a k (by unfold Dlv; omega)
  have b : inB 93 102 = true ∧ inB 0 2 = true ∧ inB 94 102 = true ∧ inB 1 2 = true ∧ inB 95 102 = true ∧ inB 96 102 = true ∧ inB 97 102 = true ∧ inB 98 102 = true ∧ inB 99 102 = true := by decide
  have c0 : (0 : Int32).toNatClampNeg = 0 := rfl
  have c1 : (1 : Int32).toNatClampNeg = 1 := rfl
  have c93 : (93 : Int32).toNatClampNeg = 93 := rfl
  have c94 : (94 : Int32).toNatClampNeg = 94 := rfl
  have c95 : (95 : Int32).toNatClampNeg = 95 := rfl
  have c96 : (96 : Int32).toNatClampNeg = 96 := rfl
  have c97 : (97 : Int32).toNatClampNeg = 97 := rfl
  have c98 : (98 : Int32).toNatClampNeg = 98 := rfl
  have c99 : (99 : Int32).toNatClampNeg = 99 := rfl
  simp only [b, cond_true, c0, c1, c93, c94, c95, c96, c97, c98, c99, upI_same, upI_k, upI_c, ne_eq, not_false_eq_true, reduceCtorEq, Nat.reduceEqDiff, Nat.zero_ne_one, Nat.one_ne_zero, and_self]
  have g1 : ∀ k, m1.1 62 a k = m.1 62 a k := fun k => p2.1 62 a k (by omega)
  have g2 : ∀ k, m2.1 62 a k = m.1 62 a k := fun k => (q2.1 62 a k (by omega)).trans (g1 k)
  refine Ok.ret ⟨⟨?_, ?_, ?_, ?_⟩, ?_⟩
  · intro c hc
    simp only [upI_same, upI_k, upI_c, ne_eq, not_false_eq_true, reduceCtorEq, Nat.reduceEqDiff, Nat.zero_ne_one, Nat.one_ne_zero, and_self]
    rw [r2.1 50 0 c (by omega), q2.1 50 0 c (by omega)]; exact (p1 c hc).symm
  · intro b hb
    simp only [upI_same, upI_k, upI_c, ne_eq, not_false_eq_true, reduceCtorEq, Nat.reduceEqDiff, Nat.zero_ne_one, Nat.one_ne_zero, and_self]
    have h : ∀ c, 52 ≤ c → c ≤ 56 → m3.1 c 0 b = m2.1 c 0 b := fun c h1 h2 => r2.1 c 0 b (by omega)
    obtain ⟨f1, f2, f3, f4, f5⟩ := q1 b hb
    rw [h 52 (by omega) (by omega), h 53 (by omega) (by omega), h 54 (by omega) (by omega), h 55 (by omega) (by omega), h 56 (by omega) (by omega), f1, f2, f3, f4, f5]
    simp only [g1, and_self]
  · intro k hk
    simp only [upI_same, upI_k, upI_c, ne_eq, not_false_eq_true, reduceCtorEq, Nat.reduceEqDiff, Nat.zero_ne_one, Nat.one_ne_zero, and_self]
    rw [r1 k hk, g2]
  · simp only [upI_same, upI_k, upI_c, ne_eq, not_false_eq_true, reduceCtorEq, Nat.reduceEqDiff, Nat.zero_ne_one, Nat.one_ne_zero, and_self, g3]
  · exact FrP.up (FrP.up (FrP.up (FrP.up (FrP.up (FrP.up (FrP.up f3 (by unfold Dlv; omega) _) (by unfold Dlv; omega) _) (by unfold Dlv; omega) _) (by unfold Dlv; omega) _) (by unfold Dlv; omega) _) (by unfold Dlv; omega) _) (by unfold Dlv; omega) _
/-- what is laid back is as it was -/
theorem Lv_back {v : Nat → Int32} {m m' : MM} (h : Lv v m) (h' : Lv v m') (f : FrP (fun c i k => Dto 2 c i k ∨ Dlv c i k) m m') : FrP (Dto 2) m m' := by
  refine ⟨fun c i k d => ?_, f.2⟩
  by_cases e : Dlv c i k
  · obtain ⟨a1, a2, a3, a4, a5, a6, a7, a8, a9, a10⟩ := h
    obtain ⟨b1, b2, b3, b4, b5, b6, b7, b8, b9, b10⟩ := h'
    unfold Dlv at e
    obtain ⟨e0, e⟩ := e
    subst e0
    rcases e with ⟨e1, e2⟩ | ⟨e1, e2, e3⟩ | ⟨e1, e2⟩ | ⟨e1, e2⟩ | ⟨e1, e2⟩
    · subst e1; rw [← b1 k e2, a1 k e2]
    · obtain ⟨x1, x2, x3, x4, x5⟩ := a2 k e3
      obtain ⟨y1, y2, y3, y4, y5⟩ := b2 k e3
      have : c = 52 ∨ c = 53 ∨ c = 54 ∨ c = 55 ∨ c = 56 := by omega
      rcases this with h | h | h | h | h
      · rw [h, ← x1, y1]
      · rw [h, ← x2, y2]
      · rw [h, ← x3, y3]
      · rw [h, ← x4, y4]
      · rw [h, ← x5, y5]
    · subst e1; rw [← b3 k e2, a3 k e2]
    · subst e1
      rcases e2 with h | h | h | h | h
      · rw [h, ← a4, b4]
      · rw [h, ← a7, b7]
      · rw [h, ← a8, b8]
      · rw [h, ← a9, b9]
      · rw [h, ← a10, b10]
    · subst e1
      have : k = 0 ∨ k = 1 := by omega
      rcases this with h | h
      · rw [h, ← a5, b5]
      · rw [h, ← a6, b6]
  · exact f.1 c i k (fun h => h.elim d e)
theorem Lv_fr {v : Nat → Int32} {D : Nat → Nat → Nat → Prop} {m m' : MM} (h : Lv v m) (f : FrP D m m') (hd : ∀ c i k, Dlv c i k → ¬ D c i k) : Lv v m' := by
  have g : ∀ c k, Dlv c 0 k → m'.1 c 0 k = m.1 c 0 k := fun c k hk => f.1 c 0 k (hd c 0 k hk)
  obtain ⟨a1, a2, a3, a4, a5, a6, a7, a8, a9, a10⟩ := h
  refine ⟨fun c hc => ?_, fun b hb => ?_, fun k hk => ?_, ?_, ?_, ?_, ?_, ?_, ?_, ?_⟩
  · rw [a1 c hc, g 50 c (by unfold Dlv; omega)]
  · rw [g 52 b (by unfold Dlv; omega), g 53 b (by unfold Dlv; omega), g 54 b (by unfold Dlv; omega), g 55 b (by unfold Dlv; omega), g 56 b (by unfold Dlv; omega)]
    exact a2 b hb
  · rw [a3 k hk, g 57 k (by unfold Dlv; omega)]
  · rw [a4, g 7 0 (by unfold Dlv; omega)]
  · rw [a5, g 51 0 (by unfold Dlv; omega)]
  · rw [a6, g 51 1 (by unfold Dlv; omega)]
  · rw [a7, g 7 3 (by unfold Dlv; omega)]
  · rw [a8, g 7 4 (by unfold Dlv; omega)]
  · rw [a9, g 7 10 (by unfold Dlv; omega)]
  · rw [a10, g 7 12 (by unfold Dlv; omega)]
/-- kept, gone on with, laid back -/
theorem kept_back {α : Type} {v : Nat → Int32} {m m1 m2 : MM} {a : α} {Q : α → MM → Prop} (hL : Lv v m) (k1 : Lv (m1.1 62 2) m) (k2 : FrP (Dto 2) m m1) (f : FrP Dlv m1 m2) (hQ : ∀ m3, FrP (Dto 2) m m3 → Q a m3) : Ok ((fX7_again 0 2 m2).bind fun o => some (a, o.2)) Q := by
  refine (again_ok 2 m2).bind ?_
  intro _ m3 ⟨r1, r2⟩
  refine Ok.ret (hQ m3 ?_)
  have e : m2.1 62 2 = m1.1 62 2 := by funext k; exact f.1 62 2 k (by unfold Dlv; omega)
  rw [e] at r1
  exact Lv_back k1 r1 ((k2.mono (fun c i k h => Or.inl h)).trans ((f.mono (fun c i k h => Or.inr h)).trans (r2.mono (fun c i k h => Or.inr h))))
