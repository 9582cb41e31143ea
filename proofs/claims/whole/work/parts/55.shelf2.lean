/-! PURE: shelves, second group -/
theorem Eq2.no' {F G : MM → Option (Int32 × MM)} {m : MM} {v : Nat → Int32} {nb nw nc : Nat} (h : Rlt v nb nw nc m) (c : Int32) (k : Nat) (hk : k < 5) (hc : -1002 - c = nI k) (hc' : -1000 - c = nI (2 + k)) (hF : F m = fX6_refuse 0 c m) (hG : ∀ m1, Rel0 v nb nw nc m1 → FrP (fun c _ _ => c = 47) m m1 → G m1 = fX7_no 0 c m1) : Eq2 F G m := by
  have f1 : FrP (fun c _ _ => c = 47) m (upI m.1 47 0 k (m.1 47 0 k + 1), m.2) := FrP.up (m' := m) FrP.rfl rfl _
  have h1 : Rel0 v nb nw nc (upI m.1 47 0 k (m.1 47 0 k + 1), m.2) := Rel0_frW h.1 (f1.mono (fun c i k h => Or.inr (Or.inl h))) (Lv_fr h.1.2.1 f1 (by unfold Dlv; omega)) (fun _ _ => rfl)
  have key : Eq2 F (fun _ => G (upI m.1 47 0 k (m.1 47 0 k + 1), m.2)) m → Eq2 F G m := by
    intro q
    unfold Eq2 at q ⊢
    rw [hF, e6_refuse c k m hk hc] at q ⊢
    obtain ⟨a, m', e, q⟩ := q
    cases e
    exact Ok.ret q
  refine key ?_
  unfold Eq2
  rw [hF, e6_refuse c k m hk hc]
  refine Ok.ret ?_
  dsimp only
  rw [hG _ h1 f1, e7_no c k _ hk hc']
  refine Ok.ret ?_
  have f2 : FrP (fun c _ _ => c = 47 ∨ c = 61) m (upI (upI m.1 47 0 k (m.1 47 0 k + 1)) 61 0 (2 + k) (upI m.1 47 0 k (m.1 47 0 k + 1) 61 0 (2 + k) + 1), m.2) := FrP.up (D := fun c _ _ => c = 47 ∨ c = 61) (m' := (upI m.1 47 0 k (m.1 47 0 k + 1), m.2)) (f1.mono (fun _ _ _ h => Or.inl h)) (Or.inr rfl) _
  have h2 : Rel0 v nb nw nc (upI (upI m.1 47 0 k (m.1 47 0 k + 1)) 61 0 (2 + k) (upI m.1 47 0 k (m.1 47 0 k + 1) 61 0 (2 + k) + 1), m.2) := Rel0_frW h.1 (f2.mono (fun c i k h => Or.inr h)) (Lv_fr h.1.2.1 f2 (by unfold Dlv; omega)) (fun _ _ => rfl)
  refine ⟨rfl, ⟨v, nb, nw, nc, h2, ?_⟩, ?_⟩
  · intro j hj
    have := h.2 j hj
    dsimp only
    by_cases e : j = k
    · subst e
      simp only [upI_same, upI_k, upI_c, ne_eq, not_false_eq_true, reduceCtorEq, Nat.reduceEqDiff, Nat.zero_ne_one, Nat.one_ne_zero, and_self, this]
    · rw [upI_nn (by omega), upI_nn (by omega), upI_nn (by omega), upI_nn (by omega)]; exact this
  · funext i j
    exact f2.1 33 i j (by omega)
theorem Eq2.bad' {F G : MM → Option (Int32 × MM)} {m : MM} {v : Nat → Int32} {nb nw nc : Nat} (h : Rlt v nb nw nc m) (hF : F m = fX6_refuse 0 (-1002) m) (hG : ∀ m1, Rel0 v nb nw nc m1 → FrP (fun c _ _ => c = 47) m m1 → G m1 = fX7_no 0 (-1002) m1) : Eq2 F G m :=
  Eq2.no' h (-1002) 0 (by omega) (by decide) (by decide) hF hG
theorem Eq2.other' {F G : MM → Option (Int32 × MM)} {m : MM} {v : Nat → Int32} {nb nw nc : Nat} (h : Rlt v nb nw nc m) (hF : F m = fX6_refuse 0 (-1003) m) (hG : ∀ m1, Rel0 v nb nw nc m1 → FrP (fun c _ _ => c = 47) m m1 → G m1 = fX7_no 0 (-1003) m1) : Eq2 F G m :=
  Eq2.no' h (-1003) 1 (by omega) (by decide) (by decide) hF hG
theorem Eq2.nothing' {F G : MM → Option (Int32 × MM)} {m : MM} {v : Nat → Int32} {nb nw nc : Nat} (h : Rlt v nb nw nc m) (hF : F m = fX6_refuse 0 (-1004) m) (hG : ∀ m1, Rel0 v nb nw nc m1 → FrP (fun c _ _ => c = 47) m m1 → G m1 = fX7_no 0 (-1004) m1) : Eq2 F G m :=
  Eq2.no' h (-1004) 2 (by omega) (by decide) (by decide) hF hG
/-- a shelf's kinds: a row, nothing, a bottle -/
theorem RelS.kind {m : MM} {nb s : Nat} (h : RelS m nb) (hs : s < 8) (hnb : nb ≤ 8) : (inB (m.1 1 s 0) 5 = true) ∨ (m.1 1 s 0 = -1) ∨ (∃ b, b < nb ∧ m.1 1 s 0 = nI (10 + b)) := by
  obtain ⟨_, _, _, a, _⟩ := h s hs
  rcases a with a | a | a
  · exact Or.inr (Or.inl a)
  · exact Or.inl a
  · exact Or.inr (Or.inr a)
theorem inB_m1' (n : Nat) : inB (-1) n = false := inB_m1 n
theorem inB_10 (b : Nat) (hb : b < 9) : inB (nI (10 + b)) 5 = false := by
  rw [inB_nn (by omega), decide_eq_false]; omega
theorem e1_isBottle (s : Nat) (m : MM) : fX1_isBottle s m = some (decide (¬ m.1 1 s 0 < 10), m) := by
  rw [fX1_isBottle_eq]; unfold fX1_isBottle_b
  by_cases e : m.1 1 s 0 < 10
  · rw [if_pos e, decide_eq_false (fun h => h e)]
  · rw [if_neg e, decide_eq_true e]
theorem ten (b : Nat) (hb : b < 9) : ¬ nI (10 + b) < 10 := by
  rw [show (10 : Int32) = nI 10 from rfl, n_lt (by omega) (by omega)]; omega
theorem m1_ten : (-1 : Int32) < 10 := by decide
theorem five_ten {x : Int32} (h : inB x 5 = true) : x < 10 ∧ 0 ≤ x := by
  have := (inB_iff x 5).1 h
  rw [Int32.lt_iff_toInt_lt, Int32.le_iff_toInt_le]
  have t : (10 : Int32).toInt = 10 := rfl
  have z : (0 : Int32).toInt = 0 := rfl
  omega
theorem e7_noRow_m1 {s : Nat} {m : MM} (hs : s < 8) (h : m.1 59 0 s = -1) : fX7_noRow 0 (nI s) m = some (-1004, m) := by
  rw [fX7_noRow_eq]; unfold fX7_noRow_b
  rw [inB_t hs (by omega), n_cl (by omega), h]; rfl
theorem e7_noRow_b {s b : Nat} {m : MM} (hs : s < 8) (hb : b < 9) (h : m.1 59 0 s = nI (10 + b)) : fX7_noRow 0 (nI s) m = some (-1003, m) := by
  rw [fX7_noRow_eq]; unfold fX7_noRow_b
  rw [inB_t hs (by omega), n_cl (by omega), h, if_neg (ten b hb)]; rfl
theorem e1_why_m1 {s : Nat} {m : MM} (h : m.1 1 s 0 = -1) : fX1_whyNoRow s m = some (-1004, m) := by
  rw [fX1_whyNoRow_eq]; unfold fX1_whyNoRow_b
  rw [e1_isBottle, h]; rfl
theorem e1_why_b {s b : Nat} {m : MM} (hb : b < 9) (h : m.1 1 s 0 = nI (10 + b)) : fX1_whyNoRow s m = some (-1003, m) := by
  rw [fX1_whyNoRow_eq]; unfold fX1_whyNoRow_b
  rw [e1_isBottle, h, decide_eq_true (ten b hb)]; rfl
theorem RelS.at47 {m m1 : MM} {nb s : Nat} (h : RelS m1 nb) (hs : s < 8) (f : FrP (fun c _ _ => c = 47) m m1) : m1.1 59 0 s = m.1 1 s 0 ∧ m1.1 60 0 s = m.1 1 s 1 := by
  obtain ⟨a1, a2, _, _, _⟩ := h s hs
  refine ⟨?_, ?_⟩
  · rw [← a1]; exact f.1 1 s 0 (by omega)
  · rw [← a2]; exact f.1 1 s 1 (by omega)
/-! set -/
theorem narrow_eq {s : Nat} {m : MM} (w : Int64) (h : inB (m.1 1 s 0) 5 = true) : ∃ y, fX1_narrowed s w m = some (y, m) ∧ ∀ m', fX7_kept (m.1 1 s 0) w m' = some (y, m') := by
  rw [fX1_narrowed_eq, fX7_kept_eq]; unfold fX1_narrowed_b fX7_kept_b
  have h6 := inB_6 (inB_mono h (show 5 ≤ 6 by omega))
  rcases h6 with e | e | e | e | e | e
  · rw [e]; exact ⟨_, rfl, fun _ => rfl⟩
  · rw [e]; exact ⟨_, rfl, fun _ => rfl⟩
  · rw [e]; exact ⟨_, rfl, fun _ => rfl⟩
  · rw [e]; exact ⟨_, rfl, fun _ => rfl⟩
  · rw [e]
    by_cases q : lg_cmp w 0 = 0
    · refine ⟨0, ?_, fun m' => ?_⟩
      · rw [if_neg (by decide), if_neg (by decide), if_neg (by decide), if_neg (by decide), if_pos rfl, if_pos q]
      · rw [if_neg (by decide), if_neg (by decide), if_neg (by decide), if_neg (by decide), if_pos q]
    · refine ⟨1, ?_, fun m' => ?_⟩
      · rw [if_neg (by decide), if_neg (by decide), if_neg (by decide), if_neg (by decide), if_pos rfl, if_neg q]
      · rw [if_neg (by decide), if_neg (by decide), if_neg (by decide), if_neg (by decide), if_neg q]
  · rw [e] at h; exact absurd h (by decide)
theorem op_set {v : Nat → Int32} {nb nw nc : Nat} {m : MM} (h : Rlt v nb nw nc m) (x y : Int32) (w : Int64) : Eq2 (fX6_set 0 x y w) (fX7_set 0 x y w) m := by
  have hnb := h.1.nb.2.1
  cases hx : inB x 8
  · refine Eq2.bad h ?_ ?_
    · rw [fX6_set_eq]; unfold fX6_set_b
      simp only [e6_shelfAt, hx, Option.bind_some, bind_eta, reduceCtorEq, if_false]
    · intro m1 h1
      rw [fX7_set_eq]; unfold fX7_set_b
      simp only [e7_isShelf, hx, Option.bind_some, bind_eta, bI_0, not_true, if_false]
  · obtain ⟨hs, e⟩ := inB_ex hx
    generalize x.toNatClampNeg = s at hs e
    subst e
    have cl : (nI s).toNatClampNeg = s := n_cl (by omega)
    obtain ⟨sz, z1, z2, z3⟩ := h.1.2.2.2.1.sz hs
    rcases h.1.2.2.2.1.kind hs hnb with hk | hk | ⟨b, hb, hk⟩
    · cases hy : inB y sz
      · refine Eq2.bad' h ?_ ?_
        · rw [fX6_set_eq]; unfold fX6_set_b
          simp only [e6_shelfAt, hx, cl, e1_isRow, hk, e1_hasPlace s sz y m z2 z1, hy, Option.bind_some, bind_eta, bI_0, reduceCtorEq, if_true, if_false, not_true, not_false_eq_true]
        · intro m1 h1 f
          obtain ⟨s1, s2⟩ := h1.2.2.2.1.at47 hs f
          rw [fX7_set_eq]; unfold fX7_set_b
          simp only [e7_isShelf, hx, e7_isRow m1 hs, s1, hk, cl, Option.bind_some, bind_eta, bI_0, reduceCtorEq, not_false_eq_true, if_true, cond_true]
          rw [s2, z2, e7_within y sz m1 (by omega)]
          simp only [hy, Option.bind_some, bI_0, not_true, if_false]
      · obtain ⟨hi, e⟩ := inB_ex hy
        generalize y.toNatClampNeg = i at hi e
        subst e
        obtain ⟨n, n1, n2⟩ := narrow_eq w hk
        have p6 : fX6_set 0 (nI s) (nI i) w m = some (1, (m.1, upL m.2 20 s i n)) := by
          rw [fX6_set_eq]; unfold fX6_set_b
          simp only [e6_shelfAt, hx, cl, e1_isRow, hk, e1_hasPlace s sz (nI i) m z2 z1, hy, Option.bind_some, bind_eta, bI_0, reduceCtorEq, if_true, if_false, not_false_eq_true]
          rw [fX1_put_eq]; unfold fX1_put_b
          simp only [e1_isRow, hk, e1_hasPlace s sz (nI i) m z2 z1, hy, Option.bind_some, bI_0, reduceCtorEq, if_false]
          rw [n1, inB_t (show i < 40 by omega) (by omega), n_cl (by omega)]
          rfl
        unfold Eq2
        rw [p6]
        refine Ok.ret ?_
        have hS := h.1.2.2.2.1 s hs
        have p7 : fX7_set 0 (nI s) (nI i) w (m.1, upL m.2 20 s i n) = some (1, (m.1, upL (upL m.2 20 s i n) 21 0 (40 * s + i) n)) := by
          rw [fX7_set_eq]; unfold fX7_set_b
          simp only [e7_isShelf, hx, e7_isRow _ hs, ← hS.1, hk, cl, Option.bind_some, bind_eta, bI_0, reduceCtorEq, not_false_eq_true, if_true, cond_true]
          rw [← hS.2.1, z2, e7_within (nI i) sz _ (by omega)]
          simp only [hy, Option.bind_some, bI_0, reduceCtorEq, not_false_eq_true, if_true]
          rw [← hS.1, n2]
          simp only [Option.bind_some]
          rw [i40, inB_t (show 40 * s + i < 320 by omega) (by omega), n_cl (by omega)]
          rfl
        rw [p7]
        refine Ok.ret ⟨rfl, ⟨v, nb, nw, nc, Rlt_S h (fun _ _ _ _ => rfl) ?_⟩, rfl⟩
        intro t ht
        obtain ⟨s1, s2, s3, s4, s5⟩ := h.1.2.2.2.1 t ht
        refine ⟨s1, s2, fun k hk => ?_, s4, s5⟩
        dsimp only
        rw [upL_nn (show ¬ (20 = 21 ∧ t = 0 ∧ k = 40 * s + i) by omega)]
        by_cases q : t = s ∧ k = i
        · obtain ⟨q1, q2⟩ := q
          subst q1 q2
          rw [upL_same, upL_same]
        · rw [upL_nn (by omega), upL_nn (by omega), upL_nn (by omega)]; exact s3 k hk
    · refine Eq2.nothing' h ?_ ?_
      · rw [fX6_set_eq]; unfold fX6_set_b
        simp only [e6_shelfAt, hx, cl, e1_isRow, hk, inB_m1, e1_why_m1 hk, Option.bind_some, bind_eta, bI_0, reduceCtorEq, if_true, if_false, not_true]
      · intro m1 h1 f
        obtain ⟨s1, s2⟩ := h1.2.2.2.1.at47 hs f
        rw [fX7_set_eq]; unfold fX7_set_b
        simp only [e7_isShelf, hx, e7_isRow m1 hs, s1, hk, inB_m1, e7_noRow_m1 hs (s1.trans hk), Option.bind_some, bind_eta, bI_0, reduceCtorEq, not_false_eq_true, if_true, not_true, if_false]
    · refine Eq2.other' h ?_ ?_
      · rw [fX6_set_eq]; unfold fX6_set_b
        simp only [e6_shelfAt, hx, cl, e1_isRow, hk, inB_10 b (by omega), e1_why_b (by omega) hk, Option.bind_some, bind_eta, bI_0, reduceCtorEq, if_true, if_false, not_true]
      · intro m1 h1 f
        obtain ⟨s1, s2⟩ := h1.2.2.2.1.at47 hs f
        rw [fX7_set_eq]; unfold fX7_set_b
        simp only [e7_isShelf, hx, e7_isRow m1 hs, s1, hk, inB_10 b (by omega), e7_noRow_b hs (by omega) (s1.trans hk), Option.bind_some, bind_eta, bI_0, reduceCtorEq, not_false_eq_true, if_true, not_true, if_false]
/-! show -/
theorem op_show {v : Nat → Int32} {nb nw nc : Nat} {m : MM} (h : Rlt v nb nw nc m) (x y : Int32) : Eq2 (fX6_show 0 x y) (fX7_show 0 x y) m := by
  have hnb := h.1.nb.2.1
  cases hx : inB x 8
  · refine Eq2.bad h ?_ ?_
    · rw [fX6_show_eq]; unfold fX6_show_b fX6_show_j22 fX6_show_j27
      by_cases q : y = -1
      · simp only [e6_shelfAt, hx, q, Option.bind_some, bind_eta, reduceCtorEq, if_true, if_false]
      · cases hy : inB y nb <;> simp only [e6_shelfAt, hx, q, e5_bottleAt h.1, hy, Option.bind_some, bind_eta, reduceCtorEq, if_true, if_false]
    · intro m1 h1
      rw [fX7_show_eq]; unfold fX7_show_b
      simp only [e7_isShelf, hx, Option.bind_some, bind_eta, bI_0, if_true]
  · obtain ⟨hs, e⟩ := inB_ex hx
    generalize x.toNatClampNeg = s at hs e
    subst e
    have cl : (nI s).toNatClampNeg = s := n_cl (by omega)
    have fin : ∀ z : Int32, (z = -1 ∨ ∃ b, b < nb ∧ z = nI (10 + b)) → fX6_show 0 (nI s) y m = some (1, (upI m.1 1 s 0 z, m.2)) → (∀ m1, Lv v m1 → fX7_show 0 (nI s) y m1 = some (1, (upI m1.1 59 0 s z, m1.2))) → Eq2 (fX6_show 0 (nI s) y) (fX7_show 0 (nI s) y) m := by
      intro z hz e6 e7
      unfold Eq2
      rw [e6]
      refine Ok.ret ?_
      rw [e7 _ (Lv_fr' (D := fun c _ _ => c = 1) h.1.2.1 (fun c i k q => upI_nn (by omega)) (by unfold Dlv; omega))]
      refine Ok.ret ⟨rfl, ⟨v, nb, nw, nc, Rlt_S h (fun c i k q => ?_) ?_⟩, ?_⟩
      · dsimp only
        rw [upI_nn (by omega), upI_nn (by omega)]
      · intro t ht
        obtain ⟨s1, s2, s3, s4, s5⟩ := h.1.2.2.2.1 t ht
        dsimp only
        have c2 : upI (upI m.1 1 s 0 z) 59 0 s z 1 t 1 = m.1 1 t 1 := by rw [upI_nn (by omega), upI_nn (by omega)]
        have c4 : upI (upI m.1 1 s 0 z) 59 0 s z 60 0 t = m.1 60 0 t := by rw [upI_nn (by omega), upI_nn (by omega)]
        rw [c2, c4]
        by_cases q : t = s
        · subst q
          have c1 : upI (upI m.1 1 t 0 z) 59 0 t z 1 t 0 = z := by rw [upI_nn (by omega), upI_same]
          have c3 : upI (upI m.1 1 t 0 z) 59 0 t z 59 0 t = z := upI_same _ _ _ _ _
          rw [c1, c3]
          exact ⟨rfl, s2, s3, hz.imp id Or.inr, s5⟩
        · have c1 : upI (upI m.1 1 s 0 z) 59 0 s z 1 t 0 = m.1 1 t 0 := by rw [upI_nn (by omega), upI_nn (by omega)]
          have c3 : upI (upI m.1 1 s 0 z) 59 0 s z 59 0 t = m.1 59 0 t := by rw [upI_nn (by omega), upI_nn (by omega)]
          rw [c1, c3]
          exact ⟨s1, s2, s3, s4, s5⟩
      · funext i k
        dsimp only
        rw [upI_nn (by omega), upI_nn (by omega)]
    by_cases q : y = -1
    · subst q
      refine fin (-1) (Or.inl rfl) ?_ ?_
      · rw [fX6_show_eq]; unfold fX6_show_b fX6_show_j22_2 fX6_show_j27_3
        simp only [e6_shelfAt, hx, cl, Option.bind_some, if_true, not_true, if_false]
        rw [if_pos (by decide)]
      · intro m1 h1
        rw [fX7_show_eq]; unfold fX7_show_b
        simp only [e7_isShelf, hx, cl, Option.bind_some, bI_0, reduceCtorEq, if_false, if_true, not_true, cond_true]
    · cases hy : inB y nb
      · refine Eq2.bad h ?_ ?_
        · rw [fX6_show_eq]; unfold fX6_show_b fX6_show_j27_3
          simp only [e6_shelfAt, hx, cl, q, e5_bottleAt h.1, hy, Option.bind_some, bind_eta, reduceCtorEq, if_true, if_false, not_true]
        · intro m1 h1
          rw [fX7_show_eq]; unfold fX7_show_b
          simp only [e7_isShelf, hx, q, e7_isBottle h1, hy, Option.bind_some, bind_eta, bI_0, reduceCtorEq, if_true, if_false, not_true]
      · obtain ⟨hb, e⟩ := inB_ex hy
        generalize y.toNatClampNeg = b at hb e
        subst e
        have e10 : (10 : Int32) + nI b = nI (10 + b) := (n_add 10 b).symm
        refine fin (nI (10 + b)) (Or.inr ⟨b, hb, rfl⟩) ?_ ?_
        · rw [fX6_show_eq]; unfold fX6_show_b fX6_show_j22_2 fX6_show_j27_3
          simp only [e6_shelfAt, hx, cl, q, e5_bottleAt h.1, hy, e10, Option.bind_some, reduceCtorEq, if_true, if_false, not_false_eq_true]
          rw [if_pos (by decide)]
        · intro m1 h1
          rw [fX7_show_eq]; unfold fX7_show_b
          have eb : fX7_isBottle 0 (nI b) m1 = some (inB (nI b) nb, m1) := by
            rw [fX7_isBottle_eq]; unfold fX7_isBottle_b; rw [h1.nb h.1.1, e7_within (nI b) nb m1 (by omega)]; rfl
          simp only [e7_isShelf, hx, cl, q, eb, hy, e10, Option.bind_some, bI_0, reduceCtorEq, if_false, if_true, not_false_eq_true, cond_true]
/-! says -/
def und (k w : Int32) : Bool := decide (w = 0 ∨ k = w ∨ (k = 3 ∧ w = 1) ∨ (k = 4 ∧ w = 2))
theorem loop_go {σ τ : Type} {f : σ → MM → Option ((σ ⊕ τ) × MM)} {n : Nat} {s s' : σ} {m m' : MM} (h : f s m = some (Sum.inl s', m')) : loopF (n + 1) f s m = loopF n f s' m' := by
  show (f s m).bind _ = _
  rw [h]; rfl
theorem loop_end {σ τ : Type} {f : σ → MM → Option ((σ ⊕ τ) × MM)} {n : Nat} {s : σ} {t : τ} {m m' : MM} (h : f s m = some (Sum.inr t, m')) : loopF (n + 1) f s m = some (t, m') := by
  show (f s m).bind _ = _
  rw [h]; rfl
theorem und6 {k w : Int32} {m : MM} (h : RelK m) (hk : inB k 6 = true) : fX6_isOrIsUnder k w m = some (und k w, m) := by
  obtain ⟨a0, a1, a2, a3, a4, a5, _⟩ := h
  rw [fX6_isOrIsUnder_eq]; unfold fX6_isOrIsUnder_b
  have hit : ∀ (a l : Nat), a < 6 → l < 6 → nI a = w → fX6_isOrIsUnder_b4 w (nI a, nI l) m = some (Sum.inr (Sum.inr ()), m) := by
    intro a l ha hl e
    unfold fX6_isOrIsUnder_b4
    dsimp only
    rw [if_neg (by rw [show (6 : Int32) = nI 6 from rfl, n_le (by omega) (by omega)]; omega), e6_isKind, inB_t ha (by omega)]
    simp only [Option.bind_some, bI_0, reduceCtorEq, if_false, e, not_true]
  have mis : ∀ (a l : Nat), a < 6 → l < 6 → ¬ nI a = w → fX6_isOrIsUnder_b4 w (nI a, nI l) m = some (Sum.inl (m.1 32 0 a, nI (l + 1)), m) := by
    intro a l ha hl e
    unfold fX6_isOrIsUnder_b4
    dsimp only
    rw [if_neg (by rw [show (6 : Int32) = nI 6 from rfl, n_le (by omega) (by omega)]; omega), e6_isKind, inB_t ha (by omega)]
    simp only [Option.bind_some, bI_0, reduceCtorEq, if_false, e, not_false_eq_true, if_true, cond_true]
    rw [n_cl (by omega), n_s]
  have out : ∀ l, l < 6 → fX6_isOrIsUnder_b4 w (-1, nI l) m = some (Sum.inr (Sum.inl ()), m) := by
    intro l hl
    unfold fX6_isOrIsUnder_b4
    dsimp only
    rw [if_neg (by rw [show (6 : Int32) = nI 6 from rfl, n_le (by omega) (by omega)]; omega), e6_isKind, inB_m1]
    simp only [Option.bind_some, bI_0, if_true]
  -- from 0: up to none
  have z0 : ∀ n l, l < 5 → loopF (n + 2) (fX6_isOrIsUnder_b4 w) (nI 0, nI l) m = some (if w = 0 then Sum.inr () else Sum.inl (), m) := by
    intro n l hl
    by_cases e : nI 0 = w
    · rw [loop_end (hit 0 l (by omega) (by omega) e), if_pos (show w = 0 from e.symm)]
    · rw [loop_go (mis 0 l (by omega) (by omega) e), a0, loop_end (out (l + 1) (by omega)), if_neg (show ¬ w = 0 from fun h => e h.symm)]
  have z1 : ∀ n l a, a < 6 → l < 4 → m.1 32 0 a = 0 → loopF (n + 3) (fX6_isOrIsUnder_b4 w) (nI a, nI l) m = some (if w = 0 ∨ nI a = w then Sum.inr () else Sum.inl (), m) := by
    intro n l a ha hl h0
    by_cases e : nI a = w
    · rw [loop_end (hit a l ha (by omega) e), if_pos (Or.inr e)]
    · rw [loop_go (mis a l ha (by omega) e), h0, show ((0 : Int32), nI (l + 1)) = (nI 0, nI (l + 1)) from rfl, z0 n (l + 1) (by omega)]
      by_cases q : w = 0
      · rw [if_pos q, if_pos (Or.inl q)]
      · rw [if_neg q, if_neg (fun h => h.elim q e)]
  have z2 : ∀ n l a b, a < 6 → b < 6 → l < 3 → m.1 32 0 a = nI b → m.1 32 0 b = 0 → loopF (n + 4) (fX6_isOrIsUnder_b4 w) (nI a, nI l) m = some (if w = 0 ∨ nI b = w ∨ nI a = w then Sum.inr () else Sum.inl (), m) := by
    intro n l a b ha hb hl h0 h1
    by_cases e : nI a = w
    · rw [loop_end (hit a l ha (by omega) e), if_pos (Or.inr (Or.inr e))]
    · rw [loop_go (mis a l ha (by omega) e), h0, z1 n (l + 1) b hb (by omega) h1]
      by_cases q : w = 0 ∨ nI b = w
      · rw [if_pos q, if_pos (q.imp id Or.inl)]
      · rw [if_neg q, if_neg (fun h => h.elim (fun h => q (Or.inl h)) (fun h => h.elim (fun h => q (Or.inr h)) e))]
  have fin : ∀ (c : Prop) [Decidable c] (g : (Unit ⊕ Unit) × MM → Option (Bool × MM)), (c ↔ und k w = true) → g (Sum.inr (), m) = some (true, m) → g (Sum.inl (), m) = some (false, m) → (some (if c then Sum.inr () else Sum.inl (), m)).bind g = some (und k w, m) := by
    intro c _ g hc g1 g2
    by_cases q : c
    · rw [if_pos q, hc.1 q]; exact g1
    · rw [if_neg q, Bool.eq_false_iff.2 (fun h => q (hc.2 h))]; exact g2
  have d : ∀ a b : Nat, a < 6 → b < 6 → ((nI a = nI b) ↔ a = b) := fun a b ha hb => n_inj (by omega) (by omega)
  have hw : und k w = true ↔ (w = 0 ∨ k = w ∨ (k = 3 ∧ w = 1) ∨ (k = 4 ∧ w = 2)) := decide_eq_true_iff
  have n3 : ¬ (0 : Int32) = 3 ∧ ¬ (0 : Int32) = 4 ∧ ¬ (1 : Int32) = 3 ∧ ¬ (1 : Int32) = 4 ∧ ¬ (2 : Int32) = 3 ∧ ¬ (2 : Int32) = 4 ∧ ¬ (3 : Int32) = 4 ∧ ¬ (4 : Int32) = 3 ∧ ¬ (5 : Int32) = 3 ∧ ¬ (5 : Int32) = 4 := by decide
  obtain ⟨n1, n2, n3, n4, n5, n6, n7, n8, n9, n10⟩ := n3
  rcases inB_6 hk with e | e | e | e | e | e
  · subst e
    have := z0 998 0 (by omega)
    rw [show ((0 : Int32), (0 : Int32)) = (nI 0, nI 0) from rfl, this]
    refine fin _ _ ?_ rfl rfl
    rw [hw]
    exact ⟨Or.inl, fun h => h.elim id (fun h => h.elim Eq.symm (fun h => h.elim (fun h => absurd h.1 n1) (fun h => absurd h.1 n2)))⟩
  · subst e
    have := z1 997 0 1 (by omega) (by omega) a1
    rw [show ((1 : Int32), (0 : Int32)) = (nI 1, nI 0) from rfl, this]
    refine fin _ _ ?_ rfl rfl
    rw [hw]
    exact ⟨fun h => h.elim Or.inl (fun h => Or.inr (Or.inl h)), fun h => h.elim Or.inl (fun h => h.elim Or.inr (fun h => h.elim (fun h => absurd h.1 n3) (fun h => absurd h.1 n4)))⟩
  · subst e
    have := z1 997 0 2 (by omega) (by omega) a2
    rw [show ((2 : Int32), (0 : Int32)) = (nI 2, nI 0) from rfl, this]
    refine fin _ _ ?_ rfl rfl
    rw [hw]
    exact ⟨fun h => h.elim Or.inl (fun h => Or.inr (Or.inl h)), fun h => h.elim Or.inl (fun h => h.elim Or.inr (fun h => h.elim (fun h => absurd h.1 n5) (fun h => absurd h.1 n6)))⟩
  · subst e
    have := z2 996 0 3 1 (by omega) (by omega) (by omega) a3 a1
    rw [show ((3 : Int32), (0 : Int32)) = (nI 3, nI 0) from rfl, this]
    refine fin _ _ ?_ rfl rfl
    rw [hw]
    exact ⟨fun h => h.elim Or.inl (fun h => h.elim (fun h => Or.inr (Or.inr (Or.inl ⟨rfl, h.symm⟩))) (fun h => Or.inr (Or.inl h))), fun h => h.elim Or.inl (fun h => h.elim (fun h => Or.inr (Or.inr h)) (fun h => h.elim (fun h => Or.inr (Or.inl h.2.symm)) (fun h => absurd h.1 n7)))⟩
  · subst e
    have := z2 996 0 4 2 (by omega) (by omega) (by omega) a4 a2
    rw [show ((4 : Int32), (0 : Int32)) = (nI 4, nI 0) from rfl, this]
    refine fin _ _ ?_ rfl rfl
    rw [hw]
    exact ⟨fun h => h.elim Or.inl (fun h => h.elim (fun h => Or.inr (Or.inr (Or.inr ⟨rfl, h.symm⟩))) (fun h => Or.inr (Or.inl h))), fun h => h.elim Or.inl (fun h => h.elim (fun h => Or.inr (Or.inr h)) (fun h => h.elim (fun h => absurd h.1 n8) (fun h => Or.inr (Or.inl h.2.symm))))⟩
  · subst e
    have := z1 997 0 5 (by omega) (by omega) a5
    rw [show ((5 : Int32), (0 : Int32)) = (nI 5, nI 0) from rfl, this]
    refine fin _ _ ?_ rfl rfl
    rw [hw]
    exact ⟨fun h => h.elim Or.inl (fun h => Or.inr (Or.inl h)), fun h => h.elim Or.inl (fun h => h.elim Or.inr (fun h => h.elim (fun h => absurd h.1 n9) (fun h => absurd h.1 n10)))⟩
theorem und7 (k w : Int32) (m : MM) : fX7_isUnder k w m = some (und k w, m) := by
  rw [fX7_isUnder_eq]; unfold fX7_isUnder_b und
  have n34 : ¬ (3 : Int32) = 4 := by decide
  by_cases h0 : w = 0
  · rw [if_pos h0, decide_eq_true (Or.inl h0)]
  · rw [if_neg h0]
    by_cases h1 : k = w
    · rw [if_pos h1, decide_eq_true (Or.inr (Or.inl h1))]
    · rw [if_neg h1]
      by_cases h3 : k = 3
      · rw [if_neg (fun h => h h3)]
        by_cases h4 : w = 1
        · rw [if_pos h4, decide_eq_true (Or.inr (Or.inr (Or.inl ⟨h3, h4⟩)))]
        · have : ¬ k = 4 := by rw [h3]; exact n34
          rw [if_neg h4, if_pos this, decide_eq_false (fun h => h.elim h0 (fun h => h.elim h1 (fun h => h.elim (fun h => h4 h.2) (fun h => this h.1))))]
      · rw [if_pos h3]
        by_cases h4 : k = 4
        · rw [if_neg (fun h => h h4)]
          by_cases h5 : w = 2
          · rw [if_neg (fun h => h h5), decide_eq_true (Or.inr (Or.inr (Or.inr ⟨h4, h5⟩)))]
          · rw [if_pos h5, decide_eq_false (fun h => h.elim h0 (fun h => h.elim h1 (fun h => h.elim (fun h => h3 h.1) (fun h => h5 h.2))))]
        · rw [if_pos h4, decide_eq_false (fun h => h.elim h0 (fun h => h.elim h1 (fun h => h.elim (fun h => h3 h.1) (fun h => h4 h.1))))]
theorem op_says {v : Nat → Int32} {nb nw nc : Nat} {m : MM} (h : Rlt v nb nw nc m) (x y : Int32) : Eq2 (fX6_says 0 x y) (fX7_says 0 x y) m := by
  have hnb := h.1.nb.2.1
  have w7 : ∀ m, fX7_within y 0 5 m = some (inB y 6, m) := fun m => e7_within' y 5 m (by omega)
  cases hx : inB x 8
  · refine Eq2.bad h ?_ ?_
    · rw [fX6_says_eq]; unfold fX6_says_b
      simp only [e6_shelfAt, hx, Option.bind_some, bind_eta, reduceCtorEq, if_false]
    · intro m1 h1
      rw [fX7_says_eq]; unfold fX7_says_b
      simp only [e7_isShelf, hx, Option.bind_some, bind_eta, bI_0, if_true]
  · cases hy : inB y 6
    · refine Eq2.bad h ?_ ?_
      · rw [fX6_says_eq]; unfold fX6_says_b
        simp only [e6_shelfAt, hx, e6_isKind, hy, Option.bind_some, bind_eta, bI_0, not_true, if_true, if_false]
      · intro m1 h1
        rw [fX7_says_eq]; unfold fX7_says_b
        simp only [e7_isShelf, hx, w7, hy, Option.bind_some, bind_eta, bI_0, reduceCtorEq, not_true, if_true, if_false]
    · obtain ⟨hs, e⟩ := inB_ex hx
      generalize x.toNatClampNeg = s at hs e
      subst e
      have cl : (nI s).toNatClampNeg = s := n_cl (by omega)
      rcases h.1.2.2.2.1.kind hs hnb with hk | hk | ⟨b, hb, hk⟩
      · refine Eq2.other' h ?_ ?_
        · rw [fX6_says_eq]; unfold fX6_says_b
          simp only [e6_shelfAt, hx, cl, e6_isKind, hy, e1_isRow, hk, Option.bind_some, bind_eta, bI_0, reduceCtorEq, not_false_eq_true, if_true, if_false]
        · intro m1 h1 f
          obtain ⟨s1, s2⟩ := h1.2.2.2.1.at47 hs f
          rw [fX7_says_eq]; unfold fX7_says_b
          simp only [e7_isShelf, hx, w7, hy, e7_isRow m1 hs, s1, hk, Option.bind_some, bind_eta, bI_0, reduceCtorEq, not_false_eq_true, if_true, if_false]
      · refine Eq2.nothing' h ?_ ?_
        · rw [fX6_says_eq]; unfold fX6_says_b
          simp only [e6_shelfAt, hx, cl, e6_isKind, hy, e1_isRow, hk, inB_m1, e1_isEmpty, decide_true, Option.bind_some, bind_eta, bI_0, reduceCtorEq, not_false_eq_true, if_true, if_false]
        · intro m1 h1 f
          obtain ⟨s1, s2⟩ := h1.2.2.2.1.at47 hs f
          rw [fX7_says_eq]; unfold fX7_says_b
          simp only [e7_isShelf, hx, cl, w7, hy, e7_isRow m1 hs, s1, hk, inB_m1, Option.bind_some, bind_eta, bI_0, reduceCtorEq, not_false_eq_true, if_true, if_false, cond_true]
          rw [if_neg (by decide)]
      · have hne : ¬ nI (10 + b) = -1 := fun q => (n_m1 _ (by omega)).1 q
        have e10 : nI (10 + b) - 10 = nI b := by
          rw [show (10 : Int32) = nI 10 from rfl, ← n_sub (by omega), Nat.add_sub_cancel_left]
        have bb : inB (nI b) nb = true := inB_t hb (by omega)
        have cb : (nI b).toNatClampNeg = b := n_cl (by omega)
        obtain ⟨b1, b2, b3, b4, b5⟩ := h.1.bf hb
        cases hu : und (v (30 + b)) y
        · refine Eq2.other' h ?_ ?_
          · rw [fX6_says_eq]; unfold fX6_says_b
            simp only [e6_shelfAt, hx, cl, e6_isKind, hy, e1_isRow, hk, inB_10 b (by omega), e1_isEmpty, hne, decide_false, e10, e5_bottleAt h.1, bb, cb, b1, und6 h.1.2.2.2.2.2.2 (h.1.1.b hb).2.2.2, hu, Option.bind_some, bind_eta, bI_0, reduceCtorEq, not_false_eq_true, not_true, if_true, if_false]
          · intro m1 h1 f
            obtain ⟨s1, s2⟩ := h1.2.2.2.1.at47 hs f
            rw [fX7_says_eq]; unfold fX7_says_b
            simp only [e7_isShelf, hx, cl, w7, hy, e7_isRow m1 hs, s1, hk, inB_10 b (by omega), Option.bind_some, bind_eta, bI_0, reduceCtorEq, not_false_eq_true, if_true, if_false, cond_true, e10, cb, und7, ← (h1.2.1.2.1 b (by omega)).1, hu, not_true, inB_t (show b < 9 by omega) (by omega)]
            rw [if_pos (by rw [show (0 : Int32) = nI 0 from rfl, n_le (by omega) (by omega)]; omega)]
        · refine Eq2.ask' h (if y = 0 then v (48 + b) else psh (vE v) (v 95) (v (30 + b)) (v (39 + b)) (v (48 + b))) ?_ ?_
          · rw [fX6_says_eq]; unfold fX6_says_b
            simp only [e6_shelfAt, hx, cl, e6_isKind, hy, e1_isRow, hk, inB_10 b (by omega), e1_isEmpty, hne, decide_false, e10, e5_bottleAt h.1, bb, cb, b1, und6 h.1.2.2.2.2.2.2 (h.1.1.b hb).2.2.2, hu, Option.bind_some, bind_eta, bI_0, reduceCtorEq, not_false_eq_true, if_true, if_false]
            rw [e_push, h.1.E, b1, b2, b3, h.1.2.2.1.2.2.1]
            by_cases q : y = 0
            · rw [if_neg (fun h => h q), if_pos q]; exact Ok.ret ⟨rfl, FrP.rfl⟩
            · rw [if_pos q, if_neg q]; exact Ok.ret ⟨rfl, FrP.rfl⟩
          · intro m1 h1 f
            obtain ⟨s1, s2, _⟩ := h1.1.2.2.2.1.at hs f
            obtain ⟨c1, c2, c3, c4, c5⟩ := h1.1.lv.2.1 b (by omega)
            have c30 : inB (m1.1 54 0 b) 30 = true := by
              rw [← c3]; exact inB_mono (h.1.1.b hb).1 h.1.1.2.2.2.2.2.2.1
            rw [fX7_says_eq]; unfold fX7_says_b
            simp only [e7_isShelf, hx, cl, w7, hy, e7_isRow m1 hs, s1, hk, inB_10 b (by omega), Option.bind_some, bind_eta, bI_0, reduceCtorEq, not_false_eq_true, if_true, if_false, cond_true, e10, cb, und7, ← c1, hu, inB_t (show b < 9 by omega) (by omega)]
            rw [if_pos (by rw [show (0 : Int32) = nI 0 from rfl, n_le (by omega) (by omega)]; omega), e7_drift b m1 (by omega) c30, h1.1.lv.E, ← c1, ← c2, ← c3, ← h1.1.lv.2.2.2.2.2.1]
            by_cases q : y = 0
            · rw [if_neg (fun h => h q), if_pos q]; exact Ok.ret ⟨rfl, FrP.rfl⟩
            · rw [if_pos q, if_neg q]; exact Ok.ret ⟨rfl, FrP.rfl⟩
