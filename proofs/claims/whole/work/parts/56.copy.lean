/-! PURE: copy -/
/-- the reference's rows with a span copied -/
def cp7 (m : MLg) (a b N : Nat) : MLg := fun c i k => if c = 21 ∧ i = 0 ∧ b ≤ k ∧ k < b + N then m 21 0 (a + (k - b)) else m c i k
theorem i40a (s i t : Nat) : (40 : Int32) * nI s + nI i + nI t = nI (40 * s + i + t) := by
  rw [i40, ← n_add]
theorem copy_up {p q I J N : Nat} (m : MM) (hp : p < 8) (hq : q < 8) (hI : I + N ≤ 40) (hJ : J + N ≤ 40) (hov : p = q → J ≤ I) (a5 : Int32) : Ok (loopF 1000 (fX7_copy_b229 0 (nI p) (nI q) (nI I) (nI J) (nI N)) 0 m) (fun _ m' => m' = (m.1, cp7 m.2 (40 * p + I) (40 * q + J) N)) := by
  refine Ok.count 0 N (fun t s m' => s = nI t ∧ m' = (m.1, cp7 m.2 (40 * p + I) (40 * q + J) t)) ?_ ?_ (by omega) 1000 (by omega) 0 m ⟨rfl, ?_⟩
  · intro t s m' _ ht ⟨e1, e2⟩
    subst e1 e2
    unfold fX7_copy_b229
    dsimp only
    rw [if_neg (by rw [n_le (by omega) (by omega)]; omega), i40a, i40a, inB_t (show 40 * p + I + t < 320 by omega) (by omega), inB_t (show 40 * q + J + t < 320 by omega) (by omega), n_cl (by omega), n_cl (by omega)]
    refine Ok.ret ⟨(n_s t).symm, Prod.ext rfl ?_⟩
    funext c i k
    have hr : cp7 m.2 (40 * p + I) (40 * q + J) t 21 0 (40 * p + I + t) = m.2 21 0 (40 * p + I + t) := by
      unfold cp7
      rw [if_neg]
      rcases Nat.lt_trichotomy p q with h | h | h
      · omega
      · have := hov h; omega
      · omega
    dsimp only
    rw [hr]
    unfold upL
    by_cases e : c = 21 ∧ i = 0 ∧ k = 40 * q + J + t
    · obtain ⟨e1, e2, e3⟩ := e
      subst e1 e2 e3
      unfold cp7
      rw [if_pos ⟨rfl, rfl, rfl⟩, if_pos (by omega)]
      rw [show 40 * q + J + t - (40 * q + J) = t by omega]
    · rw [if_neg e]
      unfold cp7
      by_cases e' : c = 21 ∧ i = 0 ∧ 40 * q + J ≤ k ∧ k < 40 * q + J + t
      · rw [if_pos e', if_pos (by omega)]
      · rw [if_neg e', if_neg (by omega)]
  · intro s m' ⟨e1, e2⟩
    unfold fX7_copy_b229
    rw [e1, if_pos (by rw [n_le (by omega) (by omega)]; omega)]
    exact Ok.ret e2
  · refine Prod.ext rfl ?_
    funext c i k
    unfold cp7
    dsimp only
    rw [if_neg (by omega)]
theorem copy_down {p I J N : Nat} (m : MM) (hp : p < 8) (hI : I + N ≤ 40) (hJ : J + N ≤ 40) (hov : I < J) : Ok (loopF 1000 (fX7_copy_b183 0 (nI p) (nI p) (nI I) (nI J) (nI N)) (nI N - 1) m) (fun _ m' => m' = (m.1, cp7 m.2 (40 * p + I) (40 * p + J) N)) := by
  have e0 : nI N - 1 = nI N + (-1) := by
    cases N with
    | zero => decide
    | succ N => rw [n_p1, n_m]
  rw [e0]
  refine Ok.loop (fun t s m' => t ≤ N ∧ s = nI t + (-1) ∧ m' = (m.1, fun c i k => if c = 21 ∧ i = 0 ∧ 40 * p + J + t ≤ k ∧ k < 40 * p + J + N then m.2 21 0 (40 * p + I + (k - (40 * p + J))) else m.2 c i k)) ?_ 1000 _ m N (by omega) ⟨Nat.le_refl _, rfl, ?_⟩
  · intro t s m' ⟨ht, e1, e2⟩
    subst e1 e2
    cases t with
    | zero =>
      unfold fX7_copy_b183
      rw [if_pos (by rw [n_lt0]; decide)]
      refine Ok.ret ?_
      refine Prod.ext rfl ?_
      funext c i k
      unfold cp7
      rw [Nat.add_zero]
    | succ t =>
      rw [n_m]
      unfold fX7_copy_b183
      dsimp only
      rw [if_neg (n_ge0 (by omega)), i40a, i40a, inB_t (show 40 * p + I + t < 320 by omega) (by omega), inB_t (show 40 * p + J + t < 320 by omega) (by omega), n_cl (by omega), n_cl (by omega)]
      refine Ok.ret ⟨t, by omega, by omega, rfl, Prod.ext rfl ?_⟩
      funext c i k
      dsimp only
      rw [if_neg (show ¬ (21 = 21 ∧ 0 = 0 ∧ 40 * p + J + (t + 1) ≤ 40 * p + I + t ∧ 40 * p + I + t < 40 * p + J + N) by omega)]
      unfold upL
      by_cases e : c = 21 ∧ i = 0 ∧ k = 40 * p + J + t
      · obtain ⟨e1, e2, e3⟩ := e
        subst e1 e2 e3
        rw [if_pos ⟨rfl, rfl, rfl⟩, if_pos (by omega)]
        rw [show 40 * p + J + t - (40 * p + J) = t by omega]
      · rw [if_neg e]
        dsimp only
        by_cases e' : c = 21 ∧ i = 0 ∧ 40 * p + J + (t + 1) ≤ k ∧ k < 40 * p + J + N
        · rw [if_pos e', if_pos (by omega)]
        · rw [if_neg e', if_neg (by omega)]
  · refine Prod.ext rfl ?_
    funext c i k
    dsimp only
    rw [if_neg (by omega)]
/-- whether a span lies in a row of so many -/
def spn (i n : Int32) (sz : Nat) : Bool := decide (0 ≤ i.toInt ∧ 0 ≤ n.toInt ∧ i.toInt + n.toInt ≤ (sz : Int))
theorem e1_hasSpan (s sz : Nat) (i n : Int32) (m : MM) (h : m.1 1 s 1 = nI sz) (hs : sz ≤ 40) : fX1_hasSpan s i n m = some (spn i n sz, m) := by
  rw [fX1_hasSpan_eq]; unfold fX1_hasSpan_b spn
  rw [h]
  by_cases h0 : i < 0
  · rw [if_pos h0, decide_eq_false]; rw [n_lt0] at h0; omega
  · rw [if_neg h0]
    rw [n_lt0] at h0
    by_cases h1 : n < 0
    · rw [if_pos h1, decide_eq_false]; rw [n_lt0] at h1; omega
    · rw [if_neg h1, if_neg (by rw [n_lt (by omega) (by omega)]; omega)]
      rw [n_lt0] at h1
      have b := n_bnd i
      have e : (nI sz - i).toInt = sz - i.toInt := by
        rw [Int32.toInt_sub, n_ti (by omega)]
        exact Int.bmod_eq_of_le (by omega) (by omega)
      by_cases h2 : nI sz - i < n
      · rw [if_pos h2, decide_eq_false]; rw [Int32.lt_iff_toInt_lt, e] at h2; omega
      · rw [if_neg h2, decide_eq_true]; rw [Int32.lt_iff_toInt_lt, e] at h2; omega
theorem lg_gt (i n : Int32) (sz : Nat) (hs : sz ≤ 40) : (0 < lg_cmp (i.toInt64 + n.toInt64) (nI sz).toInt64) = ¬ (i.toInt + n.toInt ≤ (sz : Int)) := by
  have b := n_bnd i
  have b' := n_bnd n
  have e : (i.toInt64 + n.toInt64).toInt = i.toInt + n.toInt := by
    rw [Int64.toInt_add, Int32.toInt_toInt64, Int32.toInt_toInt64]
    exact Int.bmod_eq_of_le (by omega) (by omega)
  have e2 : (nI sz).toInt64.toInt = (sz : Int) := by rw [Int32.toInt_toInt64, n_ti (by omega)]
  unfold lg_cmp
  apply propext
  by_cases h : i.toInt64 + n.toInt64 > (nI sz).toInt64
  · rw [if_pos h]
    have h := Int64.lt_iff_toInt_lt.1 h
    rw [e, e2] at h
    exact ⟨fun _ => by omega, fun _ => by decide⟩
  · rw [if_neg h]
    have h : ¬ (nI sz).toInt64.toInt < (i.toInt64 + n.toInt64).toInt := fun q => h (Int64.lt_iff_toInt_lt.2 q)
    rw [e, e2] at h
    by_cases q : i.toInt64 + n.toInt64 = (nI sz).toInt64
    · rw [if_pos q]
      exact ⟨fun h => absurd h (by decide), fun h => by omega⟩
    · rw [if_neg q]
      exact ⟨fun h => absurd h (by decide), fun h => by omega⟩
theorem RelS.at47L {m m1 : MM} {nb s : Nat} (f : FrP (fun c _ _ => c = 47) m m1) (h : RelS m nb) (hs : s < 8) : m1.1 59 0 s = m.1 59 0 s ∧ m1.1 60 0 s = m.1 60 0 s := ⟨f.1 59 0 s (by omega), f.1 60 0 s (by omega)⟩
theorem spn_ex {i n : Int32} {sz : Nat} (h : spn i n sz = true) : ∃ I N, i = nI I ∧ n = nI N ∧ I + N ≤ sz := by
  have h := of_decide_eq_true h
  exact ⟨_, _, n_of h.1, n_of h.2.1, by have := n_clti i h.1; have := n_clti n h.2.1; omega⟩
/-- the reference's last tests of a copy, both rows -/
theorem copy7_j83 {m : MM} {p q szp szq : Nat} (i j n : Int32) (hp : p < 8) (hq : q < 8) (zp : szp ≤ 40) (zq : szq ≤ 40) (ep : m.1 60 0 p = nI szp) (eq' : m.1 60 0 q = nI szq) (kp : inB (m.1 59 0 p) 5 = true) (kq : inB (m.1 59 0 q) 5 = true) :
    fX7_copy_j83 0 (nI p) (nI q) i j n m = if spn i n szp = true ∧ spn j n szq = true then (if ¬ nI p = nI q then fX7_copy_j226 0 (nI p) (nI q) i j n m else if j ≤ i then fX7_copy_j226 0 (nI p) (nI q) i j n m else (loopF 1000 (fX7_copy_b183 0 (nI p) (nI q) i j n) (n - 1) m).bind fun o13 => some (n, o13.2)) else fX7_no 0 (-1002) m := by
  unfold fX7_copy_j83
  have a1 := (five_ten kp).2
  have a2 := (five_ten kq).2
  rw [inB_t hp (by omega), inB_t hq (by omega), n_cl (show p < 2147483648 by omega), n_cl (show q < 2147483648 by omega), ep, eq']
  simp only [cond_true, bind_eta]
  rw [if_neg (by rw [le_lt] at a1; exact a1), if_pos a2]
  have g1 : (0 < lg_cmp (i.toInt64 + n.toInt64) (nI szp).toInt64) = ¬ (i.toInt + n.toInt ≤ (szp : Int)) := lg_gt i n szp zp
  have g2 : (lg_cmp (j.toInt64 + n.toInt64) (nI szq).toInt64 ≤ 0) = (j.toInt + n.toInt ≤ (szq : Int)) := by
    rw [le_lt, lg_gt j n szq zq]; apply propext; omega
  by_cases h0 : n < 0
  · rw [if_pos h0, if_neg]; rw [n_lt0] at h0; unfold spn; rw [decide_eq_true_iff, decide_eq_true_iff]; omega
  · rw [if_neg h0]
    rw [n_lt0] at h0
    by_cases h1 : i < 0
    · rw [if_pos h1, if_neg]; rw [n_lt0] at h1; unfold spn; rw [decide_eq_true_iff, decide_eq_true_iff]; omega
    · rw [if_neg h1]
      rw [n_lt0] at h1
      by_cases h2 : j < 0
      · rw [if_pos h2, if_neg]; rw [n_lt0] at h2; unfold spn; rw [decide_eq_true_iff, decide_eq_true_iff]; omega
      · rw [if_neg h2]
        rw [n_lt0] at h2
        by_cases h3 : i.toInt + n.toInt ≤ (szp : Int)
        · rw [if_neg (by rw [g1]; exact fun h => h h3)]
          by_cases h4 : j.toInt + n.toInt ≤ (szq : Int)
          · rw [if_pos (by rw [g2]; exact h4), if_pos (show spn i n szp = true ∧ spn j n szq = true from ⟨decide_eq_true (by omega), decide_eq_true (by omega)⟩)]
          · rw [if_neg (by rw [g2]; exact h4), if_neg]; unfold spn; rw [decide_eq_true_iff, decide_eq_true_iff]; omega
        · rw [if_pos (by rw [g1]; exact h3), if_neg]; unfold spn; rw [decide_eq_true_iff, decide_eq_true_iff]; omega
theorem copy7_no {m : MM} {p q : Nat} (i j n : Int32) (hp : p < 8) (hq : q < 8) (h : m.1 59 0 p = -1 ∨ (inB (m.1 59 0 p) 5 = true ∧ m.1 59 0 q = -1)) : fX7_copy_j83 0 (nI p) (nI q) i j n m = fX7_no 0 (-1004) m := by
  unfold fX7_copy_j83
  rw [inB_t hp (by omega), inB_t hq (by omega), n_cl (show p < 2147483648 by omega), n_cl (show q < 2147483648 by omega)]
  simp only [cond_true, bind_eta]
  rcases h with h | ⟨h1, h2⟩
  · rw [h, if_pos (by decide)]
  · have a1 := (five_ten h1).2
    rw [if_neg (by rw [le_lt] at a1; exact a1), h2, if_neg (by decide)]
theorem op_copy {v : Nat → Int32} {nb nw nc : Nat} {m : MM} (h : Rlt v nb nw nc m) (x y i j n : Int32) : Eq2 (fX6_copy 0 x y i j n) (fX7_copy 0 x y i j n) m := by
  have hnb := h.1.nb.2.1
  by_cases hxy : inB x 8 = true ∧ inB y 8 = true
  · obtain ⟨hx, hy⟩ := hxy
    obtain ⟨hp, e⟩ := inB_ex hx
    obtain ⟨hq, e'⟩ := inB_ex hy
    generalize x.toNatClampNeg = p at hp e
    generalize y.toNatClampNeg = q at hq e'
    subst e e'
    have cp : (nI p).toNatClampNeg = p := n_cl (by omega)
    have cq : (nI q).toNatClampNeg = q := n_cl (by omega)
    have S := h.1.2.2.2.1
    obtain ⟨szp, zp1, zp2, zp3⟩ := S.sz hp
    obtain ⟨szq, zq1, zq2, zq3⟩ := S.sz hq
    have P := (S p hp).1
    have Q := (S q hq).1
    rcases S.kind hp hnb with kp | kp | ⟨b, hb, kp⟩
    · rcases S.kind hq hnb with kq | kq | ⟨b, hb, kq⟩
      · -- both rows
        have tp := five_ten kp
        have tq := five_ten kq
        by_cases ec : m.1 1 p 0 = m.1 1 q 0
        · by_cases hs : spn i n szp = true ∧ spn j n szq = true
          · obtain ⟨I, N, e1, e2, e3⟩ := spn_ex hs.1
            obtain ⟨J, N', e4, e5, e6⟩ := spn_ex hs.2
            subst e1 e2 e4
            have en : N' = N := by
              have h2 := (of_decide_eq_true hs.1).2.1
              have hN : (nI N).toNatClampNeg = N := n_cl (by omega)
              have hN' : (nI N').toNatClampNeg = N' := n_cl (by omega)
              rw [← hN', ← e5, hN]
            subst en
            have p6 : fX6_copy 0 (nI p) (nI q) (nI I) (nI J) (nI N') m = some (nI N', (m.1, cpL m.2 20 p I 20 q J N')) := by
              rw [fX6_copy_eq]; unfold fX6_copy_b fX6_copy_j77 fX6_copy_j105
              simp only [e6_shelfAt, hx, hy, cp, cq, e1_isBottle, e1_isRow, tp.1, tq.1, kp, kq, ec, not_true, not_false_eq_true, decide_false, Option.bind_some, bind_eta, bI_0, reduceCtorEq, if_true, if_false]
              rw [if_neg (by decide), if_pos (by decide), e1_hasSpan p szp _ _ m zp2 zp1, hs.1]
              simp only [Option.bind_some, bI_0, reduceCtorEq, if_false]
              rw [e1_hasSpan q szq _ _ m zq2 zq1, hs.2]
              simp only [Option.bind_some, bI_0, reduceCtorEq, not_false_eq_true, if_true]
              rw [n_cl (show I < 2147483648 by omega), n_cl (show J < 2147483648 by omega), n_cl (show N' < 2147483648 by omega), if_pos]
              have z : ∀ k, k < 2147483648 → 0 ≤ nI k := fun k hk => by rw [show (0 : Int32) = nI 0 from rfl, n_le (by omega) hk]; omega
              exact ⟨z I (by omega), z J (by omega), z N' (by omega), by omega, by omega⟩
            unfold Eq2
            rw [p6]
            refine Ok.ret ?_
            have p7 : Ok (fX7_copy 0 (nI p) (nI q) (nI I) (nI J) (nI N') (m.1, cpL m.2 20 p I 20 q J N')) (fun r m' => r = nI N' ∧ m' = (m.1, cp7 (cpL m.2 20 p I 20 q J N') (40 * p + I) (40 * q + J) N')) := by
              rw [fX7_copy_eq]; unfold fX7_copy_b
              simp only [e7_isShelf, hx, hy, cp, cq, e7_isRow _ hp, e7_isRow _ hq, ← P, ← Q, kp, kq, ec, Option.bind_some, bind_eta, bI_0, reduceCtorEq, not_false_eq_true, if_true, if_false, cond_true]
              rw [if_neg (by rw [le_lt]; exact fun h => h tq.1), if_neg (by rw [le_lt]; exact fun h => h tq.1)]
              rw [copy7_j83 (m := (m.1, cpL m.2 20 p I 20 q J N')) (szp := szp) (szq := szq) _ _ _ hp hq zp1 zq1 zp3 zq3 (by rw [← P]; exact kp) (by rw [← Q]; exact kq), if_pos hs]
              unfold fX7_copy_j226
              by_cases epq : p = q
              · subst epq
                rw [if_neg (fun h => h rfl)]
                by_cases ov : J ≤ I
                · rw [if_pos (by rw [n_le (by omega) (by omega)]; exact ov)]
                  exact (copy_up (m.1, cpL m.2 20 p I 20 p J N') hp hp (by omega) (by omega) (fun _ => ov) 0).bind (fun _ m' e => Ok.ret ⟨rfl, e⟩)
                · rw [if_neg (by rw [n_le (by omega) (by omega)]; exact ov)]
                  exact (copy_down (m.1, cpL m.2 20 p I 20 p J N') hp (by omega) (by omega) (by omega)).bind (fun _ m' e => Ok.ret ⟨rfl, e⟩)
              · rw [if_pos (by rw [n_inj (by omega) (by omega)]; exact epq)]
                exact (copy_up (m.1, cpL m.2 20 p I 20 q J N') hp hq (by omega) (by omega) (fun h => absurd h epq) 0).bind (fun _ m' e => Ok.ret ⟨rfl, e⟩)
            refine p7.mono ?_
            intro r m2 ⟨r1, e⟩
            subst e
            refine ⟨r1.symm, ⟨v, nb, nw, nc, Rlt_S h (fun _ _ _ _ => rfl) ?_⟩, rfl⟩
            intro t ht
            obtain ⟨s1, s2, s3, s4, s5⟩ := S t ht
            refine ⟨s1, s2, fun k hk => ?_, s4, s5⟩
            obtain ⟨_, _, sp3, _, _⟩ := S p hp
            dsimp only
            unfold cp7 cpL
            rw [if_neg (show ¬ (20 = 21 ∧ t = 0 ∧ 40 * q + J ≤ k ∧ k < 40 * q + J + N') by omega)]
            by_cases et : t = q ∧ J ≤ k ∧ k < J + N'
            · obtain ⟨et, k1, k2⟩ := et
              subst et
              rw [if_pos ⟨rfl, rfl, k1, k2⟩, if_pos (by omega), if_neg (by omega), sp3 _ (by omega), show 40 * p + (I + (k - J)) = 40 * p + I + (40 * t + k - (40 * t + J)) by omega]
            · rw [if_neg (by omega), if_neg (by omega), if_neg (by omega)]; exact s3 k hk
          · refine Eq2.bad' h ?_ ?_
            · rw [fX6_copy_eq]; unfold fX6_copy_b fX6_copy_j77 fX6_copy_j105
              simp only [e6_shelfAt, hx, hy, cp, cq, e1_isBottle, e1_isRow, tp.1, tq.1, kp, kq, ec, not_true, not_false_eq_true, decide_false, Option.bind_some, bind_eta, bI_0, reduceCtorEq, if_true, if_false]
              rw [if_neg (by decide), if_pos (by decide), e1_hasSpan p szp _ _ m zp2 zp1]
              simp only [Option.bind_some, bI_0]
              cases s1 : spn i n szp
              · rw [if_pos rfl]
              · rw [if_neg (by decide), e1_hasSpan q szq _ _ m zq2 zq1]
                simp only [Option.bind_some, bI_0]
                cases s2 : spn j n szq
                · rw [if_neg (fun h => h rfl)]
                · exact absurd ⟨s1, s2⟩ hs
            · intro m1 h1 f
              obtain ⟨f1, f2⟩ := RelS.at47L f S hp
              obtain ⟨f3, f4⟩ := RelS.at47L f S hq
              rw [fX7_copy_eq]; unfold fX7_copy_b
              simp only [e7_isShelf, hx, hy, cp, cq, e7_isRow _ hp, e7_isRow _ hq, f1, f3, ← P, ← Q, kp, kq, ec, Option.bind_some, bind_eta, bI_0, reduceCtorEq, not_false_eq_true, if_true, if_false, cond_true]
              rw [if_neg (by rw [le_lt]; exact fun h => h tq.1), if_neg (by rw [le_lt]; exact fun h => h tq.1)]
              rw [copy7_j83 (szp := szp) (szq := szq) _ _ _ hp hq zp1 zq1 (f2.trans zp3) (f4.trans zq3) (by rw [f1, ← P]; exact kp) (by rw [f3, ← Q]; exact kq), if_neg hs]
        · refine Eq2.other' h ?_ ?_
          · rw [fX6_copy_eq]; unfold fX6_copy_b fX6_copy_j77
            simp only [e6_shelfAt, hx, hy, cp, cq, e1_isBottle, e1_isRow, tp.1, tq.1, kp, kq, ec, not_true, not_false_eq_true, decide_false, Option.bind_some, bind_eta, bI_0, reduceCtorEq, if_true, if_false]
            rw [if_neg (by decide)]
          · intro m1 h1 f
            obtain ⟨f1, f2⟩ := RelS.at47L f S hp
            obtain ⟨f3, f4⟩ := RelS.at47L f S hq
            rw [fX7_copy_eq]; unfold fX7_copy_b
            simp only [e7_isShelf, hx, hy, cp, cq, e7_isRow _ hp, e7_isRow _ hq, f1, f3, ← P, ← Q, kp, kq, ec, Option.bind_some, bind_eta, bI_0, reduceCtorEq, not_false_eq_true, if_true, if_false, cond_true]
            rw [if_neg (by rw [le_lt]; exact fun h => h tp.1), if_neg (by rw [le_lt]; exact fun h => h tq.1)]
      · have tp := five_ten kp
        refine Eq2.nothing' h ?_ ?_
        · rw [fX6_copy_eq]; unfold fX6_copy_b fX6_copy_j76 fX6_copy_j77 fX6_copy_j105
          simp only [e6_shelfAt, hx, hy, cp, cq, e1_isBottle, e1_isRow, tp.1, kp, kq, m1_ten, inB_m1, not_true, not_false_eq_true, decide_false, Option.bind_some, bind_eta, bI_0, reduceCtorEq, if_true, if_false]
        · intro m1 h1 f
          obtain ⟨f1, f2⟩ := RelS.at47L f S hp
          obtain ⟨f3, f4⟩ := RelS.at47L f S hq
          rw [fX7_copy_eq]; unfold fX7_copy_b
          simp only [e7_isShelf, hx, hy, cp, cq, e7_isRow _ hp, e7_isRow _ hq, f1, f3, ← P, ← Q, kp, kq, inB_m1, Option.bind_some, bind_eta, bI_0, reduceCtorEq, not_false_eq_true, if_true, if_false, cond_true]
          rw [if_neg (by rw [le_lt]; exact fun h => h tp.1), if_neg (by decide)]
          exact copy7_no i j n hp hq (Or.inr ⟨by rw [f1, ← P]; exact kp, by rw [f3, ← Q]; exact kq⟩)
      · have tp := five_ten kp
        refine Eq2.other' h ?_ ?_
        · rw [fX6_copy_eq]; unfold fX6_copy_b
          simp only [e6_shelfAt, hx, hy, cp, cq, e1_isBottle, tp.1, kq, ten b (by omega), not_true, not_false_eq_true, decide_false, decide_true, Option.bind_some, bind_eta, bI_0, reduceCtorEq, if_true, if_false]
        · intro m1 h1 f
          obtain ⟨f1, f2⟩ := RelS.at47L f S hp
          obtain ⟨f3, f4⟩ := RelS.at47L f S hq
          rw [fX7_copy_eq]; unfold fX7_copy_b
          simp only [e7_isShelf, hx, hy, cp, cq, f1, f3, ← P, ← Q, kq, Option.bind_some, bind_eta, bI_0, reduceCtorEq, not_false_eq_true, if_true, if_false, cond_true]
          rw [if_neg (by rw [le_lt]; exact fun h => h tp.1), if_pos (by rw [le_lt]; exact ten b (by omega))]
    · rcases S.kind hq hnb with kq | kq | ⟨b, hb, kq⟩
      · have tq := five_ten kq
        refine Eq2.nothing' h ?_ ?_
        · rw [fX6_copy_eq]; unfold fX6_copy_b fX6_copy_j76 fX6_copy_j77 fX6_copy_j105
          simp only [e6_shelfAt, hx, hy, cp, cq, e1_isBottle, e1_isRow, tq.1, kp, kq, m1_ten, inB_m1, not_true, not_false_eq_true, decide_false, Option.bind_some, bind_eta, bI_0, reduceCtorEq, if_true, if_false]
        · intro m1 h1 f
          obtain ⟨f1, f2⟩ := RelS.at47L f S hp
          obtain ⟨f3, f4⟩ := RelS.at47L f S hq
          rw [fX7_copy_eq]; unfold fX7_copy_b
          simp only [e7_isShelf, hx, hy, cp, cq, e7_isRow _ hp, e7_isRow _ hq, f1, f3, ← P, ← Q, kp, kq, inB_m1, Option.bind_some, bind_eta, bI_0, reduceCtorEq, not_false_eq_true, if_true, if_false, cond_true]
          rw [if_neg (by decide), if_neg (by rw [le_lt]; exact fun h => h tq.1)]
          exact copy7_no i j n hp hq (Or.inl (by rw [f1, ← P]; exact kp))
      · refine Eq2.nothing' h ?_ ?_
        · rw [fX6_copy_eq]; unfold fX6_copy_b fX6_copy_j76 fX6_copy_j77 fX6_copy_j105
          simp only [e6_shelfAt, hx, hy, cp, cq, e1_isBottle, e1_isRow, kp, kq, m1_ten, inB_m1, not_true, not_false_eq_true, decide_false, Option.bind_some, bind_eta, bI_0, reduceCtorEq, if_true, if_false]
        · intro m1 h1 f
          obtain ⟨f1, f2⟩ := RelS.at47L f S hp
          obtain ⟨f3, f4⟩ := RelS.at47L f S hq
          rw [fX7_copy_eq]; unfold fX7_copy_b
          simp only [e7_isShelf, hx, hy, cp, cq, e7_isRow _ hp, e7_isRow _ hq, f1, f3, ← P, ← Q, kp, kq, inB_m1, Option.bind_some, bind_eta, bI_0, reduceCtorEq, not_false_eq_true, if_true, if_false, cond_true]
          rw [if_neg (by decide)]
          exact copy7_no i j n hp hq (Or.inl (by rw [f1, ← P]; exact kp))
      · refine Eq2.other' h ?_ ?_
        · rw [fX6_copy_eq]; unfold fX6_copy_b
          simp only [e6_shelfAt, hx, hy, cp, cq, e1_isBottle, kp, m1_ten, kq, ten b (by omega), not_true, not_false_eq_true, decide_false, decide_true, Option.bind_some, bind_eta, bI_0, reduceCtorEq, if_true, if_false]
        · intro m1 h1 f
          obtain ⟨f1, f2⟩ := RelS.at47L f S hp
          obtain ⟨f3, f4⟩ := RelS.at47L f S hq
          rw [fX7_copy_eq]; unfold fX7_copy_b
          simp only [e7_isShelf, hx, hy, cp, cq, f1, f3, ← P, ← Q, kp, kq, Option.bind_some, bind_eta, bI_0, reduceCtorEq, not_false_eq_true, if_true, if_false, cond_true]
          rw [if_neg (by decide), if_pos (by rw [le_lt]; exact ten b (by omega))]
    · refine Eq2.other' h ?_ ?_
      · rw [fX6_copy_eq]; unfold fX6_copy_b
        simp only [e6_shelfAt, hx, hy, cp, cq, e1_isBottle, kp, ten b (by omega), not_true, not_false_eq_true, decide_false, decide_true, Option.bind_some, bind_eta, bI_0, reduceCtorEq, if_true, if_false]
      · intro m1 h1 f
        obtain ⟨f1, f2⟩ := RelS.at47L f S hp
        obtain ⟨f3, f4⟩ := RelS.at47L f S hq
        rw [fX7_copy_eq]; unfold fX7_copy_b
        simp only [e7_isShelf, hx, hy, cp, cq, f1, f3, ← P, ← Q, kp, Option.bind_some, bind_eta, bI_0, reduceCtorEq, not_false_eq_true, if_true, if_false, cond_true]
        rw [if_pos (by rw [le_lt]; exact ten b (by omega))]
  · refine Eq2.bad h ?_ ?_
    · rw [fX6_copy_eq]; unfold fX6_copy_b
      cases hx : inB x 8 <;> cases hy : inB y 8 <;> first | (simp only [e6_shelfAt, hx, hy, Option.bind_some, bind_eta, reduceCtorEq, if_true, if_false]; done) | (exact absurd (And.intro hx hy) hxy)
    · intro m1 h1
      rw [fX7_copy_eq]; unfold fX7_copy_b
      cases hx : inB x 8 <;> cases hy : inB y 8 <;> first | (simp only [e7_isShelf, hx, hy, Option.bind_some, bind_eta, bI_0, reduceCtorEq, not_true, if_true, if_false]; done) | (exact absurd (And.intro hx hy) hxy)
