/-! PURE: bits; asking, fifth group -/
def bt (x : Int32) (c : Nat) : Bool := x.toBitVec.getLsbD c
def one (c : Int32) : Int32 := 1 <<< (c &&& 31)
theorem one_bv (c : Nat) (h : c < 32) : (one (nI c)).toBitVec = BitVec.twoPow 32 c := by
  have : ∀ c : Fin 32, ((1 : Int32) <<< (nI c.val &&& 31)).toBitVec = BitVec.twoPow 32 c.val := by decide
  exact this ⟨c, h⟩
theorem shr_bv (x : Int32) (c : Nat) (h : c < 32) : ((x >>> (nI c &&& 31))).toBitVec = x.toBitVec.sshiftRight c := by
  have : ∀ c : Fin 32, (nI c.val &&& 31).toBitVec.smod 32#32 = BitVec.ofNat 32 c.val := by decide
  rw [Int32.toBitVec_shiftRight]
  rw [BitVec.sshiftRight', show (32:BitVec 32) = 32#32 from rfl, this ⟨c, h⟩, BitVec.toNat_ofNat, Nat.mod_eq_of_lt (by omega)]
theorem bt_one {c : Nat} (h : c < 32) (i : Nat) : bt (one (nI c)) i = decide (c = i) := by
  unfold bt; rw [one_bv c h, BitVec.getLsbD_twoPow, decide_eq_true h, Bool.true_and]
theorem bt_or (x y : Int32) (i : Nat) : bt (x ||| y) i = (bt x i || bt y i) := by
  unfold bt; rw [Int32.toBitVec_or, BitVec.getLsbD_or]
theorem bt_and (x y : Int32) (i : Nat) : bt (x &&& y) i = (bt x i && bt y i) := by
  unfold bt; rw [Int32.toBitVec_and, BitVec.getLsbD_and]
theorem bt_0 (i : Nat) : bt 0 i = false := by
  unfold bt; rw [Int32.toBitVec_zero, BitVec.getLsbD_zero]
theorem bt_ext {x y : Int32} (h : ∀ i, i < 32 → bt x i = bt y i) : x = y := Int32.toBitVec_inj.1 (BitVec.eq_of_getLsbD_eq h)
theorem bt_shr (x : Int32) {c : Nat} (h : c < 32) : (x >>> (nI c &&& 31)) &&& 1 = if bt x c = true then 1 else 0 := by
  have e1 : (1 : Int32) = one (nI 0) := by decide
  apply bt_ext
  intro i hi
  have key : bt ((x >>> (nI c &&& 31)) &&& 1) i = (bt (x >>> (nI c &&& 31)) i && decide (0 = i)) := by
    rw [bt_and]
    congr 1
    rw [e1, bt_one (by omega)]
  rw [key]
  by_cases e : i = 0
  · subst e
    have : bt (x >>> (nI c &&& 31)) 0 = bt x c := by
      unfold bt
      rw [shr_bv x c h, BitVec.getLsbD_sshiftRight]
      simp only [Nat.add_zero, h, if_true]
      rfl
    rw [this, decide_eq_true rfl, Bool.and_true]
    cases bt x c <;> decide
  · rw [decide_eq_false (fun h => e h.symm), Bool.and_false]
    cases bt x c
    · rw [if_neg (by decide), bt_0]
    · rw [if_pos rfl, e1, bt_one (by omega), decide_eq_false (fun h => e h.symm)]
theorem bt_shr1 (x : Int32) {c : Nat} (h : c < 32) : ((x >>> (nI c &&& 31)) &&& 1 = 1) = (bt x c = true) := by
  rw [bt_shr x h]; cases bt x c <;> decide
theorem bt_shr0 (x : Int32) {c : Nat} (h : c < 32) : ((x >>> (nI c &&& 31)) &&& 1 = 0) = (bt x c = false) := by
  rw [bt_shr x h]; cases bt x c <;> decide
theorem bt_hit (x : Int32) {c : Nat} (h : c < 32) : (x &&& one (nI c) = 0) = (bt x c = false) := by
  apply propext
  constructor
  · intro e
    have : bt (x &&& one (nI c)) c = false := by rw [e, bt_0]
    rw [bt_and, bt_one h, decide_eq_true rfl, Bool.and_true] at this
    exact this
  · intro e
    apply bt_ext
    intro i hi
    rw [bt_and, bt_one h, bt_0]
    by_cases q : c = i
    · subst q; rw [e]; rfl
    · rw [decide_eq_false q, Bool.and_false]
theorem zero_or (x : Int32) : 0 ||| x = x := by
  apply bt_ext
  intro i _
  rw [bt_or, bt_0, Bool.false_or]
theorem bitF_bt (p : Nat → Bool) (n : Nat) (hn : n ≤ 32) (i : Nat) : bt (bitF p n) i = (decide (i < n) && p i) := by
  induction n with
  | zero => rw [show bitF p 0 = 0 from rfl, bt_0]; simp only [Nat.not_lt_zero, decide_false, Bool.false_and]
  | succ n ih =>
    have ih := ih (by omega)
    have e : bitF p (n + 1) = if p n = true then bitF p n ||| one (nI n) else bitF p n := rfl
    rw [e]
    by_cases hp : p n = true
    · rw [if_pos hp, bt_or, ih, bt_one (by omega)]
      by_cases q : n = i
      · subst q; rw [hp]; simp only [decide_true, Bool.or_true, Bool.and_true, Nat.lt_succ_self]
      · rw [decide_eq_false q, Bool.or_false]
        have : (i < n) ↔ (i < n + 1) := by omega
        rw [decide_eq_decide.2 this]
    · rw [if_neg hp, ih]
      by_cases q : n = i
      · subst q; rw [Bool.eq_false_iff.2 hp, Bool.and_false, Bool.and_false]
      · have : (i < n) ↔ (i < n + 1) := by omega
        rw [decide_eq_decide.2 this]
theorem bitF_and (p q : Nat → Bool) (n : Nat) (hn : n ≤ 32) : bitF p n &&& bitF q n = bitF (fun i => p i && q i) n := by
  apply bt_ext
  intro i _
  rw [bt_and, bitF_bt p n hn, bitF_bt q n hn, bitF_bt _ n hn]
  cases decide (i < n) <;> cases p i <;> cases q i <;> rfl
theorem bc_ex (x : Int32) : ∃ y, ∀ m, fJ6_bitCount_0f7a4 x m = some (y, m) := ⟨_, fun m => by rw [fJ6_bitCount_0f7a4_eq]; rfl⟩
/-! a loop over the bottles, or the walkers, that gathers bits -/
theorem Ok.bits {f : Int32 × Int32 → MM → Option (((Int32 × Int32) ⊕ Int32) × MM)} (n : Nat) (p : Nat → Bool) (S : MM → Prop) (hn : n < 32)
    (h : ∀ i x m, i < n → S m → Ok (f (x, nI i) m) (fun o m' => o = Sum.inl (if p i = true then x ||| (1 <<< (nI i &&& 31)) else x, nI i + 1) ∧ S m'))
    (hx : ∀ x m, S m → f (x, nI n) m = some (Sum.inr x, m)) (m : MM) (h0 : S m) : Ok (loopF 1000 f (0, 0) m) (fun r m' => r = bitF p n ∧ S m') := by
  refine Ok.mono (Ok.fold (f := f) n (fun i => (bitF p i, nI i)) (bitF p n) (fun _ m' => S m') ?_ (fun m' hS => hx _ m' hS) (by omega) m h0) (fun r m' h => h)
  intro i m' hi hS
  refine (h i (bitF p i) m' hi hS).mono ?_
  intro o m2 ⟨e, hS'⟩
  rw [e, n_s]
  exact ⟨rfl, hS'⟩
theorem Ok.cnts {f : Int32 × Int32 → MM → Option (((Int32 × Int32) ⊕ Int32) × MM)} (n : Nat) (p : Nat → Bool) (S : MM → Prop) (hn : n < 32)
    (h : ∀ i x m, i < n → S m → Ok (f (x, nI i) m) (fun o m' => o = Sum.inl (if p i = true then x + 1 else x, nI i + 1) ∧ S m'))
    (hx : ∀ x m, S m → f (x, nI n) m = some (Sum.inr x, m)) (m : MM) (h0 : S m) : Ok (loopF 1000 f (0, 0) m) (fun r m' => r = nI (cnt p n) ∧ S m') := by
  refine Ok.mono (Ok.fold (f := f) n (fun i => (nI (cnt p i), nI i)) (nI (cnt p n)) (fun _ m' => S m') ?_ (fun m' hS => hx _ m' hS) (by omega) m h0) (fun r m' h => h)
  intro i m' hi hS
  refine (h i (nI (cnt p i)) m' hi hS).mono ?_
  intro o m2 ⟨e, hS'⟩
  rw [e, n_s]
  refine ⟨?_, hS'⟩
  by_cases q : p i = true
  · rw [if_pos q, cnt_t q, n_s]
  · rw [if_neg q, cnt_f q]
/-! who -/
def whoP (v : Nat → Int32) (x : Int32) (i : Nat) : Bool := if x = 3 then decide (v (66 + i) = 0 ∧ ¬ til v i 60 = -1) else decide (v (66 + i) = x)
theorem areSo_v {v : Nat → Int32} {nb nw nc : Nat} {m m0 : MM} (x : Int32) (how : Nat → Int32) (hb : m.1 7 0 4 = nI nb) (hnb : nb ≤ 8) (hh : ∀ i, i < nb → m.1 56 0 i = how i) : Ok (fX7_areSo 0 x m) (fun r m' => r = bitF (fun i => decide (how i = x)) nb ∧ m' = m) := by
  rw [fX7_areSo_eq]; unfold fX7_areSo_b
  simp only [bind_eta]
  refine Ok.bits (f := fX7_areSo_b4 0 x) nb _ (fun m' => m' = m) (by omega) ?_ ?_ m rfl
  · intro i y m' hi e
    subst e
    unfold fX7_areSo_b4
    dsimp only
    rw [hb, if_neg (by rw [n_le (by omega) (by omega)]; omega), inB_t (show i < 9 by omega) (by omega), n_cl (by omega), hh i hi]
    simp only [cond_true]
    by_cases q : how i = x
    · rw [if_neg (fun h => h q), if_pos (decide_eq_true q)]; exact Ok.ret ⟨rfl, rfl⟩
    · rw [if_pos q, if_neg (fun h => q (of_decide_eq_true h))]; exact Ok.ret ⟨rfl, rfl⟩
  · intro y m' e
    subst e
    unfold fX7_areSo_b4
    dsimp only
    rw [hb, if_pos (by rw [n_le (by omega) (by omega)]; omega)]
theorem who6 {v : Nat → Int32} {nb nw nc : Nat} {m : MM} (h : Rlt v nb nw nc m) (x : Int32) (hx : inB x 4 = true) : Ok (fX6_who 0 x m) (fun r m' => r = bitF (whoP v x) nb ∧ FrP ScrC m m') := by
  have hnb := h.1.nb.2.1
  rw [fX6_who_eq]; unfold fX6_who_b
  rw [show (3 : Int32) = nI 3 from rfl, e6_within' x 3 m (by omega), hx]
  simp only [Option.bind_some, bI_0, reduceCtorEq, not_false_eq_true, if_true, bind_eta]
  refine Ok.bits (f := fX6_who_b21 0 x) nb (whoP v x) (fun m' => FrP ScrC m m') (by omega) ?_ ?_ m FrP.rfl
  · intro i y m' hi f
    have h' := Rel_frC h f
    obtain ⟨b1, b2, b3, b4, b5⟩ := h'.1.bf hi
    unfold fX6_who_b21 whoP
    dsimp only
    rw [h'.1.nb.2.2, if_neg (by rw [n_le (by omega) (by omega)]; omega), e5_bottleAt h'.1, inB_t hi (by omega), n_cl (by omega)]
    simp only [if_true, Option.bind_some]
    rw [b5]
    by_cases q : x = 3
    · rw [if_neg (fun h => h q), if_pos q]
      by_cases q2 : v (66 + i) = 0
      · rw [if_neg (fun h => h q2)]
        refine (q_til h'.1 hi).bind ?_
        intro r m2 ⟨r1, r2⟩
        dsimp only
        rw [r1]
        by_cases q3 : til v i 60 = -1
        · rw [if_pos q3, if_neg (fun h => (of_decide_eq_true h).2 q3)]; exact Ok.ret ⟨rfl, f.trans r2⟩
        · rw [if_neg q3, if_pos (decide_eq_true ⟨q2, q3⟩)]; exact Ok.ret ⟨rfl, f.trans r2⟩
      · rw [if_pos q2, if_neg (fun h => q2 (of_decide_eq_true h).1)]; exact Ok.ret ⟨rfl, f⟩
    · rw [if_pos q, if_neg q]
      by_cases q2 : v (66 + i) = x
      · rw [if_neg (fun h => h q2), if_pos (decide_eq_true q2)]; exact Ok.ret ⟨rfl, f⟩
      · rw [if_pos q2, if_neg (fun h => q2 (of_decide_eq_true h))]; exact Ok.ret ⟨rfl, f⟩
  · intro y m' f
    have h' := Rel_frC h f
    unfold fX6_who_b21
    dsimp only
    rw [h'.1.nb.2.2, if_pos (by rw [n_le (by omega) (by omega)]; omega)]
theorem afloatThen7 {v : Nat → Int32} {nb nw nc : Nat} {m : MM} (so : Int32) (hL : Lv v m) (h : WF v nb nw nc) : Ok (fX7_afloatThen 0 so m) (fun r m' => r = bitF (fun i => decide (v (66 + i) = 0) && decide ((simV v i 60).2 = so)) nb ∧ FrP (Dto 2) m m') := by
  have hnb := h.2.1
  rw [fX7_afloatThen_eq]; unfold fX7_afloatThen_b
  refine (areSo_v (v := v) (nb := nb) (nw := nw) (nc := nc) (m0 := m) 0 (fun i => v (66 + i)) (hL.nb h) hnb (fun i hi => (hL.2.1 i (by omega)).2.2.2.2.symm)).bind ?_
  intro r1 m' ⟨a1, e⟩
  subst e
  refine (keep_ok 2 m').bind ?_
  intro _ m1 ⟨k1, k2⟩
  have hL1 := Lv_to hL k2
  refine (q_goesOn (n := 60) hL1 h (by omega)).bind ?_
  intro _ m2 ⟨_, s⟩
  have e7 : m2.1 7 0 4 = nI nb := by
    rw [s.2.2.2.1.1 7 0 4 (by unfold Dps; omega)]; exact hL1.nb h
  refine (areSo_v (v := v) (nb := nb) (nw := nw) (nc := nc) (m0 := m') so (fun i => (simV v i 60).2) e7 hnb (fun i hi => (s.B hL1 (h.m hnb) (by omega) hi (Or.inr (h.b hi).2.1)).2)).bind ?_
  intro r2 m3 ⟨a2, e⟩
  subst e
  dsimp only
  rw [a1, a2, bitF_and _ _ nb (by omega)]
  exact kept_back hL k1 k2 (s.fr (by omega) h.2.2.2.1) (fun m4 h4 => ⟨rfl, h4⟩)
theorem til_so {v : Nat → Int32} {nb nw nc i : Nat} (h : WF v nb nw nc) : decide (v (66 + i) = 0 ∧ ¬ til v i 60 = -1) = (decide (v (66 + i) = 0) && decide ((simV v i 60).2 = 1)) := by
  rw [Bool.eq_iff_iff, Bool.and_eq_true, decide_eq_true_iff, decide_eq_true_iff, decide_eq_true_iff, til_ne v i 60 (by omega)]
  exact ⟨fun ⟨a, b⟩ => ⟨a, Classical.not_not.1 b⟩, fun ⟨a, b⟩ => ⟨a, fun h => h b⟩⟩
theorem op_who {v : Nat → Int32} {nb nw nc : Nat} {m : MM} (h : Rlt v nb nw nc m) (x : Int32) : Eq2 (fX6_who 0 x) (fX7_who 0 x) m := by
  have w6_x : ∀ m, fX6_within x 0 3 m = some (inB x 4, m) := fun m => e6_within' x 3 m (by omega)
  have w7_x : ∀ m, fX7_within x 0 3 m = some (inB x 4, m) := fun m => e7_within' x 3 m (by omega)
  cases hg : (inB x 4)
  · refine Eq2.bad h ?_ ?_
    · rw [fX6_who_eq]; unfold fX6_who_b
      cases g_x : inB x 4 <;> first | (simp only [w6_x, g_x, Option.bind_some, bind_eta, bI_0, bI_1, reduceCtorEq, not_true, not_false_eq_true, if_true, if_false]; done) | (rw [g_x] at hg; cases hg)
    · intro m1 h1
      rw [fX7_who_eq]; unfold fX7_who_b
      cases g_x : inB x 4 <;> first | (simp only [w7_x, g_x, Option.bind_some, bind_eta, bI_0, bI_1, reduceCtorEq, not_true, not_false_eq_true, if_true, if_false, Bool.and_true, Bool.and_false, Bool.true_and, Bool.false_and]; done) | (rw [g_x] at hg; cases hg)
  · have g_x := hg
    have hnb := h.1.nb.2.1
    refine Eq2.ask h (bitF (whoP v x) nb) (who6 h x g_x) ?_
    intro m1 h1
    rw [fX7_who_eq]; unfold fX7_who_b
    simp only [w7_x, g_x, Option.bind_some, bind_eta, bI_0, bI_1, reduceCtorEq, not_true, not_false_eq_true, if_true, if_false, Bool.and_true]
    by_cases q : x = 3
    · rw [if_neg (fun h => h q)]
      refine (afloatThen7 1 h1.1.2.1 h1.1.1).mono ?_
      intro r m' ⟨a, f⟩
      refine ⟨a.trans (bitF_congr nb (fun i hi => ?_)), Dto_S f⟩
      unfold whoP
      rw [if_pos q, til_so h.1.1]
    · rw [if_pos q]
      refine (areSo_v (v := v) (nb := nb) (nw := nw) (nc := nc) (m0 := m1) x (fun i => v (66 + i)) h1.1.nb.1 hnb (fun i hi => (h1.1.2.1.2.1 i (by omega)).2.2.2.2.symm)).mono ?_
      intro r m' ⟨a, f⟩
      refine ⟨a.trans (bitF_congr nb (fun i hi => ?_)), f ▸ FrP.rfl⟩
      unfold whoP
      rw [if_neg q]
theorem op_strays {v : Nat → Int32} {nb nw nc : Nat} {m : MM} (h : Rlt v nb nw nc m) : Eq2 (fX6_strays 0) (fX7_strays 0) m := by
  have hnb := h.1.nb.2.1
  refine Eq2.ask h (bitF (fun i => decide ((simV v i 60).2 = 0)) nb) ?_ ?_
  · rw [fX6_strays_eq]; unfold fX6_strays_b
    simp only [bind_eta]
    refine Ok.bits (f := fX6_strays_b4 0) nb _ (fun m' => FrP ScrC m m') (by omega) ?_ ?_ m FrP.rfl
    · intro i y m' hi f
      have h' := Rel_frC h f
      unfold fX6_strays_b4
      dsimp only
      rw [h'.1.nb.2.2, if_neg (by rw [n_le (by omega) (by omega)]; omega), e5_bottleAt h'.1, inB_t hi (by omega), n_cl (by omega)]
      simp only [if_true, Option.bind_some]
      rw [h'.1.whose hi]
      simp only [Option.bind_some]
      refine (q_follow h'.1 (N := 60) hi (by omega) 0).bind ?_
      intro _ m2 ⟨t1, t2⟩
      dsimp only
      rw [nI60, e_howAt 0 60 m2 (by omega), (t1 60 (by omega)).2]
      simp only [Option.bind_some]
      by_cases q : (simV v i 60).2 = 0
      · rw [if_neg (fun h => h q), if_pos (decide_eq_true q)]; exact Ok.ret ⟨rfl, f.trans (Dfo_toC t2)⟩
      · rw [if_pos q, if_neg (fun h => q (of_decide_eq_true h))]; exact Ok.ret ⟨rfl, f.trans (Dfo_toC t2)⟩
    · intro y m' f
      have h' := Rel_frC h f
      unfold fX6_strays_b4
      dsimp only
      rw [h'.1.nb.2.2, if_pos (by rw [n_le (by omega) (by omega)]; omega)]
  · intro m1 h1
    rw [fX7_strays_eq]; unfold fX7_strays_b
    simp only [bind_eta]
    refine (afloatThen7 0 h1.1.2.1 h1.1.1).mono ?_
    intro r m' ⟨a, f⟩
    refine ⟨a.trans (bitF_congr nb (fun i hi => ?_)), Dto_S f⟩
    rw [Bool.eq_iff_iff, Bool.and_eq_true, decide_eq_true_iff, decide_eq_true_iff]
    refine ⟨fun h => h.2, fun h => ⟨?_, h⟩⟩
    by_cases h0 : (simV v i 0).2 = 0
    · exact h0
    · rw [simV_1 h0 (by omega)] at h; exact h
