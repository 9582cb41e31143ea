/-! PURE: bottles thought of -/
/-- the row with the bottle b another -/
def th (v : Nat → Int32) (b : Nat) (k a c x : Int32) : Nat → Int32 := upv (upv (upv (upv (upv v (30 + b) k) (39 + b) a) (48 + b) c) (57 + b) x) (66 + b) 0
theorem th_at (v : Nat → Int32) (b : Nat) (k a c x : Int32) (j : Nat) : th v b k a c x j = if j = 66 + b then 0 else if j = 57 + b then x else if j = 48 + b then c else if j = 39 + b then a else if j = 30 + b then k else v j := rfl
theorem th_o {v : Nat → Int32} {b : Nat} {k a c x : Int32} {j : Nat} (h : ¬ (j = 66 + b ∨ j = 57 + b ∨ j = 48 + b ∨ j = 39 + b ∨ j = 30 + b)) : th v b k a c x j = v j := by
  rw [th_at, if_neg (by omega), if_neg (by omega), if_neg (by omega), if_neg (by omega), if_neg (by omega)]
theorem th_b (v : Nat → Int32) (b : Nat) (hb : b < 9) (k a c x : Int32) : th v b k a c x (30 + b) = k ∧ th v b k a c x (39 + b) = a ∧ th v b k a c x (48 + b) = c ∧ th v b k a c x (57 + b) = x ∧ th v b k a c x (66 + b) = 0 := by
  refine ⟨?_, ?_, ?_, ?_, ?_⟩
  · rw [th_at, if_neg (by omega), if_neg (by omega), if_neg (by omega), if_neg (by omega), if_pos rfl]
  · rw [th_at, if_neg (by omega), if_neg (by omega), if_neg (by omega), if_pos rfl]
  · rw [th_at, if_neg (by omega), if_neg (by omega), if_pos rfl]
  · rw [th_at, if_neg (by omega), if_pos rfl]
  · rw [th_at, if_pos rfl]
theorem vE_same {v v' : Nat → Int32} (h : ∀ j, j < 30 ∨ j = 93 ∨ j = 94 ∨ j = 95 → v' j = v j) : vE v' = vE v := by
  unfold vE
  rw [h 93 (by omega), h 94 (by omega), h 95 (by omega)]
  have : vfl v' = vfl v := by
    funext c
    unfold vfl
    rw [inB_hi c 30 (by omega), inB_hi c 30 (by omega)]
    by_cases q : inB c 30 = true
    · rw [if_pos q, if_pos q, h _ (Or.inl (inB_ex q).1)]
    · rw [if_neg q, if_neg q]
  rw [this]
theorem vE_th {v : Nat → Int32} {b : Nat} (hb : b < 9) (k a c x : Int32) : vE (th v b k a c x) = vE v := vE_same (fun j hj => th_o (by omega))
theorem th_eqv {v v' : Nat → Int32} (e : EqV v v') (k a c x : Int32) : th v' 8 k a c x = th v 8 k a c x := by
  funext j
  rw [th_at, th_at]
  by_cases h1 : j = 66 + 8
  · rw [if_pos h1, if_pos h1]
  · rw [if_neg h1, if_neg h1]
    by_cases h2 : j = 57 + 8
    · rw [if_pos h2, if_pos h2]
    · rw [if_neg h2, if_neg h2]
      by_cases h3 : j = 48 + 8
      · rw [if_pos h3, if_pos h3]
      · rw [if_neg h3, if_neg h3]
        by_cases h4 : j = 39 + 8
        · rw [if_pos h4, if_pos h4]
        · rw [if_neg h4, if_neg h4]
          by_cases h5 : j = 30 + 8
          · rw [if_pos h5, if_pos h5]
          · rw [if_neg h5, if_neg h5]; exact e j (by omega)
theorem WFm_th {v : Nat → Int32} {nb nw nc b many : Nat} {k a c x : Int32} (h : WF v nb nw nc) (hb : b < 9) (hm : many ≤ 8 ∨ (many = 9 ∧ b = 8)) (hc : inB c nc = true) (hx : x = -1 ∨ inB x 6 = true) : WFm (th v b k a c x) many nw nc := by
  obtain ⟨h1, h2, h3, h4, h5, h6, h7, h8, h9, h10, h11⟩ := h
  obtain ⟨_, _, t3, t4, _⟩ := th_b v b hb k a c x
  refine ⟨by rw [th_o (by omega)]; exact h3, h4, by rw [th_o (by omega)]; exact h5, by omega, h7, ?_, ?_, by rw [th_o (by omega)]; exact h11⟩
  · intro i hi
    by_cases e : i = b
    · rw [e, t3, t4]; exact ⟨inB_mono hc h7, hx⟩
    · rw [th_o (by omega), th_o (by omega)]; exact h8 i (by omega)
  · intro w hw
    unfold vW
    rw [th_o (by omega), th_o (by omega), th_o (by omega)]
    exact ⟨inB_mono (h10 w hw).1 (by omega), (h10 w hw).2⟩
/-- the class's thought one -/
theorem BF_th (v : Nat → Int32) (b : Nat) (hb : b < 9) (k a c x : Int32) (m : MM) : BF (upI (upI (upI (upI (upI m.1 0 27 0 k) 0 27 1 a) 0 27 2 c) 0 27 3 x) 0 27 4 0) 27 (th v b k a c x) b := by
  obtain ⟨t1, t2, t3, t4, t5⟩ := th_b v b hb k a c x
  unfold BF
  rw [t1, t2, t3, t4, t5]
  simp only [upI_same, upI_k, upI_c, ne_eq, not_false_eq_true, reduceCtorEq, Nat.reduceEqDiff, Nat.zero_ne_one, Nat.one_ne_zero, and_self]
theorem Fr27_C {m m' : MM} (h : Fr (fun c i => c = 0 ∧ i = 27) m m') : FrP ScrC m m' := h.toC (fun c i h k => by unfold ScrC; omega) (by omega)
/-! aim -/
def DS8 : Nat → Nat → Nat → Prop := fun c i k => Dto 2 c i k ∨ (52 ≤ c ∧ c ≤ 56 ∧ i = 0 ∧ k = 8)
theorem DS8_S {m m' : MM} (h : FrP DS8 m m') : FrP Scr m m' := h.mono (by unfold DS8 Dto Scr; omega)
theorem thrown7 {v : Nat → Int32} {nb nw nc k c : Nat} {m : MM} (kd a : Int32) (hL : Lv v m) (h : WF v nb nw nc) (hk : k < nw) (hc : c < nc) : Ok (fX7_whenThrown 0 kd a (nI c) (nI k) m) (fun r m' => r = til (th v 8 kd a (nI c) (nI k)) 8 60 ∧ FrP DS8 m m') := by
  have hnw := h.2.2.2.1
  have hnc := h.2.2.2.2.2.2.1
  rw [fX7_whenThrown_eq]; unfold fX7_whenThrown_b
  rw [show (8 : Int32) = nI 8 from rfl, e7_becomes kd a (nI c) (nI k) m (by omega)]
  simp only [Option.bind_some, bind_eta]
  have hL2 : Lv (th v 8 kd a (nI c) (nI k)) (mB7 m.1 8 kd a (nI c) (nI k), m.2) := Lv_mB7 hL (by omega)
  have f2 := FrP_B7 8 kd a (nI c) (nI k) m
  generalize (mB7 m.1 8 kd a (nI c) (nI k), m.2) = m2 at hL2 f2
  obtain ⟨_, _, _, t4, _⟩ := th_b v 8 (by omega) kd a (nI c) (nI k)
  have i6 : inB (nI k) 6 = true := inB_t (by omega) (by omega)
  have ink : inB (nI k) nw = true := inB_t hk (by omega)
  have hw := WFm_th (many := 9) (k := kd) (a := a) (c := nI c) (x := nI k) h (show 8 < 9 by omega) (Or.inr ⟨rfl, rfl⟩) (inB_t hc (by omega)) (Or.inr i6)
  exact (whenSo_ok (many := 9) 8 1 m2 hL2 (by omega) hw (by omega) (Or.inr (by rw [t4]; exact ink))).mono (fun r m' ⟨a1, a2⟩ => ⟨a1, (f2.mono (fun c i k q => Or.inr q)).trans (a2.mono (fun c i k q => Or.inl q))⟩)
theorem th_wf {v : Nat → Int32} {k : Nat} (kd a c x : Int32) {mi : MI} {y : Nat} (h : WFd mi y v k) (hk : k < 6) : WFd mi y (th v 8 kd a c x) k := by
  unfold WFd
  rw [th_o (by omega), th_o (by omega), th_o (by omega)]; exact h
theorem op_aim {v : Nat → Int32} {nb nw nc : Nat} {m : MM} (h : Rlt v nb nw nc m) (x : Int32) (y : Int32) (z : Int32) (w : Int32) : Eq2 (fX6_aim 0 x y z w) (fX7_aim 0 x y z w) m := by
  have w6_x : ∀ m, fX6_within x 0 5 m = some (inB x 6, m) := fun m => e6_within' x 5 m (by omega)
  have w7_x : ∀ m, fX7_within x 0 5 m = some (inB x 6, m) := fun m => e7_within' x 5 m (by omega)
  have w6_y : ∀ m, fX6_within y 0 9 m = some (inB y 10, m) := fun m => e6_within' y 9 m (by omega)
  have w7_y : ∀ m, fX7_within y 0 9 m = some (inB y 10, m) := fun m => e7_within' y 9 m (by omega)
  have w6_w : ∀ m, fX6_within w 0 1 m = some (inB w 2, m) := fun m => e6_within' w 1 m (by omega)
  have w7_w : ∀ m, fX7_within w 0 1 m = some (inB w 2, m) := fun m => e7_within' w 1 m (by omega)
  cases hg : ((inB x 6) && (inB y 10) && (inB z nw) && (inB w 2))
  · refine Eq2.bad h ?_ ?_
    · rw [fX6_aim_eq]; unfold fX6_aim_b
      cases g_x : inB x 6 <;> cases g_y : inB y 10 <;> cases g_z : inB z nw <;> cases g_w : inB w 2 <;> first | (simp only [w6_x, e6_isKind, w6_y, e5_walkerAt h.1, w6_w, g_x, g_y, g_z, g_w, Option.bind_some, bind_eta, bI_0, bI_1, reduceCtorEq, not_true, not_false_eq_true, if_true, if_false]; done) | (rw [g_x, g_y, g_z, g_w] at hg; cases hg)
    · intro m1 h1
      rw [fX7_aim_eq]; unfold fX7_aim_b
      cases g_x : inB x 6 <;> cases g_y : inB y 10 <;> cases g_z : inB z nw <;> cases g_w : inB w 2 <;> first | (simp only [w7_x, e7_isSuch, w7_y, e7_isWalker h1, w7_w, g_x, g_y, g_z, g_w, Option.bind_some, bind_eta, bI_0, bI_1, reduceCtorEq, not_true, not_false_eq_true, if_true, if_false, Bool.and_true, Bool.and_false, Bool.true_and, Bool.false_and]; done) | (rw [g_x, g_y, g_z, g_w] at hg; cases hg)
  · simp only [Bool.and_eq_true] at hg
    obtain ⟨⟨⟨g_x, g_y⟩, g_z⟩, g_w⟩ := hg
    obtain ⟨hl_k, he_k⟩ := inB_ex g_z
    have hu_k := n_clb z
    have hc_k : ∀ k, k = z.toNatClampNeg → (nI k).toNatClampNeg = k := fun k hk => n_cl (by omega)
    replace hc_k := hc_k _ rfl
    generalize z.toNatClampNeg = k at hl_k he_k hc_k hu_k
    subst he_k
    have hnw := h.1.nw.2.1
    have hnc := h.1.nc
    refine Eq2.ask h (if w = 0 then (bst nI (fun c => til (th v 8 x y (nI c) (nI k)) 8 60) nc).1 else (bst nI (fun c => til (th v 8 x y (nI c) (nI k)) 8 60) nc).2) ?_ ?_
    · rw [fX6_aim_eq]; unfold fX6_aim_b
      simp only [w6_x, e6_isKind, w6_y, e5_walkerAt h.1, w6_w, g_x, g_y, g_z, g_w, hc_k, Option.bind_some, bind_eta, bI_0, bI_1, reduceCtorEq, not_true, not_false_eq_true, if_true, if_false]
      refine Ok.bind (Ok.fold (f := fX6_aim_b59 0 x y (nI k) w (1 + k)) nc (fun i => ((bst nI (fun c => til (th v 8 x y (nI c) (nI k)) 8 60) i).1, (bst nI (fun c => til (th v 8 x y (nI c) (nI k)) 8 60) i).2, nI i)) (bst nI (fun c => til (th v 8 x y (nI c) (nI k)) 8 60) nc) (fun _ m' => FrP ScrC m m') ?_ ?_ (by omega) m FrP.rfl) ?_
      · intro c m' hc f
        have h' := Rel_frC h f
        unfold fX6_aim_b59
        dsimp only
        rw [h'.1.nc.2.2.2, if_neg (by rw [n_le (by omega) (by omega)]; omega), e_start]
        simp only [Option.bind_some]
        have f1 := Fr27_C (Fr_start 27 x y (nI c) (nI k) m')
        have b1 := BF_th v 8 (by omega) x y (nI c) (nI k) m'
        generalize hm2 : (upI (upI (upI (upI (upI m'.1 0 27 0 x) 0 27 1 y) 0 27 2 (nI c)) 0 27 3 (nI k)) 0 27 4 0, m'.2) = m2 at f1
        have b2 : BF m2.1 27 (th v 8 x y (nI c) (nI k)) 8 := by rw [← hm2]; exact b1
        have h2 := Rel_frC h' f1
        have W := h2.1.wf hl_k
        obtain ⟨_, _, _, t4, _⟩ := th_b v 8 (by omega) x y (nI c) (nI k)
        have hE : cE m2 0 = vE (th v 8 x y (nI c) (nI k)) := by rw [vE_th (by omega)]; exact h2.1.E
        have fin : FinOK m2 (th v 8 x y (nI c) (nI k)) 8 (some (1 + k)) := by
          refine Or.inr ⟨_, rfl, ?_, ?_, ?_⟩
          · rw [t4]; exact inB_t (by omega) (by omega)
          · rw [t4, hc_k]; exact th_wf _ _ _ _ W (by omega)
          · rw [W.2.1]; exact h.1.1.p100 hl_k
        refine (soonest_v (N := 60) 0 hE b2 fin (by omega)).bind ?_
        intro r m3 ⟨r1, r2⟩
        dsimp only
        rw [r1, code6, bst_6]
        exact Ok.ret ⟨by rw [n_s], (f.trans f1).trans (Dfo_toC r2)⟩
      · intro m' f
        have h' := Rel_frC h f
        unfold fX6_aim_b59
        dsimp only
        rw [h'.1.nc.2.2.2, if_pos (by rw [n_le (by omega) (by omega)]; omega)]
      · intro r m' ⟨a, f⟩
        dsimp only
        rw [a]
        by_cases q : w = 0
        · rw [if_neg (fun h => h q), if_pos q]; exact Ok.ret ⟨rfl, f⟩
        · rw [if_pos q, if_neg q]; exact Ok.ret ⟨rfl, f⟩
    · intro m1 h1
      rw [fX7_aim_eq]; unfold fX7_aim_b
      simp only [w7_x, e7_isSuch, w7_y, e7_isWalker h1.1, w7_w, g_x, g_y, g_z, g_w, hc_k, Option.bind_some, bind_eta, bI_0, bI_1, reduceCtorEq, not_true, not_false_eq_true, if_true, if_false, Bool.and_true]
      have hin : ∀ n, ∀ i, i < n → til (th v 8 x y (nI i) (nI k)) 8 60 = -1 ∨ inB (til (th v 8 x y (nI i) (nI k)) 8 60) 61 = true := fun _ i _ => til_in _ 8
      refine Ok.bind (Ok.fold (f := fX7_aim_b44 0 x y (nI k) w) nc (fun i => ((bst7 nI (fun c => til (th v 8 x y (nI c) (nI k)) 8 60) i).1, (bst7 nI (fun c => til (th v 8 x y (nI c) (nI k)) 8 60) i).2, nI i)) (bst7 nI (fun c => til (th v 8 x y (nI c) (nI k)) 8 60) nc) (fun _ m' => FrP DS8 m1 m') ?_ ?_ (by omega) m1 FrP.rfl) ?_
      · intro c m' hc f
        obtain ⟨v', hL', he'⟩ := Lv_slot h1.1.lv (DS8_S f)
        unfold fX7_aim_b44
        dsimp only
        rw [(f.1 7 0 0 (by unfold DS8 Dto; omega)).trans h1.1.nc.1, if_neg (by rw [n_le (by omega) (by omega)]; omega)]
        refine (thrown7 x y hL' (WF_eqv h1.1.1 he') hl_k hc).bind ?_
        intro r m2 ⟨r1, r2⟩
        dsimp only
        rw [th_eqv he'] at r1
        rw [r1, code7, bst_7 c (hin _)]
        exact Ok.ret ⟨by rw [n_s], f.trans r2⟩
      · intro m' f
        unfold fX7_aim_b44
        dsimp only
        rw [(f.1 7 0 0 (by unfold DS8 Dto; omega)).trans h1.1.nc.1, if_pos (by rw [n_le (by omega) (by omega)]; omega)]
      · intro r m' ⟨a, f⟩
        dsimp only
        rw [a]
        have hl : ∀ i, i < nc → ¬ nI i = -1 := fun i hi q => (n_m1 i (by omega)).1 q
        have e := bst7_end (lab := nI) nc (hin nc) hl
        by_cases q : w = 0
        · rw [if_pos q, if_pos q]; exact Ok.ret ⟨rfl, DS8_S f⟩
        · rw [if_neg q, if_neg q]
          by_cases q2 : (bst7 nI (fun c => til (th v 8 x y (nI c) (nI k)) 8 60) nc).1 = -1
          · rw [if_neg (fun h => h q2)]
            have e2 := e.2
            rw [if_pos q2] at e2
            exact Ok.ret ⟨e2, DS8_S f⟩
          · rw [if_pos q2]
            have e2 := e.2
            rw [if_neg q2] at e2
            exact Ok.ret ⟨e2, DS8_S f⟩
/-! from -/
def frP (v : Nat → Int32) (b n : Nat) (x : Int32) (c : Nat) : Bool := decide ((simV (th v b (v (30 + b)) (v (39 + b)) (nI c) (-1)) b n).2 = 0 ∧ (simV (th v b (v (30 + b)) (v (39 + b)) (nI c) (-1)) b n).1 = x)
theorem op_from {v : Nat → Int32} {nb nw nc : Nat} {m : MM} (h : Rlt v nb nw nc m) (x : Int32) (y : Int32) (z : Int32) : Eq2 (fX6_from 0 x y z) (fX7_from 0 x y z) m := by
  have w6_y : ∀ m, fX6_within y 0 30 m = some (inB y 31, m) := fun m => e6_within' y 30 m (by omega)
  have w7_y : ∀ m, fX7_within y 0 30 m = some (inB y 31, m) := fun m => e7_within' y 30 m (by omega)
  cases hg : ((inB x nb) && (inB y 31) && (inB z nc))
  · refine Eq2.bad h ?_ ?_
    · rw [fX6_from_eq]; unfold fX6_from_b
      cases g_x : inB x nb <;> cases g_y : inB y 31 <;> cases g_z : inB z nc <;> first | (simp only [e5_bottleAt h.1, w6_y, e5_hasCell h.1, g_x, g_y, g_z, Option.bind_some, bind_eta, bI_0, bI_1, reduceCtorEq, not_true, not_false_eq_true, if_true, if_false]; done) | (rw [g_x, g_y, g_z] at hg; cases hg)
    · intro m1 h1
      rw [fX7_from_eq]; unfold fX7_from_b
      cases g_x : inB x nb <;> cases g_y : inB y 31 <;> cases g_z : inB z nc <;> first | (simp only [e7_isBottle h1, w7_y, e7_isCell' h1, g_x, g_y, g_z, Option.bind_some, bind_eta, bI_0, bI_1, reduceCtorEq, not_true, not_false_eq_true, if_true, if_false, Bool.and_true, Bool.and_false, Bool.true_and, Bool.false_and]; done) | (rw [g_x, g_y, g_z] at hg; cases hg)
  · simp only [Bool.and_eq_true] at hg
    obtain ⟨⟨g_x, g_y⟩, g_z⟩ := hg
    obtain ⟨hl_b, he_b⟩ := inB_ex g_x
    have hu_b := n_clb x
    have hc_b : ∀ k, k = x.toNatClampNeg → (nI k).toNatClampNeg = k := fun k hk => n_cl (by omega)
    replace hc_b := hc_b _ rfl
    generalize x.toNatClampNeg = b at hl_b he_b hc_b hu_b
    subst he_b
    obtain ⟨hl_n, he_n⟩ := inB_ex g_y
    have hu_n := n_clb y
    have hc_n : ∀ k, k = y.toNatClampNeg → (nI k).toNatClampNeg = k := fun k hk => n_cl (by omega)
    replace hc_n := hc_n _ rfl
    generalize y.toNatClampNeg = n at hl_n he_n hc_n hu_n
    subst he_n
    have hnb := h.1.nb.2.1
    have hnc := h.1.nc
    refine Eq2.ask h (bitF (frP v b n z) nc) ?_ ?_
    · rw [fX6_from_eq]; unfold fX6_from_b
      simp only [e5_bottleAt h.1, w6_y, e5_hasCell h.1, g_x, g_y, g_z, hc_b, hc_n, Option.bind_some, bind_eta, bI_0, bI_1, reduceCtorEq, not_true, not_false_eq_true, if_true, if_false]
      refine (Ok.bits (f := fX6_from_b50 0 (nI n) z (1 + b)) nc (frP v b n z) (fun m' => FrP ScrC m m') (by omega) ?_ ?_ m FrP.rfl).mono (fun r m' h => h)
      · intro c t m' hc f
        have h' := Rel_frC h f
        obtain ⟨b1, b2, b3, b4, b5⟩ := h'.1.bf hl_b
        unfold fX6_from_b50 frP
        dsimp only
        rw [h'.1.nc.2.2.2, if_neg (by rw [n_le (by omega) (by omega)]; omega), e_start, b1, b2]
        simp only [Option.bind_some]
        have f1 := Fr27_C (Fr_start 27 (v (30 + b)) (v (39 + b)) (nI c) (-1) m')
        have b1' := BF_th v b (by omega) (v (30 + b)) (v (39 + b)) (nI c) (-1) m'
        generalize hm2 : (upI (upI (upI (upI (upI m'.1 0 27 0 (v (30 + b))) 0 27 1 (v (39 + b))) 0 27 2 (nI c)) 0 27 3 (-1)) 0 27 4 0, m'.2) = m2 at f1
        have b2' : BF m2.1 27 (th v b (v (30 + b)) (v (39 + b)) (nI c) (-1)) b := by rw [← hm2]; exact b1'
        have h2 := Rel_frC h' f1
        obtain ⟨_, _, _, t4, _⟩ := th_b v b (by omega) (v (30 + b)) (v (39 + b)) (nI c) (-1)
        have hE : cE m2 0 = vE (th v b (v (30 + b)) (v (39 + b)) (nI c) (-1)) := by rw [vE_th (by omega)]; exact h2.1.E
        generalize th v b (v (30 + b)) (v (39 + b)) (nI c) (-1) = v' at *
        refine (follow_v (f := none) (N := n) 0 hE b2' (Or.inl ⟨rfl, t4⟩) (by omega)).bind ?_
        intro _ m3 ⟨t1, t2⟩
        dsimp only
        rw [e_howAt 0 n m3 (by omega), (t1 n (by omega)).2]
        simp only [Option.bind_some]
        by_cases q : (simV v' b n).2 = 0
        · rw [if_neg (fun h => h q), e_cellAt 0 n m3 (by omega), (t1 n (by omega)).1]
          simp only [Option.bind_some]
          by_cases q2 : (simV v' b n).1 = z
          · rw [if_neg (fun h => h q2), if_pos (decide_eq_true ⟨q, q2⟩)]; exact Ok.ret ⟨rfl, (f.trans f1).trans (Dfo_toC t2)⟩
          · rw [if_pos q2, if_neg (fun h => q2 (of_decide_eq_true h).2)]; exact Ok.ret ⟨rfl, (f.trans f1).trans (Dfo_toC t2)⟩
        · rw [if_pos q, if_neg (fun h => q (of_decide_eq_true h).1)]; exact Ok.ret ⟨rfl, (f.trans f1).trans (Dfo_toC t2)⟩
      · intro t m' f
        have h' := Rel_frC h f
        unfold fX6_from_b50
        dsimp only
        rw [h'.1.nc.2.2.2, if_pos (by rw [n_le (by omega) (by omega)]; omega)]
    · intro m1 h1
      rw [fX7_from_eq]; unfold fX7_from_b
      simp only [e7_isBottle h1.1, w7_y, e7_isCell' h1.1, g_x, g_y, g_z, hc_b, hc_n, Option.bind_some, bind_eta, bI_0, bI_1, reduceCtorEq, not_true, not_false_eq_true, if_true, if_false, Bool.and_true]
      refine (Ok.bits (f := fX7_from_b40 0 (nI b) (nI n) z) nc (frP v b n z) (fun m' => FrP (Dto 2) m1 m') (by omega) ?_ ?_ m1 FrP.rfl).mono (fun r m' ⟨a, f⟩ => ⟨a, Dto_S f⟩)
      · intro c t m' hc f
        have hL := Lv_to h1.1.lv f
        unfold fX7_from_b40 frP
        dsimp only
        rw [hL.nc h1.1.1, if_neg (by rw [n_le (by omega) (by omega)]; omega)]
        refine (keep_ok 2 m').bind ?_
        intro _ m2 ⟨k1, k2⟩
        have hL2 := Lv_to hL k2
        dsimp only
        obtain ⟨c1, c2, _, _, _⟩ := hL2.2.1 b (by omega)
        rw [inB_t (show b < 9 by omega) (by omega), n_cl (show b < 2147483648 by omega), ← c1, ← c2, e7_becomes _ _ _ _ m2 (by omega)]
        simp only [cond_true, Option.bind_some]
        have hL3 : Lv (th v b (v (30 + b)) (v (39 + b)) (nI c) (-1)) (mB7 m2.1 b (v (30 + b)) (v (39 + b)) (nI c) (-1), m2.2) := Lv_mB7 hL2 (by omega)
        have f3 : FrP Dlv m2 (mB7 m2.1 b (v (30 + b)) (v (39 + b)) (nI c) (-1), m2.2) := (FrP_B7 b _ _ _ _ m2).mono (by unfold Dlv; omega)
        obtain ⟨_, _, _, t4, _⟩ := th_b v b (by omega) (v (30 + b)) (v (39 + b)) (nI c) (-1)
        have hw := WFm_th (many := nb) (k := v (30 + b)) (a := v (39 + b)) (c := nI c) (x := -1) h1.1.1 (show b < 9 by omega) (Or.inl hnb) (inB_t hc (by omega)) (Or.inl rfl)
        have h97 : th v b (v (30 + b)) (v (39 + b)) (nI c) (-1) 97 = nI nb := by rw [th_o (by omega)]; exact h1.1.1.1
        have hx : ∀ i, i < nb → th v b (v (30 + b)) (v (39 + b)) (nI c) (-1) (57 + i) = -1 ∨ inB (th v b (v (30 + b)) (v (39 + b)) (nI c) (-1) (57 + i)) nw = true := by
          intro i hi
          by_cases e : i = b
          · rw [e, t4]; exact Or.inl rfl
          · rw [th_o (by omega)]; exact Or.inr (h1.1.1.b hi).2.1
        generalize th v b (v (30 + b)) (v (39 + b)) (nI c) (-1) = v' at *
        generalize (mB7 m2.1 b (v (30 + b)) (v (39 + b)) (nI c) (-1), m2.2) = m3 at hL3 f3
        refine (goesOn_ok n m3 hL3 hnb h97 hw hx (by omega)).bind ?_
        intro _ m4 ⟨_, s⟩
        have hs := s.B hL3 hw (by omega) hl_b (hx b hl_b)
        dsimp only
        rw [hs.1, hs.2]
        have kb := kept_back (a := ()) (Q := fun _ m5 => FrP (Dto 2) m' m5) hL k1 k2 (f3.trans (s.fr (by omega) h1.1.nw.2.1)) (fun m5 h5 => h5)
        obtain ⟨_, m5, e5, p5⟩ := kb
        have e6 : fX7_again 0 2 m4 = some ((), m5) := by
          cases q : fX7_again 0 2 m4 with
          | none => rw [q] at e5; cases e5
          | some o => rw [q] at e5; cases e5; rfl
        rw [e6]
        simp only [Option.bind_some]
        by_cases q : (simV v' b n).2 = 0
        · rw [if_neg (fun h => h q)]
          by_cases q2 : (simV v' b n).1 = z
          · rw [if_neg (fun h => h q2), if_pos (decide_eq_true ⟨q, q2⟩)]; exact Ok.ret ⟨rfl, f.trans p5⟩
          · rw [if_pos q2, if_neg (fun h => q2 (of_decide_eq_true h).2)]; exact Ok.ret ⟨rfl, f.trans p5⟩
        · rw [if_pos q, if_neg (fun h => q (of_decide_eq_true h).1)]; exact Ok.ret ⟨rfl, f.trans p5⟩
      · intro t m' f
        have hL := Lv_to h1.1.lv f
        unfold fX7_from_b40
        dsimp only
        rw [hL.nc h1.1.1, if_pos (by rw [n_le (by omega) (by omega)]; omega)]
