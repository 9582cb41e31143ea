/-! PURE: busiest -/
def V60 (v : Nat → Int32) (i : Nat) : Int32 := vis (fun d => (simN v i d).1) 60
def bsK (v : Nat → Int32) (nb c : Nat) : Int32 := nI (cnt (fun i => bt (V60 v i) c) nb)
theorem add_bit {x : Int32} {c n : Nat} {p : Nat → Bool} (hc : c < 32) (hp : p n = bt x c) : nI (cnt p n) + ((x >>> (nI c &&& 31)) &&& 1) = nI (cnt p (n + 1)) := by
  rw [bt_shr x hc, ← hp]
  by_cases q : p n = true
  · rw [if_pos q, cnt_t q, n_s]
  · rw [if_neg q, cnt_f q, Int32.add_zero]
theorem fill6 {v : Nat → Int32} {nb nw nc : Nat} {m : MM} (h : Rlt v nb nw nc m) : Ok (fX6_fillVisited 0 m) (fun _ m' => (∀ i, i < nb → m'.1 48 0 i = V60 v i) ∧ FrP ScrC m m') := by
  have hnb := h.1.nb.2.1
  rw [fX6_fillVisited_eq]; unfold fX6_fillVisited_b
  refine Ok.bind (P := fun _ m' => (∀ i, i < nb → m'.1 48 0 i = V60 v i) ∧ FrP ScrC m m') ?_ (fun _ _ h => Ok.ret h)
  refine Ok.count 0 8 (fun i s m' => s = nI i ∧ (∀ j, j < i → j < nb → m'.1 48 0 j = V60 v j) ∧ FrP ScrC m m') ?_ ?_ (by omega) 1000 (by omega) 0 m ⟨rfl, fun j h => by omega, FrP.rfl⟩
  · intro i s m' _ hi ⟨e1, e2, f⟩
    subst e1
    have h' := Rel_frC h f
    unfold fX6_fillVisited_b2
    rw [if_neg (by rw [n_le (by omega) (by omega)]; omega), e5_bottleAt h'.1]
    simp only [Option.bind_some]
    have s48 : ∀ x j, ScrC 48 x j := fun x j => by unfold ScrC; omega
    have f1 : FrP ScrC m (upI m'.1 48 0 i 0, m'.2) := FrP.up f (s48 _ _) _
    by_cases q : i < nb
    · rw [inB_t q (by omega), if_pos rfl, inB_t hi (by omega), n_cl (by omega)]
      dsimp only
      simp only [cond_true]
      have h1 := Rel_frC h f1
      have o1 : ∀ j, j < i → (upI m'.1 48 0 i 0) 48 0 j = m'.1 48 0 j := fun j hj => upI_nn (by omega)
      generalize (upI m'.1 48 0 i 0) = M at *
      refine (q_follow0 h1.1 (N := 60) q (by omega) 0).bind ?_
      intro _ m2 ⟨t1, t2⟩
      dsimp only
      refine (visited6 (T := simN v i) 0 (fun d hd => (t1 d hd).1)).bind ?_
      intro r m3 ⟨r1, r2⟩
      subst r2
      dsimp only
      refine Ok.ret ⟨(n_s i).symm, fun j hj hjb => ?_, FrP.up (f1.trans (Dfo_toC t2)) (s48 _ _) _⟩
      dsimp only
      by_cases e : j = i
      · subst e; rw [upI_same]; exact r1
      · rw [upI_nn (by omega), (t2 48 0 (by unfold Dfo; omega) j).1]
        dsimp only
        rw [o1 j (by omega)]; exact e2 j (by omega) hjb
    · have : inB (nI i) nb = false := by rw [inB_nn (by omega), decide_eq_false q]
      rw [this, if_neg (by decide), inB_t hi (by omega), n_cl (by omega)]
      refine Ok.ret ⟨(n_s i).symm, fun j hj hjb => ?_, f1⟩
      dsimp only
      rw [upI_nn (by omega)]; exact e2 j (by omega) hjb
  · intro s m' ⟨e1, e2, f⟩
    unfold fX6_fillVisited_b2
    rw [e1, if_pos (by rw [n_le (by omega) (by omega)]; omega)]
    exact Ok.ret ⟨fun j hj => e2 j (by omega) hj, f⟩
theorem busy_1 (a : Int32) {nc : Nat} (m : MM) (h : m.1 7 0 0 = nI nc) (hn : nc ≤ 30) : Ok (loopF 1000 (fX7_busiest_b19 0 a) 0 m) (fun _ m' => (∀ c, c < nc → m'.1 68 0 c = 0) ∧ FrP (fun c _ _ => c = 68) m m') := by
  refine Ok.count 0 nc (fun i s m' => s = nI i ∧ (∀ c, c < i → m'.1 68 0 c = 0) ∧ FrP (fun c _ _ => c = 68) m m') ?_ ?_ (by omega) 1000 (by omega) 0 m ⟨rfl, fun j h => by omega, FrP.rfl⟩
  · intro i s m' _ hi ⟨e1, e2, f⟩
    subst e1
    unfold fX7_busiest_b19
    rw [(f.1 7 0 0 (by omega)).trans h, if_neg (by rw [n_le (by omega) (by omega)]; omega), inB_t (show i < 30 by omega) (by omega), n_cl (by omega)]
    refine Ok.ret ⟨(n_s i).symm, fun c hc => ?_, FrP.up f rfl _⟩
    dsimp only
    by_cases e : c = i
    · subst e; exact upI_same _ _ _ _ _
    · rw [upI_nn (by omega)]; exact e2 c (by omega)
  · intro s m' ⟨e1, e2, f⟩
    unfold fX7_busiest_b19
    rw [e1, (f.1 7 0 0 (by omega)).trans h, if_pos (by rw [n_le (by omega) (by omega)]; omega)]
    exact Ok.ret ⟨e2, f⟩
theorem busy_2 (a : Int32) {v : Nat → Int32} {nc b : Nat} (m : MM) (h : m.1 7 0 0 = nI nc) (hn : nc ≤ 30) (h0 : ∀ c, c < nc → m.1 68 0 c = bsK v b c) : Ok (loopF 1000 (fX7_busiest_b59 0 a (nI b) (V60 v b)) 0 m) (fun _ m' => (∀ c, c < nc → m'.1 68 0 c = bsK v (b + 1) c) ∧ FrP (fun c _ _ => c = 68) m m') := by
  refine Ok.count 0 nc (fun i s m' => s = nI i ∧ (∀ c, c < nc → m'.1 68 0 c = bsK v (if c < i then b + 1 else b) c) ∧ FrP (fun c _ _ => c = 68) m m') ?_ ?_ (by omega) 1000 (by omega) 0 m ⟨rfl, fun c hc => by rw [if_neg (by omega)]; exact h0 c hc, FrP.rfl⟩
  · intro i s m' _ hi ⟨e1, e2, f⟩
    subst e1
    unfold fX7_busiest_b59
    rw [(f.1 7 0 0 (by omega)).trans h, if_neg (by rw [n_le (by omega) (by omega)]; omega), inB_t (show i < 30 by omega) (by omega), n_cl (by omega)]
    refine Ok.ret ⟨(n_s i).symm, fun c hc => ?_, FrP.up f rfl _⟩
    dsimp only
    by_cases e : c = i
    · subst e
      rw [upI_same, if_pos (by omega), e2 c hc, if_neg (by omega)]
      exact add_bit (by omega) rfl
    · rw [upI_nn (by omega), e2 c hc]
      by_cases q : c < i
      · rw [if_pos q, if_pos (by omega)]
      · rw [if_neg q, if_neg (by omega)]
  · intro s m' ⟨e1, e2, f⟩
    unfold fX7_busiest_b59
    rw [e1, (f.1 7 0 0 (by omega)).trans h, if_pos (by rw [n_le (by omega) (by omega)]; omega)]
    exact Ok.ret ⟨fun c hc => by rw [e2 c hc, if_pos hc], f⟩
def D68 : Nat → Nat → Nat → Prop := fun c i k => Dto 2 c i k ∨ c = 68
theorem busy_3 (a : Int32) {v : Nat → Int32} {nb nw nc : Nat} {m : MM} (hL : Lv v m) (h : WF v nb nw nc) (h0 : ∀ c, c < nc → m.1 68 0 c = 0) : Ok (loopF 1000 (fX7_busiest_b42 0 a) 0 m) (fun _ m' => (∀ c, c < nc → m'.1 68 0 c = bsK v nb c) ∧ FrP D68 m m') := by
  have hnb := h.2.1
  have hnc := h.2.2.2.2.2.2.1
  refine Ok.count 0 nb (fun i s m' => s = nI i ∧ (∀ c, c < nc → m'.1 68 0 c = bsK v i c) ∧ FrP D68 m m') ?_ ?_ (by omega) 1000 (by omega) 0 m ⟨rfl, fun c hc => h0 c hc, FrP.rfl⟩
  · intro i s m' _ hi ⟨e1, e2, f⟩
    subst e1
    have hL' : Lv v m' := Lv_fr hL f (by unfold Dlv D68 Dto; omega)
    unfold fX7_busiest_b42
    rw [hL'.nb h, if_neg (by rw [n_le (by omega) (by omega)]; omega)]
    refine (cells7 hL' h hi).bind ?_
    intro r m2 ⟨r1, r2⟩
    dsimp only
    have r1 : r = V60 v i := r1
    rw [r1]
    refine (busy_2 (v := v) (b := i) a m2 ((Lv_to hL' r2).nc h) hnc (fun c hc => by rw [r2.1 68 0 c (by unfold Dto; omega)]; exact e2 c hc)).bind ?_
    intro _ m3 ⟨a1, a2⟩
    exact Ok.ret ⟨(n_s i).symm, a1, f.trans ((r2.mono (fun c i k q => Or.inl q)).trans (a2.mono (fun c i k q => Or.inr q)))⟩
  · intro s m' ⟨e1, e2, f⟩
    have hL' : Lv v m' := Lv_fr hL f (by unfold Dlv D68 Dto; omega)
    unfold fX7_busiest_b42
    rw [e1, hL'.nb h, if_pos (by rw [n_le (by omega) (by omega)]; omega)]
    exact Ok.ret ⟨e2, f⟩
theorem mxs_lab {K : Nat → Int32} (h0 : ¬ K 0 ≤ -1) (n : Nat) : ∃ f, f ≤ n ∧ mxs nI K (0, -1) (n + 1) = (nI f, K f) := by
  induction n with
  | zero =>
    refine ⟨0, by omega, ?_⟩
    show stpM (nI 0) (K 0) (0, -1) = _
    unfold stpM
    rw [if_neg h0]
  | succ n ih =>
    obtain ⟨f, h1, h2⟩ := ih
    have e : mxs nI K (0, -1) (n + 1 + 1) = stpM (nI (n + 1)) (K (n + 1)) (mxs nI K (0, -1) (n + 1)) := rfl
    rw [e, h2]
    unfold stpM
    by_cases q : K (n + 1) ≤ K f
    · exact ⟨f, by omega, if_pos q⟩
    · exact ⟨n + 1, by omega, if_neg q⟩
theorem op_busiest {v : Nat → Int32} {nb nw nc : Nat} {m : MM} (h : Rlt v nb nw nc m) (x : Int32) : Eq2 (fX6_busiest 0 x) (fX7_busiest 0 x) m := by
  have w6_x : ∀ m, fX6_within x 0 1 m = some (inB x 2, m) := fun m => e6_within' x 1 m (by omega)
  have w7_x : ∀ m, fX7_within x 0 1 m = some (inB x 2, m) := fun m => e7_within' x 1 m (by omega)
  cases hg : (inB x 2)
  · refine Eq2.bad h ?_ ?_
    · rw [fX6_busiest_eq]; unfold fX6_busiest_b
      cases g_x : inB x 2 <;> first | (simp only [w6_x, g_x, Option.bind_some, bind_eta, bI_0, bI_1, reduceCtorEq, not_true, not_false_eq_true, if_true, if_false]; done) | (rw [g_x] at hg; cases hg)
    · intro m1 h1
      rw [fX7_busiest_eq]; unfold fX7_busiest_b
      cases g_x : inB x 2 <;> first | (simp only [w7_x, g_x, Option.bind_some, bind_eta, bI_0, bI_1, reduceCtorEq, not_true, not_false_eq_true, if_true, if_false, Bool.and_true, Bool.and_false, Bool.true_and, Bool.false_and]; done) | (rw [g_x] at hg; cases hg)
  · have g_x := hg
    have hnb := h.1.nb.2.1
    have hnc := h.1.nc
    have hK0 : ¬ bsK v nb 0 ≤ -1 := by
      unfold bsK
      rw [Int32.le_iff_toInt_le, n_ti (by have := cnt_le (fun i => bt (V60 v i) 0) nb; omega)]
      have t : (-1 : Int32).toInt = -1 := rfl
      omega
    refine Eq2.ask h (if x = 0 then (mxs nI (bsK v nb) (0, -1) nc).1 else (mxs nI (bsK v nb) (0, -1) nc).2) ?_ ?_
    · rw [fX6_busiest_eq]; unfold fX6_busiest_b
      simp only [w6_x, g_x, Option.bind_some, bind_eta, bI_0, bI_1, reduceCtorEq, not_true, not_false_eq_true, if_true, if_false]
      refine (fill6 h).bind ?_
      intro _ m1 ⟨t1, t2⟩
      dsimp only
      refine Ok.bind (Ok.fold (f := fX6_busiest_b28 0 x) nc (fun i => ((mxs nI (bsK v nb) (0, -1) i).1, (mxs nI (bsK v nb) (0, -1) i).2, nI i)) (mxs nI (bsK v nb) (0, -1) nc) (fun _ m' => m' = m1) ?_ ?_ (by omega) m1 rfl) ?_
      · intro c m' hc e
        subst e
        have h' := Rel_frC h t2
        unfold fX6_busiest_b28
        dsimp only
        rw [h'.1.nc.2.2.2, if_neg (by rw [n_le (by omega) (by omega)]; omega)]
        refine Ok.bind (Ok.fold (f := fX6_busiest_b46 0 x (mxs nI (bsK v nb) (0, -1) c).1 (mxs nI (bsK v nb) (0, -1) c).2 (nI c)) nb (fun i => (nI (cnt (fun i => bt (V60 v i) c) i), nI i)) (bsK v nb c) (fun _ m2 => m2 = m') ?_ ?_ (by omega) m' rfl) ?_
        · intro i m2 hi e
          subst e
          unfold fX6_busiest_b46
          dsimp only
          rw [h'.1.nb.2.2, if_neg (by rw [n_le (by omega) (by omega)]; omega), if_neg (by rw [n_le (by omega) (by omega)]; omega), inB_t (show i < 8 by omega) (by omega), n_cl (by omega), t1 i hi]
          simp only [cond_true]
          rw [add_bit (p := fun i => bt (V60 v i) c) (n := i) (by omega) rfl]
          exact Ok.ret ⟨by rw [n_s], rfl⟩
        · intro m2 e
          subst e
          unfold fX6_busiest_b46
          dsimp only
          rw [h'.1.nb.2.2, if_pos (by rw [n_le (by omega) (by omega)]; omega)]
          rfl
        · intro r m2 ⟨r1, e⟩
          subst e
          dsimp only
          rw [r1, codeM]
          exact Ok.ret ⟨by rw [n_s]; rfl, rfl⟩
      · intro m' e
        subst e
        have h' := Rel_frC h t2
        unfold fX6_busiest_b28
        dsimp only
        rw [h'.1.nc.2.2.2, if_pos (by rw [n_le (by omega) (by omega)]; omega)]
      · intro r m' ⟨a, e⟩
        subst e
        dsimp only
        rw [a]
        by_cases q : x = 0
        · rw [if_neg (fun h => h q), if_pos q]; exact Ok.ret ⟨rfl, t2⟩
        · rw [if_pos q, if_neg q]; exact Ok.ret ⟨rfl, t2⟩
    · intro m1 h1
      rw [fX7_busiest_eq]; unfold fX7_busiest_b
      simp only [w7_x, g_x, Option.bind_some, bind_eta, bI_0, bI_1, reduceCtorEq, not_true, not_false_eq_true, if_true, if_false, Bool.and_true]
      refine (busy_1 x m1 h1.1.nc.1 hnc.2.2.1).bind ?_
      intro _ m2 ⟨a1, f1⟩
      dsimp only
      have hL2 : Lv v m2 := Lv_fr h1.1.lv f1 (by unfold Dlv; omega)
      refine (busy_3 x hL2 h1.1.1 a1).bind ?_
      intro _ m3 ⟨a2, f2⟩
      dsimp only
      have hL3 : Lv v m3 := Lv_fr hL2 f2 (by unfold Dlv D68 Dto; omega)
      have F : FrP Scr m1 m3 := (f1.mono (by unfold Scr; omega)).trans (f2.mono (by unfold D68 Dto Scr; omega))
      obtain ⟨n1, hn1⟩ : ∃ n1, nc = n1 + 1 := ⟨nc - 1, by omega⟩
      refine Ok.bind (P := fun r m' => m' = m3 ∧ ∃ f, f < nc ∧ r = nI f ∧ mxs nI (bsK v nb) (0, -1) nc = (nI f, bsK v nb f)) ?_ ?_
      · refine Ok.count 1 nc (fun i s m' => m' = m3 ∧ ∃ f, f < i ∧ s = (nI f, nI i) ∧ mxs nI (bsK v nb) (0, -1) i = (nI f, bsK v nb f)) ?_ ?_ (by omega) 1000 (by omega) _ m3 ⟨rfl, 0, by omega, rfl, ?_⟩
        · intro i s m' hi1 hi2 ⟨e, f, g1, g2, g3⟩
          subst e g2
          unfold fX7_busiest_b100
          dsimp only
          rw [hL3.nc h1.1.1, if_neg (by rw [n_le (by omega) (by omega)]; omega), inB_t (show i < 30 by omega) (by omega), inB_t (show f < 30 by omega) (by omega), n_cl (show i < 2147483648 by omega), n_cl (show f < 2147483648 by omega), a2 i hi2, a2 f (by omega)]
          simp only [cond_true]
          have e : mxs nI (bsK v nb) (0, -1) (i + 1) = stpM (nI i) (bsK v nb i) (mxs nI (bsK v nb) (0, -1) i) := rfl
          rw [g3] at e
          unfold stpM at e
          by_cases q : bsK v nb i ≤ bsK v nb f
          · rw [if_pos q]
            rw [if_pos q] at e
            exact Ok.ret ⟨rfl, f, by omega, by rw [n_s], e⟩
          · rw [if_neg q]
            rw [if_neg q] at e
            exact Ok.ret ⟨rfl, i, by omega, by rw [n_s], e⟩
        · intro s m' ⟨e, f, g1, g2, g3⟩
          subst e g2
          unfold fX7_busiest_b100
          dsimp only
          rw [hL3.nc h1.1.1, if_pos (by rw [n_le (by omega) (by omega)]; omega)]
          exact Ok.ret ⟨rfl, f, g1, rfl, g3⟩
        · show stpM (nI 0) (bsK v nb 0) (0, -1) = _
          unfold stpM
          rw [if_neg hK0]
      · intro r m' ⟨e, f, g1, g2, g3⟩
        subst e g2
        dsimp only
        rw [g3]
        by_cases q : x = 0
        · rw [if_neg (fun h => h q), if_pos q]; exact Ok.ret ⟨rfl, F⟩
        · rw [if_pos q, if_neg q, inB_t (show f < 30 by omega) (by omega), n_cl (by omega), a2 f g1]; exact Ok.ret ⟨rfl, F⟩
