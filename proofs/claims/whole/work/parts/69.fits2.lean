/-! PURE: fits, put together -/
theorem th_kind {v : Nat → Int32} {b : Nat} (y k a c x : Int32) : th (upv v (30 + b) y) b k a c x = th v b k a c x := by
  funext j
  rw [th_at, th_at]
  by_cases h5 : j = 30 + b
  · simp only [h5, if_true]
  · rw [upv_nn h5]
theorem WF_kind {v : Nat → Int32} {nb nw nc b : Nat} {x : Int32} (h : WF v nb nw nc) (hb : b < nb) (hx : inB x 6 = true) : WF (upv v (30 + b) x) nb nw nc := by
  obtain ⟨h1, h2, h3, h4, h5, h6, h7, h8, h9, h10, h11⟩ := h
  refine ⟨by rw [upv_nn (by omega)]; exact h1, h2, by rw [upv_nn (by omega)]; exact h3, h4, by rw [upv_nn (by omega)]; exact h5, h6, h7, ?_, ?_, ?_, by rw [upv_nn (by omega)]; exact h11⟩
  · intro i hi; rw [upv_nn (by omega), upv_nn (by omega)]; exact h8 i hi
  · intro i hi
    rw [upv_nn (by omega), upv_nn (by omega), upv_nn (by omega)]
    refine ⟨(h9 i hi).1, (h9 i hi).2.1, (h9 i hi).2.2.1, ?_⟩
    by_cases e : i = b
    · rw [e, upv_same]; exact hx
    · rw [upv_nn (by omega)]; exact (h9 i hi).2.2.2
  · intro w hw; unfold vW; rw [upv_nn (by omega), upv_nn (by omega), upv_nn (by omega)]; exact h10 w hw
def fiP (v : Nat → Int32) (b nc n : Nat) (told : Nat → Int64) (y : Int32) (k : Nat) : Bool := if y = 0 then goB (upv v 94 (nI k)) b nc n (v (30 + b)) (v (39 + b)) told else goB v b nc n (nI k) (v (39 + b)) told
theorem noTold_row {s sz : Nat} {n : Int32} {m : MM} (hs : s < 8) (hk : inB (m.1 59 0 s) 5 = true) (h2 : m.1 60 0 s = nI sz) : fX7_noTold 0 (nI s) n m = some (if n ≤ nI sz then 0 else -1002, m) := by
  rw [fX7_noTold_eq]; unfold fX7_noTold_b
  simp only [e7_isRow m hs, hk, inB_t hs (show 8 ≤ 2147483648 by omega), n_cl (show s < 2147483648 by omega), h2, Option.bind_some, bI_0, reduceCtorEq, not_false_eq_true, if_true, cond_true]
  by_cases q : n ≤ nI sz
  · rw [if_pos q, if_pos q]
  · rw [if_neg q, if_neg q]
theorem op_fits {v : Nat → Int32} {nb nw nc : Nat} {m : MM} (h : Rlt v nb nw nc m) (x y z w : Int32) : Eq2 (fX6_fits 0 x y z w) (fX7_fits 0 x y z w) m := by
  have wy : ∀ m, fX7_within y 1 40 m = some (decide (inB y 41 = true ∧ 1 ≤ y.toNatClampNeg), m) := fun m => within_lo 1 40 (by omega) (by omega) m
  have wy6 : ∀ m, fX6_within y 1 40 m = some (decide (inB y 41 = true ∧ 1 ≤ y.toNatClampNeg), m) := fun m => by rw [e6_w7]; exact wy m
  have ww : ∀ m, fX7_within w 0 1 m = some (inB w 2, m) := fun m => e7_within' w 1 m (by omega)
  have ww6 : ∀ m, fX6_within w 0 1 m = some (inB w 2, m) := fun m => e6_within' w 1 m (by omega)
  have hnb := h.1.nb.2.1
  have hnw := h.1.nw.2.1
  have hnc := h.1.nc
  cases hg : (inB x 8) && (decide (inB y 41 = true ∧ 1 ≤ y.toNatClampNeg)) && (inB z nb) && (inB w 2)
  · refine Eq2.bad h ?_ ?_
    · rw [fX6_fits_eq]; unfold fX6_fits_b
      cases g1 : inB x 8 <;> cases g2 : decide (inB y 41 = true ∧ 1 ≤ y.toNatClampNeg) <;> cases g3 : inB z nb <;> cases g4 : inB w 2 <;> first | (simp only [e6_shelfAt, e5_bottleAt h.1, wy6, ww6, g1, g2, g3, g4, Option.bind_some, bind_eta, bI_0, reduceCtorEq, not_true, not_false_eq_true, if_true, if_false, ite_self]; done) | (rw [g1, g2, g3, g4] at hg; cases hg)
    · intro m1 h1
      rw [fX7_fits_eq]; unfold fX7_fits_b
      cases g1 : inB x 8 <;> cases g2 : decide (inB y 41 = true ∧ 1 ≤ y.toNatClampNeg) <;> cases g3 : inB z nb <;> cases g4 : inB w 2 <;> first | (simp only [e7_isShelf, e7_isBottle h1, wy, ww, g1, g2, g3, g4, Option.bind_some, bind_eta, bI_0, reduceCtorEq, not_true, not_false_eq_true, if_true, if_false]; done) | (rw [g1, g2, g3, g4] at hg; cases hg)
  · simp only [Bool.and_eq_true] at hg
    obtain ⟨⟨⟨g1, g2⟩, g3⟩, g4⟩ := hg
    obtain ⟨g2a, g2b⟩ := of_decide_eq_true g2
    obtain ⟨hs, e1⟩ := inB_ex g1
    obtain ⟨hn, e2⟩ := inB_ex g2a
    obtain ⟨hb, e3⟩ := inB_ex g3
    generalize x.toNatClampNeg = s at hs e1
    generalize y.toNatClampNeg = n at *
    generalize z.toNatClampNeg = b at hb e3
    subst e1 e2 e3
    have cs : (nI s).toNatClampNeg = s := n_cl (by omega)
    have cb : (nI b).toNatClampNeg = b := n_cl (by omega)
    obtain ⟨sz, z1, z2, z3⟩ := h.1.2.2.2.1.sz hs
    rcases h.1.2.2.2.1.kind hs hnb with hk | hk | ⟨b', hb', hk⟩
    · by_cases hle : n ≤ sz
      · obtain ⟨b1, b2, b3, b4, b5⟩ := h.1.bf hb
        refine Eq2.ask' h (bitF (fiP v b nc n (m.2 20 s) w) (if w = 0 then 5 else 6)) ?_ ?_
        · rw [fX6_fits_eq]; unfold fX6_fits_b fX6_fits_j101
          simp only [e6_shelfAt, e5_bottleAt h.1, wy6, ww6, g1, g2, g3, g4, cs, cb, e1_isRow, hk, Option.bind_some, bind_eta, bI_0, reduceCtorEq, not_false_eq_true, if_true, if_false]
          rw [z2, if_pos (by rw [n_le (by omega) (by omega)]; exact hle)]
          -- the loop over winds, or kinds
          have loop : ∀ N, N < 7 → (w = 0 → N = 5) → (¬ w = 0 → N = 6) → Ok ((fX5_become 2 0 m).bind fun o16 => loopF 1000 (fX6_fits_b120 0 (nI n) w s (1 + b) (nI N)) (0, 0) o16.2) (fun r m' => r = bitF (fiP v b nc n (m.2 20 s) w) N ∧ FrP ScrC m m') := by
            intro N hN7 hN5 hN6
            refine (trial6 h.1).bind ?_
            intro _ m1 ⟨w1, f1⟩
            refine (Ok.bits (f := fX6_fits_b120 0 (nI n) w s (1 + b) (nI N)) N (fiP v b nc n (m.2 20 s) w) (fun m' => (∃ y, RelW m'.1 2 nb nw (upv v 94 y) ∧ (¬ w = 0 → y = v 94)) ∧ FrP ScrC m m') (by omega) ?_ ?_ m1 ⟨⟨v 94, by rw [upv_id]; exact w1, fun _ => rfl⟩, f1⟩).mono (fun r m' ⟨a, _, f⟩ => ⟨a, f⟩)
            · intro k t m' hk' ⟨⟨y, wW, wy'⟩, f⟩
              unfold fX6_fits_b120 fX6_fits_j141
              dsimp only
              rw [if_neg (by rw [n_le (by omega) (by omega)]; omega)]
              have c0 : ∀ M : MM, FrP ScrC m M → inB (M.1 1 s 0) 5 = true ∧ M.1 1 s 1 = nI sz ∧ M.2 20 s = m.2 20 s ∧ M.1 0 (1 + b) 0 = v (30 + b) ∧ M.1 0 (1 + b) 1 = v (39 + b) := by
                intro M fM
                have hM := Rel_frC h fM
                obtain ⟨d1, d2, _⟩ := hM.1.bf hb
                refine ⟨?_, ?_, by rw [fM.2], d1, d2⟩
                · rw [fM.1 1 s 0 (by unfold ScrC; omega)]; exact hk
                · exact (fM.1 1 s 1 (by unfold ScrC; omega)).trans z2
              by_cases q : w = 0
              · rw [if_neg (fun h => h q), if_neg (fun h => h q)]
                have w' : RelW (upI m'.1 5 2 1 (nI k), m'.2).1 2 nb nw (upv v 94 (nI k)) := by
                  have w' := RelW_one wW hnb hnw (c := 5) (i := 2) (k := 1) (j := 94) (by unfold loc6; omega) (nI k)
                  rw [upv_upv] at w'; exact w'
                have f' := f.trans (Rel_fr5 (m := m') (nI k))
                have eb : (upI m'.1 5 2 1 (nI k)) 0 (1 + b) 0 = v (30 + b) ∧ (upI m'.1 5 2 1 (nI k)) 0 (1 + b) 1 = v (39 + b) := ⟨(c0 _ f').2.2.2.1, (c0 _ f').2.2.2.2⟩
                rw [eb.1, eb.2]
                generalize (upI m'.1 5 2 1 (nI k), m'.2) = m2 at w' f'
                obtain ⟨c1, c2, c3, _, _⟩ := c0 m2 f'
                refine (along6 (b := b) (nc := nc) w' (by rw [upv_nn (by omega)]; exact h.1.1.2.2.2.2.1) hnc.2.1 hnc.2.2.1 (by omega) hs c1 z1 c2 g2b hle).bind ?_
                intro r m3 ⟨r1, r2⟩
                dsimp only
                have rp : r = fiP v b nc n (m.2 20 s) w k := by
                  rw [r1, c3]; unfold fiP; rw [if_pos q]
                have f3 := f'.trans (Fr27_C r2)
                have w3 : RelW m3.1 2 nb nw (upv v 94 (nI k)) := RelW_fr' w' (D := fun c i _ => c = 0 ∧ i = 27) (fun c i k hq => (r2 c i hq k).1) (by omega) (by omega) (by omega) (by omega)
                rw [rp]
                cases fiP v b nc n (m.2 20 s) w k
                · rw [if_pos (show bI false = 0 by decide)]; exact Ok.ret ⟨rfl, ⟨_, w3, fun h => absurd q h⟩, f3⟩
                · rw [if_neg (show ¬ bI true = 0 by decide)]; exact Ok.ret ⟨rfl, ⟨_, w3, fun h => absurd q h⟩, f3⟩
              · rw [if_pos q, if_pos q]
                have ey := wy' q
                rw [ey, upv_id] at wW
                obtain ⟨c1, c2, c3, _, c5⟩ := c0 m' f
                rw [c5]
                refine (along6 (b := b) (nc := nc) wW h.1.1.2.2.2.2.1 hnc.2.1 hnc.2.2.1 (by omega) hs c1 z1 c2 g2b hle).bind ?_
                intro r m3 ⟨r1, r2⟩
                dsimp only
                have rp : r = fiP v b nc n (m.2 20 s) w k := by
                  rw [r1, c3]; unfold fiP; rw [if_neg q]
                have f3 := f.trans (Fr27_C r2)
                have w3 : RelW m3.1 2 nb nw v := RelW_fr' wW (D := fun c i _ => c = 0 ∧ i = 27) (fun c i k hq => (r2 c i hq k).1) (by omega) (by omega) (by omega) (by omega)
                have w4 : RelW m3.1 2 nb nw (upv v 94 (v 94)) := by rw [upv_id]; exact w3
                rw [rp]
                cases fiP v b nc n (m.2 20 s) w k
                · rw [if_pos (show bI false = 0 by decide)]; exact Ok.ret ⟨rfl, ⟨_, w4, fun _ => rfl⟩, f3⟩
                · rw [if_neg (show ¬ bI true = 0 by decide)]; exact Ok.ret ⟨rfl, ⟨_, w4, fun _ => rfl⟩, f3⟩
            · intro t m' _
              unfold fX6_fits_b120
              rw [if_pos (by dsimp only; rw [n_le (by omega) (by omega)]; omega)]
          by_cases q : w = 0
          · rw [if_neg (fun h => h q), if_pos q]
            exact loop 5 (by omega) (fun _ => rfl) (fun h => absurd q h)
          · rw [if_pos q, if_neg q]
            exact loop 6 (by omega) (fun h => absurd h q) (fun _ => rfl)
        · intro m1 h1 hf
          obtain ⟨s1, s2, s3⟩ := h1.1.2.2.2.1.at hs hf
          rw [fX7_fits_eq]; unfold fX7_fits_b fX7_fits_j83
          simp only [e7_isShelf, e7_isBottle h1.1, wy, ww, g1, g2, g3, g4, Option.bind_some, bind_eta, bI_0, reduceCtorEq, not_false_eq_true, if_true, if_false]
          rw [noTold_row (sz := sz) hs (by rw [s1]; exact hk) (s2.trans z2), if_pos (by rw [n_le (by omega) (by omega)]; exact hle)]
          simp only [Option.bind_some]
          rw [if_pos (by decide)]
          have i0 : inB 0 2 = true := by decide
          have c0 : (0 : Int32).toNatClampNeg = 0 := rfl
          rw [i0, c0, inB_t (show b < 9 by omega) (by omega), cb]
          simp only [cond_true]
          have told : ∀ m' : MM, m'.2 = m1.2 → ∀ i, i < 40 → m'.2 21 0 (40 * s + i) = m.2 20 s i := fun m' e i hi => by rw [e]; exact s3 i hi
          by_cases q : w = 0
          · rw [if_neg (fun h => h q), if_pos q]
            refine Ok.bind (Ok.bits (f := fX7_fits_b91 0 (nI s) (nI n) (nI b) w (m1.1 51 0 0)) 5 (fiP v b nc n (m.2 20 s) w) (fun m' => (∃ y, Lv (upv v 94 y) m') ∧ FrP (fun c i k => Dto 2 c i k ∨ (c = 51 ∧ i = 0 ∧ k = 0)) m1 m') (by omega) ?_ ?_ m1 ⟨⟨v 94, by rw [upv_id]; exact h1.1.lv⟩, FrP.rfl⟩) ?_
            · intro k t m' hk' ⟨⟨y, w0⟩, f⟩
              unfold fX7_fits_b91 fX7_fits_j104
              dsimp only
              rw [if_neg (fun h => h q), if_neg (by rw [show (5 : Int32) = nI 5 from rfl, n_le (by omega) (by omega)]; omega), if_neg (fun h => h q), i0, c0]
              simp only [cond_true]
              have w' := Lv_one w0 (c := 51) (j := 0) (k := 94) (by unfold loc; omega) (nI k)
              rw [upv_upv] at w'
              have hF : WF (upv v 94 (nI k)) nb nw nc := WF_free (j := 94) h1.1.1 _ (by omega)
              have f' : FrP (fun c i k => Dto 2 c i k ∨ (c = 51 ∧ i = 0 ∧ k = 0)) m1 (upI m'.1 51 0 0 (nI k), m'.2) := FrP.up f (by omega) _
              generalize (upI m'.1 51 0 0 (nI k), m'.2) = m2 at w' f'
              refine (goes7 w' hF hb hs g2b hle z1 (told m2 f'.2)).bind ?_
              intro r m3 ⟨r1, r2⟩
              dsimp only
              have rp : r = fiP v b nc n (m.2 20 s) w k := by
                rw [r1]; unfold fiP; rw [if_pos q, upv_nn (by omega), upv_nn (by omega)]
              have f3 := f'.trans (r2.mono (fun c i k q => Or.inl q))
              rw [rp]
              cases fiP v b nc n (m.2 20 s) w k
              · rw [if_pos (show bI false = 0 by decide)]; exact Ok.ret ⟨rfl, ⟨_, Lv_to w' r2⟩, f3⟩
              · rw [if_neg (show ¬ bI true = 0 by decide)]; exact Ok.ret ⟨rfl, ⟨_, Lv_to w' r2⟩, f3⟩
            · intro t m' _
              unfold fX7_fits_b91 fX7_fits_j104
              rw [if_neg (fun h => h q), if_pos (show (5 : Int32) ≤ nI 5 by decide)]
            · intro r m' ⟨a, _, f⟩
              dsimp only
              rw [if_neg (fun h => h q)]
              refine Ok.ret ⟨a, ?_⟩
              have f' : FrP (fun c i k => Dto 2 c i k) m1 (upI m'.1 51 0 0 (m1.1 51 0 0), m'.2) := by
                refine ⟨fun c i k q => ?_, f.2⟩
                by_cases e : c = 51 ∧ i = 0 ∧ k = 0
                · obtain ⟨e1, e2, e3⟩ := e
                  subst e1 e2 e3
                  dsimp only; exact upI_same _ _ _ _ _
                · dsimp only; rw [upI_nn e]; exact f.1 c i k (fun h => h.elim q e)
              exact Dto_S f'
          · rw [if_pos q, if_neg q]
            refine Ok.bind (Ok.bits (f := fX7_fits_b91 0 (nI s) (nI n) (nI b) w (m1.1 52 0 b)) 6 (fiP v b nc n (m.2 20 s) w) (fun m' => (∃ y, Lv (upv v (30 + b) y) m') ∧ FrP (fun c i k => Dto 2 c i k ∨ (c = 52 ∧ i = 0 ∧ k = b)) m1 m') (by omega) ?_ ?_ m1 ⟨⟨v (30 + b), by rw [upv_id]; exact h1.1.lv⟩, FrP.rfl⟩) ?_
            · intro k t m' hk' ⟨⟨y, w0⟩, f⟩
              unfold fX7_fits_b91 fX7_fits_j104
              dsimp only
              rw [if_pos q, if_neg (by rw [show (6 : Int32) = nI 6 from rfl, n_le (by omega) (by omega)]; omega), if_pos q, inB_t (show b < 9 by omega) (by omega), cb]
              simp only [cond_true]
              have w' := Lv_one w0 (c := 52) (j := b) (k := 30 + b) (by unfold loc; omega) (nI k)
              rw [upv_upv] at w'
              have hF : WF (upv v (30 + b) (nI k)) nb nw nc := WF_kind h1.1.1 hb (inB_t hk' (by omega))
              have f' : FrP (fun c i k => Dto 2 c i k ∨ (c = 52 ∧ i = 0 ∧ k = b)) m1 (upI m'.1 52 0 b (nI k), m'.2) := FrP.up f (by omega) _
              generalize (upI m'.1 52 0 b (nI k), m'.2) = m2 at w' f'
              refine (goes7 w' hF hb hs g2b hle z1 (told m2 f'.2)).bind ?_
              intro r m3 ⟨r1, r2⟩
              dsimp only
              have rp : r = fiP v b nc n (m.2 20 s) w k := by
                rw [r1]; unfold fiP goB
                rw [if_neg q, th_kind, upv_same, upv_nn (by omega)]
              have f3 := f'.trans (r2.mono (fun c i k q => Or.inl q))
              rw [rp]
              cases fiP v b nc n (m.2 20 s) w k
              · rw [if_pos (show bI false = 0 by decide)]; exact Ok.ret ⟨rfl, ⟨_, Lv_to w' r2⟩, f3⟩
              · rw [if_neg (show ¬ bI true = 0 by decide)]; exact Ok.ret ⟨rfl, ⟨_, Lv_to w' r2⟩, f3⟩
            · intro t m' _
              unfold fX7_fits_b91 fX7_fits_j104
              rw [if_pos q, if_pos (show (6 : Int32) ≤ nI 6 by decide)]
            · intro r m' ⟨a, _, f⟩
              dsimp only
              rw [if_pos q]
              refine Ok.ret ⟨a, ?_⟩
              have f' : FrP (fun c i k => Dto 2 c i k) m1 (upI m'.1 52 0 b (m1.1 52 0 b), m'.2) := by
                refine ⟨fun c i k q => ?_, f.2⟩
                by_cases e : c = 52 ∧ i = 0 ∧ k = b
                · obtain ⟨e1, e2, e3⟩ := e
                  subst e1 e2 e3
                  dsimp only; exact upI_same _ _ _ _ _
                · dsimp only; rw [upI_nn e]; exact f.1 c i k (fun h => h.elim q e)
              exact Dto_S f'
      · refine Eq2.bad' h ?_ ?_
        · rw [fX6_fits_eq]; unfold fX6_fits_b
          simp only [e6_shelfAt, e5_bottleAt h.1, wy6, ww6, g1, g2, g3, g4, cs, cb, e1_isRow, hk, Option.bind_some, bind_eta, bI_0, reduceCtorEq, not_false_eq_true, if_true, if_false]
          rw [z2, if_neg (by rw [n_le (by omega) (by omega)]; exact hle)]
        · intro m1 h1 f
          obtain ⟨s1, s2⟩ := h1.2.2.2.1.at47 hs f
          rw [fX7_fits_eq]; unfold fX7_fits_b
          simp only [e7_isShelf, e7_isBottle h1, wy, ww, g1, g2, g3, g4, Option.bind_some, bind_eta, bI_0, reduceCtorEq, not_false_eq_true, if_true, if_false]
          rw [noTold_row (sz := sz) hs (by rw [s1]; exact hk) (s2.trans z2), if_neg (by rw [n_le (by omega) (by omega)]; exact hle)]
          simp only [Option.bind_some]
          rw [if_neg (by decide)]
    · refine Eq2.nothing' h ?_ ?_
      · rw [fX6_fits_eq]; unfold fX6_fits_b
        simp only [e6_shelfAt, e5_bottleAt h.1, wy6, ww6, g1, g2, g3, g4, cs, cb, e1_isRow, hk, inB_m1, e1_why_m1 hk, Option.bind_some, bind_eta, bI_0, reduceCtorEq, not_false_eq_true, not_true, if_true, if_false]
      · intro m1 h1 f
        obtain ⟨s1, s2⟩ := h1.2.2.2.1.at47 hs f
        rw [fX7_fits_eq]; unfold fX7_fits_b
        simp only [e7_isShelf, e7_isBottle h1, wy, ww, g1, g2, g3, g4, Option.bind_some, bind_eta, bI_0, reduceCtorEq, not_false_eq_true, if_true, if_false]
        have nt : fX7_noTold 0 (nI s) (nI n) m1 = some (-1004, m1) := by
          rw [fX7_noTold_eq]; unfold fX7_noTold_b
          simp only [e7_isRow m1 hs, s1, hk, inB_m1, e7_noRow_m1 hs (s1.trans hk), Option.bind_some, bI_0, not_true, if_false]
        rw [nt]
        simp only [Option.bind_some]
        rw [if_neg (by decide)]
    · refine Eq2.other' h ?_ ?_
      · rw [fX6_fits_eq]; unfold fX6_fits_b
        simp only [e6_shelfAt, e5_bottleAt h.1, wy6, ww6, g1, g2, g3, g4, cs, cb, e1_isRow, hk, inB_10 b' (by omega), e1_why_b (by omega) hk, Option.bind_some, bind_eta, bI_0, reduceCtorEq, not_false_eq_true, not_true, if_true, if_false]
      · intro m1 h1 f
        obtain ⟨s1, s2⟩ := h1.2.2.2.1.at47 hs f
        rw [fX7_fits_eq]; unfold fX7_fits_b
        simp only [e7_isShelf, e7_isBottle h1, wy, ww, g1, g2, g3, g4, Option.bind_some, bind_eta, bI_0, reduceCtorEq, not_false_eq_true, if_true, if_false]
        have nt : fX7_noTold 0 (nI s) (nI n) m1 = some (-1003, m1) := by
          rw [fX7_noTold_eq]; unfold fX7_noTold_b
          simp only [e7_isRow m1 hs, s1, hk, inB_10 b' (by omega), e7_noRow_b hs (by omega) (s1.trans hk), Option.bind_some, bI_0, not_true, if_false]
        rw [nt]
        simp only [Option.bind_some]
        rw [if_neg (by decide)]
