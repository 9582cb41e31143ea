/-! PURE: coast, a statement of the model, whole -/
theorem k7_119 (k : Nat) (o : Bool) : decide (k7 k o = 119) = decide (k = 1) := by
  unfold k7
  by_cases k0 : k = 0
  · rw [if_pos k0, k0]; decide
  · rw [if_neg k0]
    by_cases k1 : k = 1
    · rw [if_pos k1, k1]; decide
    · rw [if_neg k1, decide_eq_false k1]
      by_cases k2 : k = 2
      · rw [if_pos k2]; cases o <;> decide
      · rw [if_neg k2]
        by_cases k3 : k = 3
        · rw [if_pos k3]; decide
        · rw [if_neg k3]; decide
theorem wd_len {B : Nat → Int32} {s e a : Nat} (h : wdB B s e a = true) : e - s = (wds a).length := (of_decide_eq_true h).1
theorem wd_no {B : Nat → Int32} {s e a a' : Nat} (h : wdB B s e a = true) (hl : ¬ (wds a).length = (wds a').length) : wdB B s e a' = false := by
  cases q : wdB B s e a'
  · rfl
  · exact absurd ((wd_len h).symm.trans (wd_len q)) hl
def Q7 (B : Nat → Int32) (tp p nb nw nc : Nat) (v : Nat → Int32) (m : MM) (r : Bool) (m' : MM) : Prop :=
  FrP (fun c i k => Dnx c i k ∨ Dlv c i k) m m' ∧ ((r = false ∧ ∃ s, stR B tp p nb nw nc = some s ∧ m'.1 7 0 15 = nI s) ∨ (r = true ∧ stR B tp p nb nw nc = none ∧ Lv (stF B tp p v nb nw nc).1 m' ∧ m'.1 7 0 16 = nI (stE B tp p)))
theorem statement7 {B : Nat → Int32} {tp p nb nw nc : Nat} {v : Nat → Int32} {m : MM} (hL : Lv v m) (hF : WF v nb nw nc) (hT : Tp7 B tp m) (hK : RelK m) (hp : p ≤ tp) (h15 : m.1 7 0 15 = nI (tS B tp p)) (h16 : m.1 7 0 16 = nI (tE B tp p)) (h17 : m.1 7 0 17 = k7 (tK B tp p) (tO B tp p)) : Ok (fX7_statement 0 m) (Q7 B tp p nb nw nc v m) := by
  have h8 := hF.2.1
  have h6 := hF.2.2.2.1
  have h16' := hF.2.2.2.2.2.1
  have h30 := hF.2.2.2.2.2.2.1
  obtain ⟨l3, l4⟩ := tE_le (B := B) hp
  have sp : ∀ a, a < 12 → fX7_isWord 0 a m = some (decide (tK B tp p = 1) && wdB B (tS B tp p) (tE B tp p) a, m) := by
    intro a ha
    obtain ⟨r, m', e1, e2, e3⟩ := word7 hT hK ha h15 h16 l3 l4
    rw [e1, e2, e3, h17, k7_119]
  have no : stR B tp p nb nw nc = some (tS B tp p) → Ok (some (false, m)) (Q7 B tp p nb nw nc v m) := fun e => Ok.ret ⟨FrP.rfl, Or.inl ⟨rfl, _, e, h15⟩⟩
  rw [fX7_statement_eq]; unfold fX7_statement_b
  simp only [sp 6 (by omega), sp 7 (by omega), sp 8 (by omega), sp 9 (by omega), sp 10 (by omega), sp 11 (by omega), Option.bind_some]
  by_cases k : tK B tp p = 1
  · rw [decide_eq_true k]
    simp only [Bool.true_and]
    have w6 : wdB B (tS B tp p) (tE B tp p) 6 = wdB B (tS B tp p) (tE B tp p) 1 := rfl
    have w7 : wdB B (tS B tp p) (tE B tp p) 7 = wdB B (tS B tp p) (tE B tp p) 2 := rfl
    have w8 : wdB B (tS B tp p) (tE B tp p) 8 = wdB B (tS B tp p) (tE B tp p) 0 := rfl
    have w9 : wdB B (tS B tp p) (tE B tp p) 9 = wdB B (tS B tp p) (tE B tp p) 3 := rfl
    have w10 : wdB B (tS B tp p) (tE B tp p) 10 = wdB B (tS B tp p) (tE B tp p) 4 := rfl
    have w11 : wdB B (tS B tp p) (tE B tp p) 11 = wdB B (tS B tp p) (tE B tp p) 5 := rfl
    rw [w6, w7, w8, w9, w10, w11]
    have fin : ∀ (a : Nat) (X : Option (Bool × MM)), stw B (tS B tp p) (tE B tp p) = a → ¬ (a = 6 ∨ (a = 1 ∧ nw = 6) ∨ (a = 2 ∧ nb = 8)) → Ok X (St7 B tp (tE B tp p) (nN a) (fun _ => loN a nc) (hiN a nc nw) (ef a (stX B tp p) v nb nw nc).1 m) → Ok X (Q7 B tp p nb nw nc v m) := by
      intro a X e hn h
      have eR : stR B tp p nb nw nc = nr B tp (fun _ => loN a nc) (hiN a nc nw) (tE B tp p) (nN a) := by
        unfold stR; rw [if_pos k, e, if_neg hn]
      have eF : stF B tp p v nb nw nc = ef a (stX B tp p) v nb nw nc := by unfold stF; rw [e]
      have eE : stE B tp p = ps B tp (tE B tp p) (nN a) := by unfold stE; rw [e]
      refine h.mono ?_
      intro r m' h
      unfold Q7
      rw [eR, eF, eE]
      exact h
    have full : ∀ a, stw B (tS B tp p) (tE B tp p) = a → (a = 6 ∨ (a = 1 ∧ nw = 6) ∨ (a = 2 ∧ nb = 8)) → stR B tp p nb nw nc = some (tS B tp p) := by
      intro a e h
      unfold stR; rw [if_pos k, e, if_pos h]
    have e0 : m.1 7 0 0 = nI nc := hL.2.2.2.1.symm.trans hF.2.2.2.2.1
    have hx0 : tV B tp (tE B tp p) = stX B tp p 0 := rfl
    cases q1 : wdB B (tS B tp p) (tE B tp p) 1
    · simp only [bI_0, if_true]
      cases q2 : wdB B (tS B tp p) (tE B tp p) 2
      · simp only [bI_0, if_true]
        cases q0 : wdB B (tS B tp p) (tE B tp p) 0
        · simp only [bI_0, if_true]
          cases q3 : wdB B (tS B tp p) (tE B tp p) 3
          · simp only [bI_0, if_true]
            cases q4 : wdB B (tS B tp p) (tE B tp p) 4
            · simp only [bI_0, if_true]
              cases q5 : wdB B (tS B tp p) (tE B tp p) 5
              · simp only [bI_0, if_true]
                unfold fX7_statement_j136
                rw [if_neg (fun h => h rfl)]
                exact no (full 6 (by unfold stw; rw [q0, q1, q2, q3, q4, q5]; rfl) (Or.inl rfl))
              · simp only [bI_0, reduceCtorEq, if_false]
                refine fin 5 _ (by unfold stw; rw [q0, q1, q2, q3, q4, q5]; rfl) (by omega) ?_
                unfold fX7_statement_j136
                rw [if_pos (by decide), if_pos (by decide)]
                refine one7 hL hT l4 h16 (by decide) rfl rfl (fun m2 => by rw [if_neg (fun h => h rfl)]) (fun m2 b1 b2 L => ?_)
                dsimp only
                rw [if_pos b2, show inB 1 2 = true by decide, cond_true]
                exact Ok.ret ⟨rfl, Lv_one L (c := 51) (j := 1) (k := 95) (by unfold loc; omega) _, FrP.up (m' := m2) FrP.rfl (by unfold Dlv; exact ⟨rfl, by right; right; right; right; exact ⟨rfl, by decide⟩⟩) _⟩
            · simp only [bI_0, reduceCtorEq, if_false]
              refine fin 4 _ (by unfold stw; rw [q0, q1, q2, q3, q4]; rfl) (by omega) ?_
              unfold fX7_statement_j136
              rw [if_pos (by decide), if_neg (by decide)]
              refine one7 hL hT l4 h16 (by decide) rfl rfl (fun m2 => by rw [if_neg (fun h => h rfl)]) (fun m2 b1 b2 L => ?_)
              dsimp only
              rw [if_pos b2, show inB 0 2 = true by decide, cond_true]
              exact Ok.ret ⟨rfl, Lv_one L (c := 51) (j := 0) (k := 94) (by unfold loc; omega) _, FrP.up (m' := m2) FrP.rfl (by unfold Dlv; exact ⟨rfl, by right; right; right; right; exact ⟨rfl, by decide⟩⟩) _⟩
          · simp only [bI_0, reduceCtorEq, if_false]
            refine fin 3 _ (by unfold stw; rw [q0, q1, q2, q3]; rfl) (by omega) ?_
            rw [fX7_cellTold_eq]
            unfold fX7_cellTold_b
            rw [e0]
            simp only [bind_eta]
            refine (num7 hL hT l4 h16 (by decide)).bind ?_
            intro r1 m1 ⟨a, l1, t1, p1, s1, f1⟩
            dsimp only
            have n0 : nr B tp (fun _ => loN 3 nc) (hiN 3 nc nw) (tE B tp p) 0 = none := rfl
            rcases a with ⟨b1, b2, b3⟩ | ⟨b1, b2⟩
            · rw [if_pos b3]
              have n1 : nr B tp (fun _ => loN 3 nc) (hiN 3 nc nw) (tE B tp p) 1 = none := by rw [nr_s n0]; exact if_pos b1
              refine (num7 (p := tE B tp (tE B tp p)) l1 t1 (tE_le l4).2 p1 (by decide)).bind ?_
              intro r2 m2 ⟨a, l2, t2, p2, s2, f2⟩
              dsimp only
              rcases a with ⟨c1, c2, c3⟩ | ⟨c1, c2⟩
              · have n2 : nr B tp (fun _ => loN 3 nc) (hiN 3 nc nw) (tE B tp p) 2 = none := by rw [nr_s n1]; exact if_pos c1
                have hin : inB r1 30 = true := by
                  rw [b2]
                  refine nm_in b1 (by decide) ?_
                  rw [show (1 : Int32) = nI 1 from rfl, ← n_sub (by omega), n_ti (by omega)]; omega
                have hlt := (inB_ex hin).1
                rw [if_pos c3, hin, cond_true]
                have ek : (ef 3 (stX B tp p) v nb nw nc).1 = upv v r1.toNatClampNeg r2 := by rw [b2, c2]; rfl
                refine Ok.ret ⟨((f1.trans f2).mono (fun c i k h => Or.inl h)).trans (FrP.up (m' := m2) FrP.rfl (Or.inr ?_) _), Or.inr ⟨rfl, n2, ?_, ?_⟩⟩
                · unfold Dlv; exact ⟨rfl, Or.inl ⟨rfl, hlt⟩⟩
                · rw [ek]; exact Lv_one l2 (c := 50) (j := r1.toNatClampNeg) (k := r1.toNatClampNeg) (by unfold loc; omega) _
                · dsimp only; rw [upI_nn (by omega)]; exact p2
              · rw [if_neg (fun h => h c2)]
                exact Ok.ret ⟨(f1.trans f2).mono (fun c i k h => Or.inl h), Or.inl ⟨rfl, _, nr_1 n1 (by decide) c1, s2⟩⟩
            · rw [if_neg (fun h => h b2)]
              exact Ok.ret ⟨f1.mono (fun c i k h => Or.inl h), Or.inl ⟨rfl, _, nr_1 n0 (by decide) b1, s1⟩⟩
        · simp only [bI_0, reduceCtorEq, if_false]
          refine fin 0 _ (by unfold stw; rw [q0]; rfl) (by omega) ?_
          rw [e0]
          refine one7 hL hT l4 h16 (by rw [n_ti (by omega)]; omega) rfl rfl (fun m2 => by rw [if_neg (fun h => h rfl)]) (fun m2 b1 b2 L => ?_)
          dsimp only
          rw [if_pos b2]
          exact Ok.ret ⟨rfl, Lv_one L (c := 7) (j := 0) (k := 93) (by unfold loc; omega) _, FrP.up (m' := m2) FrP.rfl (by unfold Dlv; omega) _⟩
      · simp only [bI_0, reduceCtorEq, if_false, bind_eta]
        have q0 := wd_no (a' := 0) q2 (by decide)
        have es : stw B (tS B tp p) (tE B tp p) = 2 := by unfold stw; rw [q0, q1, q2]; rfl
        by_cases r : nb < 8
        · exact fin 2 _ es (by omega) (floats7 hL hF hT l4 h16 r)
        · rw [fX7_floats_eq]; unfold fX7_floats_b
          have en : nb = 8 := by omega
          rw [show m.1 7 0 4 = nI 8 from hL.2.2.2.2.2.2.2.1.symm.trans (hF.1.trans (by rw [en])), if_neg (show ¬ ¬ nI 8 = 8 by decide)]
          exact no (full 2 es (Or.inr (Or.inr ⟨rfl, en⟩)))
    · simp only [bI_0, reduceCtorEq, if_false, bind_eta]
      have q0 := wd_no (a' := 0) q1 (by decide)
      have es : stw B (tS B tp p) (tE B tp p) = 1 := by unfold stw; rw [q0, q1]; rfl
      by_cases r : nw < 6
      · exact fin 1 _ es (by omega) (comes7 hL hF hT l4 h16 r)
      · rw [fX7_comesOne_eq]; unfold fX7_comesOne_b
        have en : nw = 6 := by omega
        rw [show m.1 7 0 10 = nI 6 from hL.2.2.2.2.2.2.2.2.1.symm.trans (hF.2.2.1.trans (by rw [en])), if_neg (show ¬ ¬ nI 6 = 6 by decide)]
        exact no (full 1 es (Or.inr (Or.inl ⟨rfl, en⟩)))
  · rw [decide_eq_false k]
    simp only [Bool.false_and, bI_0, if_true]
    unfold fX7_statement_j136
    rw [if_neg (fun h => h rfl)]
    exact no (by unfold stR; rw [if_neg k])
