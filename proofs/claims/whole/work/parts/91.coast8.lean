/-! PURE: coast, a statement of the class -/
def stw (B : Nat → Int32) (s e : Nat) : Nat := if wdB B s e 0 = true then 0 else if wdB B s e 1 = true then 1 else if wdB B s e 2 = true then 2 else if wdB B s e 3 = true then 3 else if wdB B s e 4 = true then 4 else if wdB B s e 5 = true then 5 else 6
theorem wordN6 {B : Nat → Int32} {tp s e : Nat} {m : MM} (hT : Tp6 B tp m) (hK : RelK m) (h1 : m.1 2 0 1 = nI s) (h3 : m.1 2 0 3 = nI e) (hs : s ≤ e) (he : e ≤ tp) : fX2_wordNumber 0 m = some (if stw B s e = 6 then -1 else nI (stw B s e), m) := by
  have sp : ∀ a, a < 12 → fX2_spells 0 a m = some (wdB B s e a, m) := by
    intro a ha
    obtain ⟨r, m', e1, e2, e3⟩ := spell6 hT hK ha h1 h3 hs he
    rw [e1, e2, e3]
  rw [fX2_wordNumber_eq]; unfold fX2_wordNumber_b stw
  simp only [sp 0 (by omega), sp 1 (by omega), sp 2 (by omega), sp 3 (by omega), sp 4 (by omega), sp 5 (by omega), Option.bind_some]
  cases wdB B s e 0
  · cases wdB B s e 1
    · cases wdB B s e 2
      · cases wdB B s e 3
        · cases wdB B s e 4
          · cases wdB B s e 5
            · rfl
            · rfl
          · rfl
        · rfl
      · rfl
    · rfl
  · rfl
theorem stw_lt (B : Nat → Int32) (s e : Nat) : stw B s e < 7 := by
  unfold stw
  repeat' split
  all_goals omega
/-- where a statement goes wrong, if it does -/
def stR (B : Nat → Int32) (tp p nb nw nc : Nat) : Option Nat :=
  if tK B tp p = 1 then
    (if stw B (tS B tp p) (tE B tp p) = 6 ∨ (stw B (tS B tp p) (tE B tp p) = 1 ∧ nw = 6) ∨ (stw B (tS B tp p) (tE B tp p) = 2 ∧ nb = 8) then some (tS B tp p)
     else nr B tp (fun _ => loN (stw B (tS B tp p) (tE B tp p)) nc) (hiN (stw B (tS B tp p) (tE B tp p)) nc nw) (tE B tp p) (nN (stw B (tS B tp p) (tE B tp p))))
  else some (tS B tp p)
def stE (B : Nat → Int32) (tp p : Nat) : Nat := ps B tp (tE B tp p) (nN (stw B (tS B tp p) (tE B tp p)))
def stX (B : Nat → Int32) (tp p i : Nat) : Int32 := tV B tp (ps B tp (tE B tp p) i)
def stF (B : Nat → Int32) (tp p : Nat) (v : Nat → Int32) (nb nw nc : Nat) : (Nat → Int32) × Nat × Nat × Nat := ef (stw B (tS B tp p) (tE B tp p)) (stX B tp p) v nb nw nc
theorem nN_le (a : Nat) : nN a ≤ 4 := by
  unfold nN; split <;> omega
def Drs : Nat → Nat → Nat → Prop := fun c i k => Dst c i k ∨ Dtw c i k
theorem nr_none {B : Nat → Int32} {tp : Nat} {lo hi : Nat → Int32} {p n : Nat} (h : nr B tp lo hi p n = none) (i : Nat) (hi' : i < n) : nmB B tp (lo i) (hi i) (ps B tp p i) = true := by
  by_cases q : nmB B tp (lo i) (hi i) (ps B tp p i) = true
  · exact q
  · exfalso
    cases e : nr B tp lo hi p i with
    | none =>
      have := nr_stay (k := n - (i + 1)) (show nr B tp lo hi p (i + 1) = some (tS B tp (ps B tp p i)) by rw [nr_s e, if_neg q])
      rw [show i + 1 + (n - (i + 1)) = n by omega, h] at this
      cases this
    | some s =>
      have := nr_stay (k := n - i) e
      rw [show i + (n - i) = n by omega, h] at this
      cases this
theorem nm_in {B : Nat → Int32} {tp p k : Nat} {lo hi : Int32} (h : nmB B tp lo hi p = true) (hl : 0 ≤ lo.toInt) (hh : hi.toInt < k) : inB (tV B tp p) k = true := by
  unfold nmB at h
  simp only [Bool.and_eq_true, decide_eq_true_eq] at h
  obtain ⟨⟨⟨_, _⟩, a⟩, b⟩ := h
  rw [Int32.lt_iff_toInt_lt] at a b
  rw [inB_iff]
  omega
theorem statement6 {B : Nat → Int32} {tp p nb nw nc : Nat} {v : Nat → Int32} {m : MM} (hT : Tp6 B tp m) (hK : RelK m) (hp : p ≤ tp) (h3 : m.1 2 0 3 = nI p) (hW : RelW m.1 2 nb nw v) (hF : WF v nb nw nc) :
    Ok (fX2_readStatement 0 2 m) (fun r m' => FrP Drs m m' ∧ ((r = false ∧ ∃ s, stR B tp p nb nw nc = some s ∧ m'.1 2 0 1 = nI s) ∨ (r = true ∧ stR B tp p nb nw nc = none ∧ RelW m'.1 2 (stF B tp p v nb nw nc).2.1 (stF B tp p v nb nw nc).2.2.1 (stF B tp p v nb nw nc).1 ∧ m'.1 2 0 3 = nI (stE B tp p)))) := by
  have h8 := hF.2.1
  have h6 := hF.2.2.2.1
  have h16 := hF.2.2.2.2.2.1
  have h30 := hF.2.2.2.2.2.2.1
  obtain ⟨l1, l2⟩ := tS_le (B := B) hp
  obtain ⟨l3, l4⟩ := tE_le (B := B) hp
  rw [fX2_readStatement_eq]; unfold fX2_readStatement_b
  refine (scan6 hT hp h3).bind ?_
  intro _ m1 ⟨a1, a2, a3, a4, f⟩
  have f1 : FrP Drs m m1 := f.mono (fun c i k h => Or.inl (Or.inl h))
  have hT1 := hT.fr f
  have hK1 : RelK m1 := RelK_fr hK f.1 (by unfold Dsc; omega) (by unfold Dsc; omega)
  have hW1 : RelW m1.1 2 nb nw v := RelW_fr hW f (by unfold Dsc; omega) (by unfold Dsc; omega) (by unfold Dsc; omega) (by unfold Dsc; omega)
  dsimp only
  rw [a3]
  have hk := tK_lt B tp p
  by_cases k : tK B tp p = 1
  · rw [if_neg (fun h => h (by rw [k]; rfl)), wordN6 hT1 hK1 a2 a1 l3 l4]
    simp only [Option.bind_some]
    unfold stR stF stE
    rw [if_pos k]
    have hw7 := stw_lt B (tS B tp p) (tE B tp p)
    generalize hx : stX B tp p = X
    have hX : ∀ i, tV B tp (ps B tp (tE B tp p) i) = X i := fun i => by rw [← hx]; rfl
    generalize stw B (tS B tp p) (tE B tp p) = a at *
    unfold fX2_readStatement_j20
    by_cases c6 : a = 6
    · rw [if_pos c6, if_pos rfl, if_pos (Or.inl c6)]
      exact Ok.ret ⟨f1, Or.inl ⟨rfl, _, rfl, a2⟩⟩
    · rw [if_neg c6, if_neg (n_nm1 (by omega))]
      have go : (a = 1 → nw < 6) → (a = 2 → nb < 8) → Ok (fX2_readStatement_j52 0 2 (nI a) m1) (fun r m' => FrP Drs m m' ∧ ((r = false ∧ ∃ s, nr B tp (fun _ => loN a nc) (hiN a nc nw) (tE B tp p) (nN a) = some s ∧ m'.1 2 0 1 = nI s) ∨ (r = true ∧ nr B tp (fun _ => loN a nc) (hiN a nc nw) (tE B tp p) (nN a) = none ∧ RelW m'.1 2 (ef a X v nb nw nc).2.1 (ef a X v nb nw nc).2.2.1 (ef a X v nb nw nc).1 ∧ m'.1 2 0 3 = nI (ps B tp (tE B tp p) (nN a))))) := by
        intro g1 g2
        unfold fX2_readStatement_j52
        rw [numbers6 (show a < 6 by omega)]
        simp only [Option.bind_some]
        have z0 : (nI a = 0) ↔ a = 0 := by rw [show (0 : Int32) = nI 0 from rfl, n_inj (by omega) (by omega)]
        refine (read6 (lo := fun _ => loN a nc) (hi := hiN a nc nw) hT1 l4 a1 (nN_le a) ?_ ?_ ?_).bind ?_
        · intro i m' hi g
          refine most6 (by omega) (by have := nN_le a; omega) ?_ ?_
          · rw [g.1 5 2 0 (by unfold Dst Dsc; omega)]; exact hW1.1.trans hF.2.2.2.2.1
          · rw [g.1 5 2 6 (by unfold Dst Dsc; omega)]; exact hW1.2.2.2.2.2.2.1.trans hF.2.2.1
        · intro i _
          unfold loN
          by_cases e : a = 0
          · rw [if_pos (z0.2 e), if_pos e]; exact hW1.1.trans hF.2.2.2.2.1
          · rw [if_neg (fun h => e (z0.1 h)), if_neg e]
        · intro i _
          unfold loN
          split
          · rw [Int32.lt_iff_toInt_lt, n_ti (by omega), show (-1 : Int32).toInt = -1 from rfl]; omega
          · decide
        intro o m2 ⟨f2, h⟩
        have f12 : FrP Drs m m2 := f1.trans (f2.mono (fun c i k h => Or.inl h))
        rcases h with ⟨e0, e1, e2, e3⟩ | ⟨e0, s, e1, e2⟩
        · subst e0
          have hW2 : RelW m2.1 2 nb nw v := RelW_fr hW1 f2 (by unfold Dst Dsc; omega) (by unfold Dst Dsc; omega) (by unfold Dst Dsc; omega) (by unfold Dst Dsc; omega)
          refine (perform6 (nc := nc) (x := X) (show a < 6 by omega) hW2 hF.1 hF.2.2.1 h8 h6 (fun i hi => (e2 i hi).trans (hX i)) g1 g2 ?_).bind ?_
          · intro e
            have n0 := nr_none e1 0 (by rw [e]; decide)
            rw [← hX 0]
            subst e
            refine nm_in n0 (by show 0 ≤ (0 : Int32).toInt; decide) ?_
            show (nI nc - 1).toInt < 30
            rw [show (1 : Int32) = nI 1 from rfl, ← n_sub (by omega), n_ti (by omega)]; omega
          intro _ m3 ⟨w3, f3⟩
          refine Ok.ret ⟨f12.trans (f3.mono (fun c i k h => Or.inr h)), Or.inr ⟨rfl, e1, w3, ?_⟩⟩
          rw [f3.1 2 0 3 (by unfold Dtw; omega)]; exact e3
        · subst e0
          exact Ok.ret ⟨f12, Or.inl ⟨rfl, s, e1, e2⟩⟩
      have n1 : (nI a = 1) ↔ a = 1 := by rw [show (1 : Int32) = nI 1 from rfl, n_inj (by omega) (by omega)]
      have n2 : (nI a = 2) ↔ a = 2 := by rw [show (2 : Int32) = nI 2 from rfl, n_inj (by omega) (by omega)]
      by_cases q1 : a = 1
      · rw [if_neg (fun h => h (n1.2 q1)), e5_roomW 2 m1 (hW1.2.2.2.2.2.2.1.trans hF.2.2.1) h6]
        simp only [Option.bind_some]
        by_cases r : nw < 6
        · rw [decide_eq_true r, if_neg (show ¬ bI true = 0 by decide), if_neg (by omega)]
          unfold fX2_readStatement_j38
          rw [if_pos (fun h => by have := n2.1 h; omega)]
          exact go (fun _ => r) (fun h => by omega)
        · rw [decide_eq_false r, if_pos (show bI false = 0 by decide), if_pos (by omega)]
          exact Ok.ret ⟨f1, Or.inl ⟨rfl, _, rfl, a2⟩⟩
      · rw [if_pos (fun h => q1 (n1.1 h))]
        unfold fX2_readStatement_j38
        by_cases q2 : a = 2
        · rw [if_neg (fun h => h (n2.2 q2)), e5_roomB 2 m1 (hW1.2.2.2.2.2.1.trans hF.1) h8]
          simp only [Option.bind_some]
          by_cases r : nb < 8
          · rw [decide_eq_true r, if_pos (show ¬ bI true = 0 by decide), if_neg (by omega)]
            exact go (fun h => by omega) (fun _ => r)
          · rw [decide_eq_false r, if_neg (show ¬ ¬ bI false = 0 by decide), if_pos (by omega)]
            exact Ok.ret ⟨f1, Or.inl ⟨rfl, _, rfl, a2⟩⟩
        · rw [if_pos (fun h => q2 (n2.1 h)), if_neg (by omega)]
          exact go (fun h => by omega) (fun h => by omega)
  · rw [if_pos (by rw [show (1 : Int32) = nI 1 from rfl, n_inj (by omega) (by omega)]; exact k)]
    unfold fX2_readStatement_j20 stR
    rw [if_pos rfl, if_neg k]
    exact Ok.ret ⟨f1, Or.inl ⟨rfl, _, rfl, a2⟩⟩
