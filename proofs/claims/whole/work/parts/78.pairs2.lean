/-! PURE: pairs, the class's meetings -/
/-- who meets whom, in so many days -/
def mtg (v : Nat → Int32) (nb nw n i w : Nat) : Int32 := if i < nb ∧ w < nw then met v i w n else -1
theorem Fr421_C {m m' : MM} (f : Fr (fun c i => c = 4 ∧ i = 21) m m') : FrP ScrC m m' := f.toC (fun c i h k => by unfold ScrC; omega) (by omega)
def Smt (v : Nat → Int32) (nb nw n : Nat) (m : MM) (i : Nat) (m' : MM) : Prop := (∀ j w, j < i → w < 6 → m'.1 43 j w = mtg v nb nw n j w) ∧ FrP ScrC m m'
theorem fillM_row {v : Nat → Int32} {nb nw nc n i : Nat} {m m' : MM} (h : Rlt v nb nw nc m) (hn : n < 61) (hi : i < nb) (h1 : Smt v nb nw n m i m') (hT : ∀ d, d ≤ n → m'.1 41 0 d = (simN v i d).1 ∧ m'.1 42 0 d = (simN v i d).2) : Ok (loopF 1000 (fX6_fillMeetings_b38 0 (nI n) (nI i) (1 + i)) 0 m') (fun _ m2 => Smt v nb nw n m (i + 1) m2) := by
  have h8 := h.1.nb.2.1
  have h6 := h.1.nw.2.1
  refine Ok.mono (Ok.fold (f := fX6_fillMeetings_b38 0 (nI n) (nI i) (1 + i)) 6 (fun w => nI w) () (fun w m2 => Smt v nb nw n m i m2 ∧ (∀ k, k < w → m2.1 43 i k = mtg v nb nw n i k) ∧ (∀ d, d ≤ n → m2.1 41 0 d = (simN v i d).1 ∧ m2.1 42 0 d = (simN v i d).2)) ?_ ?_ (by omega) m' ⟨h1, fun k hk => by omega, hT⟩) ?_
  · intro w m2 hw ⟨⟨s1, s2⟩, s3, s4⟩
    have hR := Rel_frC h s2
    unfold fX6_fillMeetings_b38
    rw [if_neg (by rw [show (6 : Int32) = nI 6 from rfl, n_le (by omega) (by omega)]; omega), inB_t (show i < 8 by omega) (by omega), cond_true, e5_walkerAt hR.1]
    have fin : ∀ m3 : MM, ∀ x : Int32, (∀ c i k, ¬ (c = 4 ∧ i = 21) → m3.1 c i k = m2.1 c i k) → FrP ScrC m m3 → x = mtg v nb nw n i w → Ok (bif inB (nI w) 6 then some (Sum.inl (nI w + 1), ((upI m3.1 43 (nI i).toNatClampNeg (nI w).toNatClampNeg x), m3.2)) else none) (fun (o : Int32 ⊕ Unit) m4 => o = Sum.inl (nI (w + 1)) ∧ Smt v nb nw n m i m4 ∧ (∀ k, k < w + 1 → m4.1 43 i k = mtg v nb nw n i k) ∧ (∀ d, d ≤ n → m4.1 41 0 d = (simN v i d).1 ∧ m4.1 42 0 d = (simN v i d).2)) := by
      intro m3 x g f ex
      rw [inB_t hw (by omega), cond_true, n_cl (show i < 2147483648 by omega), n_cl (show w < 2147483648 by omega)]
      refine Ok.ret ⟨by rw [n_s], ⟨fun j k hj hk => ?_, FrP.up (m' := m3) f (by unfold ScrC; omega) _⟩, fun k hk => ?_, fun d hd => ?_⟩
      · dsimp only
        rw [upI_nn (by omega), g 43 j k (by omega)]; exact s1 j k hj hk
      · dsimp only
        by_cases q : k = w
        · rw [q, upI_same, ex]
        · rw [upI_nn (by omega), g 43 i k (by omega)]; exact s3 k (by omega)
      · dsimp only
        rw [upI_nn (by omega), upI_nn (by omega), g 41 0 d (by omega), g 42 0 d (by omega)]; exact s4 d hd
    by_cases q : w < nw
    · rw [inB_t q (by omega), if_pos rfl, n_cl (show w < 2147483648 by omega)]
      simp only [Option.bind_some]
      refine (meet6 (N := n) (simN v i) s4 hR.1.2.2.1.1 (hR.1.wf q) (h.1.1.p100 q) (by omega)).bind ?_
      intro r m3 ⟨r1, r2⟩
      have := fin m3 r (fun c i k hc => (r2 c i hc k).1) (s2.trans (Fr421_C r2)) (by rw [r1]; unfold mtg; rw [if_pos ⟨hi, q⟩]; rfl)
      rw [n_cl (show w < 2147483648 by omega)] at this
      exact this
    · have q' : inB (nI w) nw = false := by rw [inB_nn (by omega), decide_eq_false q]
      rw [q', if_neg (by decide)]
      simp only [Option.bind_some]
      rw [fX6_firstMeeting_eq]
      unfold fX6_firstMeeting_b
      dsimp only
      unfold fX6_firstMeeting_0
      simp only [Option.bind_some]
      exact fin m2 (-1) (fun _ _ _ _ => rfl) s2 (by unfold mtg; rw [if_neg (fun h => q h.2)])
  · intro m2 _
    unfold fX6_fillMeetings_b38
    rw [if_pos (show (6 : Int32) ≤ nI 6 by decide)]
  · intro _ m2 ⟨_, ⟨s1, s2⟩, s3, s4⟩
    refine ⟨fun j w hj hw => ?_, s2⟩
    by_cases q : j = i
    · rw [q]; exact s3 w hw
    · exact s1 j w (by omega) hw
theorem fillM_no {v : Nat → Int32} {nb nw nc n i : Nat} {m m' : MM} (h : Rlt v nb nw nc m) (hi8 : i < 8) (hi : ¬ i < nb) (h1 : Smt v nb nw n m i m') : Ok (loopF 1000 (fX6_fillMeetings_b38n3 0 (nI n) (nI i)) 0 m') (fun _ m2 => Smt v nb nw n m (i + 1) m2) := by
  refine Ok.mono (Ok.fold (f := fX6_fillMeetings_b38n3 0 (nI n) (nI i)) 6 (fun w => nI w) () (fun w m2 => Smt v nb nw n m i m2 ∧ (∀ k, k < w → m2.1 43 i k = -1)) ?_ ?_ (by omega) m' ⟨h1, fun k hk => by omega⟩) ?_
  · intro w m2 hw ⟨⟨s1, s2⟩, s3⟩
    unfold fX6_fillMeetings_b38n3
    rw [if_neg (by rw [show (6 : Int32) = nI 6 from rfl, n_le (by omega) (by omega)]; omega), inB_t (show i < 8 by omega) (by omega), cond_true, inB_t hw (by omega), cond_true, n_cl (show i < 2147483648 by omega), n_cl (show w < 2147483648 by omega)]
    refine Ok.ret ⟨by rw [n_s], ⟨fun j k hj hk => ?_, FrP.up (m' := m2) s2 (by unfold ScrC; omega) _⟩, fun k hk => ?_⟩
    · dsimp only
      rw [upI_nn (by omega)]; exact s1 j k hj hk
    · dsimp only
      by_cases q : k = w
      · rw [q, upI_same]
      · rw [upI_nn (by omega)]; exact s3 k (by omega)
  · intro m2 _
    unfold fX6_fillMeetings_b38n3
    rw [if_pos (show (6 : Int32) ≤ nI 6 by decide)]
  · intro _ m2 ⟨_, ⟨s1, s2⟩, s3⟩
    refine ⟨fun j w hj hw => ?_, s2⟩
    by_cases q : j = i
    · rw [q, s3 w hw]; unfold mtg; rw [if_neg (fun h => hi h.1)]
    · exact s1 j w (by omega) hw
theorem fillM {v : Nat → Int32} {nb nw nc n : Nat} {m : MM} (h : Rlt v nb nw nc m) (hn : n < 61) : Ok (fX6_fillMeetings 0 (nI n) m) (fun _ m' => Smt v nb nw n m 8 m') := by
  have h8 := h.1.nb.2.1
  rw [fX6_fillMeetings_eq]; unfold fX6_fillMeetings_b
  refine Ok.bind (Ok.fold (f := fX6_fillMeetings_b2 0 (nI n)) 8 (fun i => nI i) () (fun i m' => Smt v nb nw n m i m') ?_ ?_ (by omega) m ⟨fun j w hj => by omega, FrP.rfl⟩) (fun _ m' ⟨_, h'⟩ => Ok.ret h')
  · intro i m' hi hS
    have hR := Rel_frC h hS.2
    unfold fX6_fillMeetings_b2
    rw [if_neg (by rw [show (8 : Int32) = nI 8 from rfl, n_le (by omega) (by omega)]; omega), e5_bottleAt hR.1]
    by_cases q : i < nb
    · rw [inB_t q (by omega), if_pos rfl, n_cl (show i < 2147483648 by omega)]
      simp only [Option.bind_some]
      refine (q_follow0 hR.1 (N := n) q hn 0).bind ?_
      intro _ m1 ⟨t1, t2⟩
      unfold fX6_fillMeetings_j35_1_2
      have hS' : Smt v nb nw n m i m1 := ⟨fun j w hj hw => by rw [(t2 43 j (by unfold Dfo; omega) w).1]; exact hS.1 j w hj hw, hS.2.trans (Dfo_toC t2)⟩
      refine (fillM_row h hn q hS' t1).bind ?_
      intro _ m2 h2
      exact Ok.ret ⟨by rw [n_s], h2⟩
    · have q' : inB (nI i) nb = false := by rw [inB_nn (by omega), decide_eq_false q]
      rw [q', if_neg (by decide)]
      simp only [Option.bind_some]
      unfold fX6_fillMeetings_j35
      refine (fillM_no h hi q hS).bind ?_
      intro _ m2 h2
      exact Ok.ret ⟨by rw [n_s], h2⟩
  · intro m2 _
    unfold fX6_fillMeetings_b2
    rw [if_pos (show (8 : Int32) ≤ nI 8 by decide)]
