/-! PURE: coast, words -/
theorem e_len {a : Nat} {m : MM} (h : RelK m) (ha : a < 12) : fJ0_length_8abf5 a m = some (nI (wds a).length, m) := by
  obtain ⟨_, _, _, _, _, _, k⟩ := h
  rw [fJ0_length_8abf5_eq]; unfold fJ0_length_8abf5_b
  rw [fJ0_coder_7d493_eq]; unfold fJ0_coder_7d493_b
  rw [(k a ha).1]
  have e : ∀ a : Fin 12, (nI ([5, 6, 6, 7, 4, 3, 6, 6, 5, 7, 4, 3].getD a.val 0)) >>> ((0 : Int32) &&& 31) = nI (wds a.val).length := by decide
  have := e ⟨a, ha⟩
  show some ((nI ([5, 6, 6, 7, 4, 3, 6, 6, 5, 7, 4, 3].getD a 0)) >>> ((0 : Int32) &&& 31), m) = _
  rw [this]
theorem wds_len {a : Nat} (ha : a < 12) : (wds a).length = [5, 6, 6, 7, 4, 3, 6, 6, 5, 7, 4, 3].getD a 0 ∧ (wds a).length ≤ 7 := by
  have e : ∀ a : Fin 12, (wds a.val).length = [5, 6, 6, 7, 4, 3, 6, 6, 5, 7, 4, 3].getD a.val 0 ∧ (wds a.val).length ≤ 7 := by decide
  exact e ⟨a, ha⟩
theorem e_char {a j : Nat} {m : MM} (h : RelK m) (ha : a < 12) (hj : j < (wds a).length) : fJ0_charAt_5068e a (nI j) m = some (nI ((wds a).getD j 0), m) := by
  obtain ⟨_, _, _, _, _, _, k⟩ := h
  obtain ⟨l1, l2⟩ := wds_len ha
  rw [fJ0_charAt_5068e_eq]; unfold fJ0_charAt_5068e_b
  rw [fJ0_isLatin1_aae02_eq]; unfold fJ0_isLatin1_aae02_b
  rw [(k a ha).1, if_neg (fun h => h rfl)]
  simp only [Option.bind_some, bI_0, reduceCtorEq, if_false]
  rw [fJ1_charAt_3b067_eq]; unfold fJ1_charAt_3b067_b
  rw [← l1, fJ0_checkIndex_df160_eq]; unfold fJ0_checkIndex_df160_b
  rw [fJ3_checkIndex_8e157_eq]; unfold fJ3_checkIndex_8e157_b
  rw [if_neg (n_ge0 (by omega)), if_pos (by rw [n_lt (by omega) (by omega)]; exact hj)]
  simp only [Option.bind_some]
  rw [inB_t hj (by omega), cond_true, n_cl (by omega), (k a ha).2 j hj]
  have e : ∀ a : Fin 12, ∀ j : Fin 7, ((((nI ((wds a.val).getD j.val 0)) &&& 255).toUInt32 % 65536).toInt32) = nI ((wds a.val).getD j.val 0) := by decide
  simp only [Option.bind_some]
  rw [e ⟨a, ha⟩ ⟨j, by omega⟩]
/-- a word of the tape is the string -/
def wdB (B : Nat → Int32) (s e a : Nat) : Bool := decide (e - s = (wds a).length ∧ ∀ j, j < (wds a).length → B (s + j) = nI ((wds a).getD j 0))
theorem spell6 {B : Nat → Int32} {tp s e a : Nat} {m : MM} (hT : Tp6 B tp m) (hK : RelK m) (ha : a < 12) (h1 : m.1 2 0 1 = nI s) (h3 : m.1 2 0 3 = nI e) (hs : s ≤ e) (he : e ≤ tp) : Ok (fX2_spells 0 a m) (fun r m' => r = wdB B s e a ∧ m' = m) := by
  have h250 := hT.1
  obtain ⟨l1, l2⟩ := wds_len ha
  rw [fX2_spells_eq]; unfold fX2_spells_b
  rw [e_len hK ha]
  simp only [Option.bind_some]
  rw [h3, h1, ← n_sub hs]
  by_cases q : e - s = (wds a).length
  · rw [if_pos (by rw [q])]
    refine Ok.bind (P := fun o m' => m' = m ∧ o = if (∀ j, j < (wds a).length → B (s + j) = nI ((wds a).getD j 0)) then Sum.inl () else Sum.inr ()) ?_ ?_
    · refine Ok.count 0 (wds a).length (fun j t m' => m' = m ∧ t = nI j ∧ ∀ k, k < j → B (s + k) = nI ((wds a).getD k 0)) ?_ ?_ (by omega) 1000 (by omega) 0 m ⟨rfl, rfl, fun k hk => by omega⟩
      · intro j t m' _ hj ⟨e1, e2, e3⟩
        subst e1 e2
        unfold fX2_spells_b20
        rw [e_len hK ha]
        simp only [Option.bind_some]
        rw [if_neg (by rw [n_le (by omega) (by omega)]; omega), h1, ← n_add, e_byte hT (by omega)]
        simp only [Option.bind_some]
        rw [e_char hK ha hj]
        simp only [Option.bind_some]
        by_cases c : B (s + j) = nI ((wds a).getD j 0)
        · rw [if_pos c, ← n_s]
          refine Ok.ret ⟨rfl, rfl, fun k hk => ?_⟩
          by_cases d : k = j
          · rw [d]; exact c
          · exact e3 k (by omega)
        · rw [if_neg c]
          exact Ok.ret ⟨rfl, by rw [if_neg (fun h => c (h j hj))]⟩
      · intro t m' ⟨e1, e2, e3⟩
        subst e1 e2
        unfold fX2_spells_b20
        rw [e_len hK ha]
        simp only [Option.bind_some]
        rw [if_pos (by rw [n_le (by omega) (by omega)]; omega)]
        exact Ok.ret ⟨rfl, by rw [if_pos e3]⟩
    · intro o m' ⟨em, eo⟩
      subst em
      by_cases c : ∀ j, j < (wds a).length → B (s + j) = nI ((wds a).getD j 0)
      · rw [if_pos c] at eo
        subst eo
        exact Ok.ret ⟨(decide_eq_true ⟨q, c⟩).symm, rfl⟩
      · rw [if_neg c] at eo
        subst eo
        exact Ok.ret ⟨(decide_eq_false (fun h => c h.2)).symm, rfl⟩
  · rw [if_neg (by rw [n_inj (by omega) (by omega)]; exact q)]
    exact Ok.ret ⟨(decide_eq_false (fun h => q h.1)).symm, rfl⟩
theorem word7 {B : Nat → Int32} {tp s e a : Nat} {m : MM} (hT : Tp7 B tp m) (hK : RelK m) (ha : a < 12) (h1 : m.1 7 0 15 = nI s) (h3 : m.1 7 0 16 = nI e) (hs : s ≤ e) (he : e ≤ tp) : Ok (fX7_isWord 0 a m) (fun r m' => r = (decide (m.1 7 0 17 = 119) && wdB B s e a) ∧ m' = m) := by
  have h250 := hT.1
  obtain ⟨l1, l2⟩ := wds_len ha
  rw [fX7_isWord_eq]; unfold fX7_isWord_b
  by_cases q0 : m.1 7 0 17 = 119
  · rw [if_neg (fun h => h q0), e_len hK ha, decide_eq_true q0, Bool.true_and]
    simp only [Option.bind_some]
    rw [h3, h1, ← n_sub hs]
    by_cases q : e - s = (wds a).length
    · rw [if_pos (by rw [q])]
      refine Ok.bind (P := fun o m' => m' = m ∧ o = if (∀ j, j < (wds a).length → B (s + j) = nI ((wds a).getD j 0)) then Sum.inl () else Sum.inr ()) ?_ ?_
      · refine Ok.count 0 (wds a).length (fun j t m' => m' = m ∧ t = nI j ∧ ∀ k, k < j → B (s + k) = nI ((wds a).getD k 0)) ?_ ?_ (by omega) 1000 (by omega) 0 m ⟨rfl, rfl, fun k hk => by omega⟩
        · intro j t m' _ hj ⟨e1, e2, e3⟩
          subst e1 e2
          unfold fX7_isWord_b29
          rw [e_len hK ha]
          simp only [Option.bind_some]
          rw [if_neg (by rw [n_le (by omega) (by omega)]; omega), h1, ← n_add, inB_t (show s + j < 250 by omega) (by omega), cond_true, e_char hK ha hj]
          simp only [Option.bind_some]
          rw [n_cl (show s + j < 2147483648 by omega), (hT.2.2 (s + j) (by omega)).1]
          by_cases c : B (s + j) = nI ((wds a).getD j 0)
          · rw [if_pos c, ← n_s]
            refine Ok.ret ⟨rfl, rfl, fun k hk => ?_⟩
            by_cases d : k = j
            · rw [d]; exact c
            · exact e3 k (by omega)
          · rw [if_neg c]
            exact Ok.ret ⟨rfl, by rw [if_neg (fun h => c (h j hj))]⟩
        · intro t m' ⟨e1, e2, e3⟩
          subst e1 e2
          unfold fX7_isWord_b29
          rw [e_len hK ha]
          simp only [Option.bind_some]
          rw [if_pos (by rw [n_le (by omega) (by omega)]; omega)]
          exact Ok.ret ⟨rfl, by rw [if_pos e3]⟩
      · intro o m' ⟨em, eo⟩
        subst em
        by_cases c : ∀ j, j < (wds a).length → B (s + j) = nI ((wds a).getD j 0)
        · rw [if_pos c] at eo
          subst eo
          exact Ok.ret ⟨(decide_eq_true ⟨q, c⟩).symm, rfl⟩
        · rw [if_neg c] at eo
          subst eo
          exact Ok.ret ⟨(decide_eq_false (fun h => c h.2)).symm, rfl⟩
    · rw [if_neg (by rw [n_inj (by omega) (by omega)]; exact q)]
      exact Ok.ret ⟨(decide_eq_false (fun h => q h.1)).symm, rfl⟩
  · rw [if_pos q0, decide_eq_false q0]
    exact Ok.ret ⟨rfl, rfl⟩
