/-! PURE: back -/
/-- what a shelf holds when so many bottles are left -/
def nz (nb : Nat) (x : Int32) : Int32 := if x < nI (10 + nb) then x else -1
theorem back6 {nb nbo : Nat} (m : MM) (h5 : m.1 5 0 5 = nI nb) (hnb : nb ≤ 8) (hno : nbo ≤ 8) (hS : ∀ s, s < 8 → (m.1 1 s 0 = -1 ∨ inB (m.1 1 s 0) 5 = true ∨ ∃ b, b < nbo ∧ m.1 1 s 0 = nI (10 + b))) :
    Ok (loopF 1000 (fX6_back_b28 0) 0 m) (fun _ m' => (∀ s, s < 8 → m'.1 1 s 0 = nz nb (m.1 1 s 0)) ∧ FrP (fun c i k => c = 1 ∧ k = 0) m m') := by
  refine Ok.count 0 8 (fun i s m' => s = nI i ∧ (∀ t, t < i → m'.1 1 t 0 = nz nb (m.1 1 t 0)) ∧ FrP (fun c j k => c = 1 ∧ k = 0 ∧ j < i) m m') ?_ ?_ (by omega) 1000 (by omega) 0 m ⟨rfl, fun b h => by omega, FrP.rfl⟩
  · intro i s m' _ hi ⟨es, e1, e2⟩
    subst es
    have c0 : m'.1 1 i 0 = m.1 1 i 0 := e2.1 1 i 0 (by omega)
    have n5 : m'.1 5 0 5 = nI nb := (e2.1 5 0 5 (by omega)).trans h5
    have stay : m.1 1 i 0 = nz nb (m.1 1 i 0) → Ok (some (Sum.inl (nI i + 1), m')) (lpQ (fun (s : Int32) m' => s = nI (i + 1) ∧ (∀ t, t < i + 1 → m'.1 1 t 0 = nz nb (m.1 1 t 0)) ∧ FrP (fun c j k => c = 1 ∧ k = 0 ∧ j < i + 1) m m') (fun (_ : Unit) m' => (∀ s, s < 8 → m'.1 1 s 0 = nz nb (m.1 1 s 0)) ∧ FrP (fun c i k => c = 1 ∧ k = 0) m m')) := by
      intro q
      refine Ok.ret ⟨(n_s i).symm, fun t ht => ?_, e2.mono (by omega)⟩
      by_cases e : t = i
      · rw [e, c0]; exact q
      · exact e1 t (by omega)
    unfold fX6_back_b28
    rw [if_neg (by rw [n_le (by omega) (by omega)]; omega), e6_shelfAt, inB_t hi (by omega), if_pos rfl, n_cl (by omega)]
    simp only [Option.bind_some]
    rw [e1_isBottle, c0]
    simp only [Option.bind_some, bI_0]
    rcases hS i hi with q | q | ⟨b, hb, q⟩
    · rw [q, decide_eq_false (by decide), if_pos rfl]
      refine stay ?_
      rw [q]; unfold nz
      split <;> rfl
    · have t5 := five_ten q
      rw [decide_eq_false (fun h => h t5.1), if_pos rfl]
      refine stay ?_
      unfold nz
      rw [if_pos]
      have a := (inB_iff _ _).1 q
      rw [Int32.lt_iff_toInt_lt, n_ti (by omega)]; omega
    · rw [q, decide_eq_true (ten b (by omega)), if_neg (by decide), c0, q]
      have e10 : nI (10 + b) - 10 = nI b := by
        rw [show (10 : Int32) = nI 10 from rfl, ← n_sub (by omega), Nat.add_sub_cancel_left]
      rw [e10, e_bottleAt 0 (nI b) nb m' n5 hnb]
      simp only [Option.bind_some]
      by_cases hlt : b < nb
      · rw [inB_t hlt (by omega), if_pos rfl]
        refine stay ?_
        rw [q]; unfold nz
        rw [if_pos (by rw [n_lt (by omega) (by omega)]; omega)]
      · rw [inB_nn (by omega), decide_eq_false hlt, if_neg (by decide)]
        refine Ok.ret ⟨(n_s i).symm, fun t ht => ?_, FrP.up (e2.mono (by omega)) (by omega) _⟩
        dsimp only
        by_cases e : t = i
        · subst e
          rw [upI_same, q]; unfold nz
          rw [if_neg (by rw [n_lt (by omega) (by omega)]; omega)]
        · rw [upI_nn (by omega)]; exact e1 t (by omega)
  · intro s m' ⟨es, e1, e2⟩
    unfold fX6_back_b28
    rw [es, if_pos (by rw [n_le (by omega) (by omega)]; omega)]
    exact Ok.ret ⟨e1, e2.mono (by omega)⟩
theorem back7 {nb : Nat} (m : MM) (h5 : m.1 7 0 4 = nI nb) (hnb : nb ≤ 8) :
    Ok (loopF 1000 (fX7_back_b25 0) 0 m) (fun _ m' => (∀ s, s < 8 → m'.1 59 0 s = nz nb (m.1 59 0 s)) ∧ FrP (fun c i k => c = 59) m m') := by
  refine Ok.count 0 8 (fun i s m' => s = nI i ∧ (∀ t, t < i → m'.1 59 0 t = nz nb (m.1 59 0 t)) ∧ FrP (fun c j k => c = 59 ∧ k < i) m m') ?_ ?_ (by omega) 1000 (by omega) 0 m ⟨rfl, fun b h => by omega, FrP.rfl⟩
  · intro i s m' _ hi ⟨es, e1, e2⟩
    subst es
    have c0 : m'.1 59 0 i = m.1 59 0 i := e2.1 59 0 i (by omega)
    have e10 : (10 : Int32) + nI nb = nI (10 + nb) := (n_add 10 nb).symm
    unfold fX7_back_b25
    rw [if_neg (by rw [show (8 : Int32) = nI 8 from rfl, n_le (by omega) (by omega)]; omega), inB_t hi (by omega), n_cl (by omega), c0, (e2.1 7 0 4 (by omega)).trans h5, e10]
    simp only [cond_true]
    by_cases q : m.1 59 0 i < nI (10 + nb)
    · rw [if_pos q]
      refine Ok.ret ⟨(n_s i).symm, fun t ht => ?_, e2.mono (by omega)⟩
      by_cases e : t = i
      · rw [e, c0]; unfold nz; rw [if_pos q]
      · exact e1 t (by omega)
    · rw [if_neg q]
      refine Ok.ret ⟨(n_s i).symm, fun t ht => ?_, FrP.up (e2.mono (by omega)) (by omega) _⟩
      dsimp only
      by_cases e : t = i
      · subst e
        rw [upI_same]; unfold nz; rw [if_neg q]
      · rw [upI_nn (by omega)]; exact e1 t (by omega)
  · intro s m' ⟨es, e1, e2⟩
    unfold fX7_back_b25
    rw [es, if_pos (by rw [show (8 : Int32) = nI 8 from rfl, n_le (by omega) (by omega)]; omega)]
    exact Ok.ret ⟨e1, e2.mono (by omega)⟩
theorem Lv_row {v : Nat → Int32} {m m' : MM} (h : Lv v m') (e : m.1 62 0 = v) : Lv (m.1 62 0) m' := e ▸ h
theorem op_back {v : Nat → Int32} {nb nw nc : Nat} {m : MM} (h : Rlt v nb nw nc m) : Eq2 (fX6_back 0) (fX7_back 0) m := by
  have hnb := h.1.nb.2.1
  rcases h.1.2.2.2.2.2.1 with ⟨i1, i2⟩ | ⟨i1, i2, nb', nw', nc', hF, hW⟩
  · refine Eq2.no' h (-1005) 3 (by omega) (by decide) (by decide) ?_ ?_
    · rw [fX6_back_eq]; unfold fX6_back_b
      rw [i1, if_neg (fun h => h rfl)]
      simp only [bind_eta]
    · intro m1 h1 f
      rw [fX7_back_eq]; unfold fX7_back_b
      rw [f.1 7 0 23 (by omega), i2, if_neg (fun h => h rfl)]
      simp only [bind_eta]
  · unfold Eq2
    have hnb' := hF.2.1
    have hnw' := hF.2.2.2.1
    rw [fX6_back_eq]; unfold fX6_back_b
    rw [i1, if_pos (by decide)]
    refine (become_v (w := 0) (by omega) hW hF.1 hnb' hF.2.2.1 hnw').bind ?_
    intro _ m1 ⟨r1, f1⟩
    dsimp only
    have n5 : m1.1 5 0 5 = nI nb' := r1.2.2.2.2.2.1.trans hF.1
    have S1 : ∀ s, s < 8 → (m1.1 1 s 0 = -1 ∨ inB (m1.1 1 s 0) 5 = true ∨ ∃ b, b < nb ∧ m1.1 1 s 0 = nI (10 + b)) := by
      intro s hs
      rw [f1.1 1 s 0 (by unfold Dbe; omega)]
      exact (h.1.2.2.2.1 s hs).2.2.2.1
    refine (back6 m1 n5 hnb' hnb S1).bind ?_
    intro _ m2 ⟨s2, f2⟩
    refine Ok.ret ?_
    rw [fX7_back_eq]; unfold fX7_back_b
    have c23 : m2.1 7 0 23 = 1 := by
      rw [f2.1 7 0 23 (by omega), f1.1 7 0 23 (by unfold Dbe; omega)]; exact i2
    rw [c23, if_pos (by decide)]
    refine (again_ok 0 m2).bind ?_
    intro _ m3 ⟨l3, f3⟩
    dsimp only
    have e62 : m2.1 62 0 = m.1 62 0 := by
      funext k
      rw [f2.1 62 0 k (by omega), f1.1 62 0 k (by unfold Dbe; omega)]
    rw [e62] at l3
    refine (back7 m3 (l3.nb hF) hnb').bind ?_
    intro _ m4 ⟨s4, f4⟩
    have F : FrP (fun c i k => Dbe 0 c i k ∨ (c = 1 ∧ k = 0) ∨ Dlv c i k ∨ c = 59) m m4 := (f1.mono (fun c i k q => Or.inl q)).trans ((f2.mono (fun c i k q => Or.inr (Or.inl q))).trans ((f3.mono (fun c i k q => Or.inr (Or.inr (Or.inl q)))).trans (f4.mono (fun c i k q => Or.inr (Or.inr (Or.inr q))))))
    refine Ok.ret ⟨rfl, ⟨m.1 62 0, nb', nw', nc', ?_⟩, ?_⟩
    · obtain ⟨⟨h1, h2, h3, h4, h5, h6, h8⟩, h7⟩ := h
      have L4 : Lv (m.1 62 0) m4 := Lv_fr l3 f4 (by unfold Dlv; omega)
      have W4 : RelW m4.1 0 nb' nw' (m.1 62 0) := RelW_fr' (m := m1) r1 (D := fun c i k => (c = 1 ∧ k = 0) ∨ Dlv c i k ∨ c = 59) ((f2.mono (fun c i k q => Or.inl q)).trans ((f3.mono (fun c i k q => Or.inr (Or.inl q))).trans (f4.mono (fun c i k q => Or.inr (Or.inr q))))).1 (by unfold Dlv; omega) (by unfold Dlv; omega) (by unfold Dlv; omega) (by unfold Dlv; omega)
      refine ⟨⟨hF, L4, W4, ?_, RelT_fr h5 F.1 (by unfold Dbe Dlv; omega) (by unfold Dbe Dlv; omega) (by unfold Dbe Dlv; omega) (by unfold Dbe Dlv; omega), RelI_fr h6 F.1 (by unfold Dbe Dlv; omega) (by unfold Dbe Dlv; omega) (by unfold Dbe Dlv; omega) (by unfold Dbe Dlv; omega) (by unfold Dbe Dlv; omega) (by unfold Dbe Dlv; omega) (by unfold Dbe Dlv; omega), RelK_fr h8 F.1 (by unfold Dbe Dlv; omega) (by unfold Dbe Dlv; omega)⟩, RelN_fr h7 F.1 (by unfold Dbe Dlv; omega) (by unfold Dbe Dlv; omega)⟩
      intro s hs
      obtain ⟨a1, a2, a3, a4, a5⟩ := h4 s hs
      have c1 : m4.1 1 s 0 = nz nb' (m.1 1 s 0) := by
        rw [f4.1 1 s 0 (by omega), f3.1 1 s 0 (by unfold Dlv; omega), s2 s hs, f1.1 1 s 0 (by unfold Dbe; omega)]
      have c2 : m4.1 59 0 s = nz nb' (m.1 59 0 s) := by
        rw [s4 s hs, f3.1 59 0 s (by unfold Dlv; omega), f2.1 59 0 s (by omega), f1.1 59 0 s (by unfold Dbe; omega)]
      have c3 : m4.1 1 s 1 = m.1 1 s 1 := F.1 1 s 1 (by unfold Dbe Dlv; omega)
      have c4 : m4.1 60 0 s = m.1 60 0 s := F.1 60 0 s (by unfold Dbe Dlv; omega)
      rw [c1, c2, c3, c4, F.2, a1]
      refine ⟨rfl, a2, a3, ?_, a5⟩
      rw [← a1]
      rcases a4 with q | q | ⟨b, hb, q⟩
      · rw [q]; left; unfold nz; split <;> rfl
      · right; left
        unfold nz
        rw [if_pos]
        · exact q
        · have a := (inB_iff _ _).1 q
          rw [Int32.lt_iff_toInt_lt, n_ti (by omega)]; omega
      · rw [q]
        unfold nz
        by_cases hlt : b < nb'
        · rw [if_pos (by rw [n_lt (by omega) (by omega)]; omega)]
          exact Or.inr (Or.inr ⟨b, hlt, rfl⟩)
        · rw [if_neg (by rw [n_lt (by omega) (by omega)]; omega)]
          exact Or.inl rfl
    · funext i k
      exact F.1 33 i k (by unfold Dbe Dlv; omega)
