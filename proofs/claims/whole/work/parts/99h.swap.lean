/-! ANOTHER MEMORY OF THE SAME HEAP: what the heap holds may be told otherwise where nothing looks -/
theorem Rep.sw {D : va_G} {cA : Nat → ClassId} {ad ad' : Nat → Nat → Nat} {dir : List (Nat × Nat)} {B : Nat} {M N : Mem} {H : Heap} (h : Rep D cA ad dir B M H)
    (hc : ∀ c, isW c = true → N.1.1 c = M.1.1 c)
    (hl : ∀ c i, (c, i) ∈ dir → ¬ c < 8 → N.1.2.1 c i = M.1.2.1 c i)
    (hr : ∀ c i k, (c, i) ∈ dir → (c < 8 ∧ k < NF c ∧ sk c k = 4) ∨ (isRA c = true ∧ k < M.1.2.1 c i) → N.1.2.2.1 c i k = M.1.2.2.1 c i k)
    (hi : ∀ c i, (c, i) ∈ dir → N.2.1 c i = M.2.1 c i ∧ N.2.2 c i = M.2.2 c i)
    (ha : ∀ q ∈ dir, ad' q.1 q.2 = ad q.1 q.2)
    (hcl : ∀ c i k z, (c, i) ∈ dir → (c < 8 ∨ k < N.1.2.1 c i) → N.1.2.2.1 c i k = some z → z ∈ dir) : Rep D cA ad' dir B N H := by
  obtain ⟨r1, r2, r3, r4, r5, r6⟩ := h
  have he : ∀ c i, (c, i) ∈ dir → ent cA ad' N c i = ent cA ad M c i := by
    intro c i hq
    have w : isW c = true := r3 _ hq
    unfold ent
    by_cases h8 : c < 8
    · have hf : fsL ad' N c i = fsL ad M c i := by
        unfold fsL
        apply List.map_congr_left
        intro k hk
        have hk := List.mem_range.mp hk
        unfold fV
        by_cases h4 : sk c k = 4
        · rw [if_pos h4, if_pos h4, hr c i k hq (Or.inl ⟨h8, hk, h4⟩), adq_ext (dir' := dir) ha (fun z hz => r6 c i k z hq (Or.inl h8) hz)]
        · rw [if_neg h4, if_neg h4, (hi c i hq).1]
      rw [if_pos h8, if_pos h8, hf]
    · rw [if_neg h8, if_neg h8]
      by_cases hI : isIA c = true
      · rw [if_pos hI, if_pos hI, hl c i hq h8, (hi c i hq).1]
      · rw [if_neg hI, if_neg hI]
        by_cases hL : isLA c = true
        · rw [if_pos hL, if_pos hL, hl c i hq h8, (hi c i hq).2]
        · have hRA : isRA c = true := by
            simp only [isW, Bool.or_eq_true, Nat.blt_eq] at w
            rcases w with ((w | w) | w) | w
            · exact absurd w h8
            · exact absurd w hI
            · exact absurd w hL
            · exact w
          have hg : (fun j => (rfb N c i j).map (adq ad')) = (fun j => (rfb M c i j).map (adq ad)) := by
            funext j
            by_cases hj : j < M.1.2.1 c i
            · have e1 : rfb N c i j = M.1.2.2.1 c i j := by
                rw [rfb_in (by rw [hl c i hq h8]; exact hj)]; exact hr c i j hq (Or.inr ⟨hRA, hj⟩)
              rw [e1, rfb_in hj]
              exact adq_ext (dir' := dir) ha (fun z hz => r6 c i j z hq (Or.inr hj) hz)
            · have e1 : rfb N c i j = none := if_neg (by rw [hl c i hq h8]; exact hj)
              have e2 : rfb M c i j = none := if_neg hj
              rw [e1, e2]
              rfl
          rw [if_neg hL, if_neg hL, hl c i hq h8, hg]
  have hw : wl cA ad' N dir = wl cA ad M dir := by
    unfold wl
    apply List.map_congr_left
    intro q hq
    rw [ha q hq, he q.1 q.2 hq]
  exact ⟨by rw [hw]; exact r1, by rw [hw]; exact r2, r3, fun c i w l => r4 c i w (by rw [← hc c w]; exact l), fun c i q => by rw [hc c (r3 _ q)]; exact r5 c i q, hcl⟩
/-- a contract over another memory, what is only read told otherwise -/
theorem MetC.sw {l : Launch} {D : va_G} {cA : Nat → ClassId} {ov : Value} {aR0 aR1 : Nat → Nat → Nat} {B n1 n2 : Nat} {x1 x2 : Nat → Int32} {d j : Nat} {as : List AV} {M M' N N' : Mem} (h : MetC l D cA ov aR1 B n1 x1 d j as M none M') (hM : ROm n1 x1 M) (hN : ROm n2 x2 N → ROm n2 x2 N')
    (t1 : N.1.2.2.2 = M.1.2.2.2) (t2 : N'.1.2.2.2 = M'.1.2.2.2)
    (hsf : ∀ U, SFp D cA ov aR0 B n2 x2 U → SFp D cA ov aR1 B n1 x1 U)
    (has : ∀ z ∈ as, ∃ c i, z = aR c i ∧ isW c = true)
    (rep1 : ∀ dir ad ad' H, (∀ q ∈ dir, ad' q.1 q.2 = ad q.1 q.2) → Rep D cA ad dir B N H → Rep D cA ad' dir B M H)
    (rep2 : ∀ dir ad ad' H, (∀ q ∈ dir, ad' q.1 q.2 = ad q.1 q.2) → Rep D cA ad dir B M' H → Rep D cA ad' dir B N' H) : MetC l D cA ov aR0 B n2 x2 d j as N none N' := by
  intro hRO
  obtain ⟨_, m1, m2, H⟩ := h hM
  refine ⟨hN hRO, by rw [t1, t2]; exact m1, by rw [t1, t2]; exact m2, fun dir ad hro hvas => ?_⟩
  have hif : ∀ (c : Nat) (x y : Nat), isW c = true → (if 30 ≤ c ∧ c ≤ 34 then x else y) = y := fun c x y w => if_neg (by have := isW_cases w; omega)
  have G := H dir (fun c i => if 30 ≤ c ∧ c ≤ 34 then aR1 c i else ad c i) (fun c i g1 g2 => if_pos ⟨g1, g2⟩) hvas
  have er : rmM d N N' = rmM d M M' := by unfold rmM; rw [t1, t2]
  have e1 : N'.1.2.2.2.1 - N.1.2.2.2.1 = M'.1.2.2.2.1 - M.1.2.2.2.1 := by rw [t1, t2]
  have e2 : N'.1.2.2.2.2 - N.1.2.2.2.2 = M'.1.2.2.2.2 - M.1.2.2.2.2 := by rw [t1, t2]
  rw [er, e1, e2]
  have hcv : as.map (cv (fun c i => if 30 ≤ c ∧ c ≤ 34 then aR1 c i else ad c i) ov) = as.map (cv ad ov) := List.map_congr_left fun z hz => by
    obtain ⟨c, i, rfl, w⟩ := has z hz
    have h9 := isW_cases w
    rw [cv_ne (by omega), cv_ne (by omega)]
    show Value.ref (if 30 ≤ c ∧ c ≤ 34 then aR1 c i else ad c i) = _
    rw [hif c _ _ w]
  unfold Met at G ⊢
  refine MetFree.mono G (fun a U hP => ?_) (fun _ _ _ _ _ _ => trivial) (fun a s o t hP hQ => ?_)
  · obtain ⟨p1, p2, p3, p4⟩ := hP
    exact ⟨by rw [hcv]; exact p1, hsf U p2, p3, rep1 dir ad _ _ (fun q hq => hif q.1 _ _ (p4.2.2.1 q hq)) p4⟩
  · obtain ⟨⟨dir', ad', o1, E, hv, R', F⟩, hL⟩ := hQ
    obtain ⟨p1, p2, p3, p4⟩ := hP
    refine ⟨⟨dir', fun c i => if 30 ≤ c ∧ c ≤ 34 then ad c i else ad' c i, o1, ⟨fun q hq => ⟨(E.1 q hq).1, ?_⟩, fun c i g1 g2 => if_pos ⟨g1, g2⟩⟩, fun x hx => (by cases hx), rep2 dir' ad' _ _ (fun q hq => hif q.1 _ _ (R'.2.2.1 q hq)) R', F⟩, hL⟩
    have w := p4.2.2.1 q hq
    have g := (E.1 q hq).2
    show (if 30 ≤ q.1 ∧ q.1 ≤ 34 then ad q.1 q.2 else ad' q.1 q.2) = ad q.1 q.2
    rw [hif q.1 _ _ w, g]
    exact hif q.1 _ _ w
