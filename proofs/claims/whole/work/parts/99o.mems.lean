/-! THE MEMORIES OF THE START: with another script; as the calls know them; the two sides side by side -/
def p33 (q : Nat) (xs : Nat → Int32) (M : Mem) : Mem := ((M.1.1, (fun c i => if c = 33 then q else M.1.2.1 c i), M.1.2.2), ((fun c i j => if c = 33 then xs j else M.2.1 c i j), M.2.2))
/-- the same but for the script -/
def P33 (M N : Mem) : Prop := N.1.1 = M.1.1 ∧ N.1.2.2.1 = M.1.2.2.1 ∧ (∀ c i, ¬ c = 33 → N.1.2.1 c i = M.1.2.1 c i) ∧ (∀ c i, ¬ c = 33 → N.2.1 c i = M.2.1 c i) ∧ N.2.2 = M.2.2
theorem P33.sy {M N : Mem} (h : P33 M N) : P33 N M := ⟨h.1.symm, h.2.1.symm, fun c i e => (h.2.2.1 c i e).symm, fun c i e => (h.2.2.2.1 c i e).symm, h.2.2.2.2.symm⟩
theorem P33.p (q : Nat) (xs : Nat → Int32) (M : Mem) : P33 M (p33 q xs M) := ⟨rfl, rfl, fun c i h => if_neg h, fun c i h => funext fun j => if_neg h, rfl⟩
theorem P33.nw {a : Nat} {M N : Mem} (h : P33 M N) : P33 (nwM a M) (nwM a N) := by
  obtain ⟨h1, h2, h3, h4, h5⟩ := h
  refine ⟨?_, ?_, h3, fun c i hc => ?_, h5⟩
  · show (fun c => if c = a then N.1.1 a + 1 else N.1.1 c) = (fun c => if c = a then M.1.1 a + 1 else M.1.1 c)
    rw [h1]
  · show (fun c i q => if c = a ∧ i = N.1.1 a then none else N.1.2.2.1 c i q) = (fun c i q => if c = a ∧ i = M.1.1 a then none else M.1.2.2.1 c i q)
    rw [h1, h2]
  · funext j
    show (if c = a ∧ i = N.1.1 a then 0 else N.2.1 c i j) = (if c = a ∧ i = M.1.1 a then 0 else M.2.1 c i j)
    rw [h1, h4 c i hc]
theorem Rep.p33 {D : va_G} {cA : Nat → ClassId} {ad ad' : Nat → Nat → Nat} {dir : List (Nat × Nat)} {B : Nat} {M N : Mem} {H : Heap} (h : Rep D cA ad dir B M H) (p : P33 M N) (ha : ∀ q ∈ dir, ad' q.1 q.2 = ad q.1 q.2) : Rep D cA ad' dir B N H := by
  obtain ⟨p1, p2, p3, p4, p5⟩ := p
  have hw : ∀ c i, (c, i) ∈ dir → ¬ c = 33 := fun c i hq => by
    have := isW_cases (h.2.2.1 _ hq)
    dsimp only at this
    omega
  refine h.sw (fun c _ => by rw [p1]) (fun c i hq _ => p3 c i (hw c i hq)) (fun c i k _ _ => by rw [p2]) (fun c i hq => ⟨p4 c i (hw c i hq), by rw [p5]⟩) ha (fun c i k z hq hb hz => ?_)
  rw [p2] at hz
  rw [p3 c i (hw c i hq)] at hb
  exact h.2.2.2.2.2 c i k z hq hb hz
theorem ROm_i : ROm 6 kaF Mi := ⟨fun i hi => ⟨rfl, fun j => rfl, rfl, rfl⟩, rfl, fun j => rfl, rfl, fun j => rfl⟩
theorem ROm_33 {q : Nat} {xs : Nat → Int32} {M : Mem} (h : ROm 6 kaF M) : ROm q xs (p33 q xs M) := by
  obtain ⟨h1, h2, h3, h4, h5⟩ := h
  exact ⟨fun i hi => ⟨(h1 i hi).1, (h1 i hi).2.1, (h1 i hi).2.2.1, (h1 i hi).2.2.2⟩, h2, h3, rfl, fun j => rfl⟩
theorem ROm_nw {a nS : Nat} {xs : Nat → Int32} {M : Mem} (ha : a < 30) (h : ROm nS xs M) : ROm nS xs (nwM a M) := RO.same h (fun c i g1 g2 => ⟨funext fun j => if_neg (by omega), funext fun j => if_neg (by omega), rfl⟩)
/-- the numbers behind the making, with the script -/
def mmF (xs : Nat → Int32) (M : Mem) : MM := ((fun c i j => if c = 33 then xs j else M.2.1 c i j), M.2.2)
theorem ROm_F {q : Nat} {xs : Nat → Int32} {M : Mem} (h : ROm 6 kaF M) : ROm q xs (ST0 q, mmF xs M) := by
  obtain ⟨h1, h2, h3, h4, h5⟩ := h
  exact ⟨fun i hi => ⟨rfl, (h1 i hi).2.1, (h1 i hi).2.2.1, rfl⟩, rfl, h3, rfl, fun j => rfl⟩
theorem chk_cnt {M : Mem} (h : chk1 M = true) : (∀ c, isW c = true → M.1.1 c = CNT c ∧ (¬ c < 8 → ∀ i, i < CNT c → M.1.2.1 c i = LEN 0 c i)) ∧ M.1.2.2.2 = (132, 3028) := by
  unfold chk1 at h
  have h1 := Bool.and_eq_true_iff.mp h
  have h2 := Bool.and_eq_true_iff.mp h1.2
  refine ⟨fun c w => ?_, Prod.ext (Nat.eq_of_beq_eq_true h2.1) (Nat.eq_of_beq_eq_true h2.2)⟩
  have wl := isW_lt w
  have e := List.all_eq_true.mp h1.1 c (List.mem_range.mpr (by omega))
  rw [w] at e
  have e : (Nat.beq (M.1.1 c) (CNT c) && (Nat.blt c 8 || (List.range (CNT c)).all (fun i => Nat.beq (M.1.2.1 c i) (LEN 0 c i)))) = true := e
  have e1 := Bool.and_eq_true_iff.mp e
  refine ⟨Nat.eq_of_beq_eq_true e1.1, fun h8 i hi => ?_⟩
  rcases Bool.or_eq_true_iff.mp e1.2 with g | g
  · exact absurd (Nat.blt_eq.mp g) h8
  · exact Nat.eq_of_beq_eq_true (List.all_eq_true.mp g i (List.mem_range.mpr hi))
theorem chk_ref {M : Mem} (h2 : chk2 M = true) (h3 : chk3 M = true) : (∀ c i k, c < 8 → i < CNT c → k < NF c → sk c k = 4 → M.1.2.2.1 c i k = RF c i k) ∧ (∀ c i k, isRA c = true → i < CNT c → k < LEN 0 c i → M.1.2.2.1 c i k = RF c i k) := by
  refine ⟨fun c i k hc hi hk h4 => ?_, fun c i k hr hi hk => ?_⟩
  · unfold chk2 at h2
    have e := List.all_eq_true.mp (List.all_eq_true.mp (List.all_eq_true.mp h2 c (List.mem_range.mpr hc)) i (List.mem_range.mpr hi)) k (List.mem_range.mpr hk)
    rw [h4] at e
    exact of_decide_eq_true e
  · unfold chk3 at h3
    have r := isRA_ge hr
    obtain ⟨d, rfl⟩ : ∃ d, c = 22 + d := ⟨c - 22, by omega⟩
    exact of_decide_eq_true (List.all_eq_true.mp (List.all_eq_true.mp (List.all_eq_true.mp h3 d (List.mem_range.mpr (by omega))) i (List.mem_range.mpr hi)) k (List.mem_range.mpr hk))
theorem Rep.F {D : va_G} {cA : Nat → ClassId} {ad ad' : Nat → Nat → Nat} {dir : List (Nat × Nat)} {B q : Nat} {xs : Nat → Int32} {M : Mem} {H : Heap} (h : Rep D cA ad dir B M H) (k1 : chk1 M = true) (k2 : chk2 M = true) (k3 : chk3 M = true) (ha : ∀ q ∈ dir, ad' q.1 q.2 = ad q.1 q.2) : Rep D cA ad' dir B (ST0 q, mmF xs M) H := by
  obtain ⟨hc, -⟩ := chk_cnt k1
  obtain ⟨r1, r2⟩ := chk_ref k2 k3
  have hw : ∀ c i, (c, i) ∈ dir → isW c = true := fun c i hq => h.2.2.1 _ hq
  have hi : ∀ c i, (c, i) ∈ dir → i < CNT c := fun c i hq => by
    have := h.2.2.2.2.1 c i hq
    rw [(hc c (hw c i hq)).1] at this
    exact this
  have hl : ∀ c i, (c, i) ∈ dir → ¬ c < 8 → LEN q c i = M.1.2.1 c i := fun c i hq h8 => by
    have wl := isW_lt (hw c i hq)
    rw [(hc c (hw c i hq)).2 h8 i (hi c i hq)]
    exact LEN_q c (by omega) (by omega) i
  refine h.sw (N := (ST0 q, mmF xs M)) (fun c w => (hc c w).1.symm) hl (fun c i k hq hd => ?_) (fun c i hq => ⟨funext fun j => if_neg (by have := isW_lt (hw c i hq); omega), rfl⟩) ha (fun c i k z hq hb hz => ?_)
  · rcases hd with ⟨h8, hk, h4⟩ | ⟨hr, hk⟩
    · exact (r1 c i k h8 (hi c i hq) hk h4).symm
    · have := isRA_ge hr
      refine (r2 c i k hr (hi c i hq) ?_).symm
      rw [← (hc c (hw c i hq)).2 (by omega) i (hi c i hq)]
      exact hk
  · obtain ⟨a, b⟩ := RF_cl (q := q) (hw c i hq) (hi c i hq) hb hz
    exact h.2.2.2.1 z.1 z.2 a (by rw [(hc z.1 a).1]; exact b)
theorem v0_z {k : Nat} (h : 30 ≤ k) (h1 : ¬ k = 93) (h2 : ¬ k = 94) (h3 : ¬ k = 99) : v0 k = 0 := by
  unfold v0
  rw [if_neg (by omega), if_neg h1, if_neg h2, if_neg h3]
theorem sby_w : ((List.range 12).all fun a => (List.range (wds a).length).all fun j => decide (sby a j = nI ((wds a).getD j 0))) = true := by decide +kernel
theorem rlt_0 {q : Nat} {xs : Nat → Int32} {M : Mem} (h4 : chk4 M = true) (h5 : chk5 M = true) (h6 : chk6 M = true) (h7 : chk7 M = true) (hro : ROm q xs (ST0 q, mmF xs M)) : Rlt v0 0 0 16 (mmF xs M) := by
  unfold chk4 at h4
  have a1 := Bool.and_eq_true_iff.mp h4
  have a2 := Bool.and_eq_true_iff.mp a1.1
  have n50 : ∀ c, c < 30 → M.2.1 50 0 c = 3 ∧ M.2.1 40 0 c = 3 := fun c hc => by
    have e := Bool.and_eq_true_iff.mp (List.all_eq_true.mp a2.1 c (List.mem_range.mpr hc))
    exact ⟨of_decide_eq_true e.1, of_decide_eq_true e.2⟩
  have n52 : ∀ b, b < 9 → M.2.1 52 0 b = 0 ∧ M.2.1 53 0 b = 0 ∧ M.2.1 54 0 b = 0 ∧ M.2.1 55 0 b = 0 ∧ M.2.1 56 0 b = 0 := fun b hb => by
    have e := List.all_eq_true.mp a2.2 b (List.mem_range.mpr hb)
    have e1 := Bool.and_eq_true_iff.mp e
    have e2 := Bool.and_eq_true_iff.mp e1.2
    have e3 := Bool.and_eq_true_iff.mp e2.2
    have e4 := Bool.and_eq_true_iff.mp e3.2
    exact ⟨of_decide_eq_true e1.1, of_decide_eq_true e2.1, of_decide_eq_true e3.1, of_decide_eq_true e4.1, of_decide_eq_true e4.2⟩
  have n57 : ∀ k, k < 18 → M.2.1 57 0 k = 0 := fun k hk => of_decide_eq_true (List.all_eq_true.mp a1.2 k (List.mem_range.mpr hk))
  unfold chk5 at h5
  simp only [Bool.and_eq_true, decide_eq_true_eq] at h5
  obtain ⟨b1, b2, b3, b4, b5, b6, b7, b8, b9, b10, b11, b12, b13, b14, b15, b16, b17, b18⟩ := h5
  unfold chk6 at h6
  have c1 := Bool.and_eq_true_iff.mp h6
  have n1 : ∀ s, s < 8 → M.2.1 1 s 0 = -1 ∧ M.2.1 59 0 s = -1 ∧ M.2.1 1 s 1 = 0 ∧ M.2.1 60 0 s = 0 := fun s hs => by
    have e := List.all_eq_true.mp c1.1 s (List.mem_range.mpr hs)
    have e1 := Bool.and_eq_true_iff.mp e
    have e2 := Bool.and_eq_true_iff.mp e1.2
    have e3 := Bool.and_eq_true_iff.mp e2.2
    exact ⟨of_decide_eq_true e1.1, of_decide_eq_true e2.1, of_decide_eq_true e3.1, of_decide_eq_true e3.2⟩
  have n47 : ∀ k, k < 5 → M.2.1 47 0 k = 0 ∧ M.2.1 61 0 (2 + k) = 0 := fun k hk => by
    have e := Bool.and_eq_true_iff.mp (List.all_eq_true.mp c1.2 k (List.mem_range.mpr hk))
    exact ⟨of_decide_eq_true e.1, of_decide_eq_true e.2⟩
  unfold chk7 at h7
  have n20 : ∀ s k, s < 8 → k < 40 → M.2.2 20 s k = 0 ∧ M.2.2 21 0 (40 * s + k) = 0 := fun s k hs hk => by
    have e := Bool.and_eq_true_iff.mp (List.all_eq_true.mp (List.all_eq_true.mp h7 s (List.mem_range.mpr hs)) k (List.mem_range.mpr hk))
    exact ⟨of_decide_eq_true e.1, of_decide_eq_true e.2⟩
  have v3 : ∀ c, c < 30 → v0 c = 3 := fun c hc => if_pos hc
  have v93 : v0 93 = 16 := by decide
  have v94 : v0 94 = 2 := by decide
  have v95 : v0 95 = 0 := by decide
  have v96 : v0 96 = 0 := by decide
  have v97 : v0 97 = 0 := by decide
  have v98 : v0 98 = 0 := by decide
  have v99 : v0 99 = 1 := by decide
  refine ⟨⟨?_, ?_, ?_, ?_, ?_, ?_, ?_⟩, ?_⟩
  · refine ⟨v97, by omega, v98, by omega, v93, by omega, by omega, fun b hb => ?_, fun b hb => by omega, fun w hw => by omega, by rw [v95]; decide⟩
    rw [v0_z (k := 48 + b) (by omega) (by omega) (by omega) (by omega), v0_z (k := 57 + b) (by omega) (by omega) (by omega) (by omega)]
    exact ⟨by decide, Or.inr (by decide)⟩
  · refine ⟨fun c hc => (v3 c hc).trans (n50 c hc).1.symm, fun b hb => ?_, fun k hk => ?_, v93.trans b1.symm, v94.trans b2.symm, v95.trans b3.symm, v96.trans b4.symm, v97.trans b5.symm, v98.trans b6.symm, v99.trans b7.symm⟩
    · obtain ⟨x1, x2, x3, x4, x5⟩ := n52 b hb
      exact ⟨(v0_z (by omega) (by omega) (by omega) (by omega)).trans x1.symm, (v0_z (by omega) (by omega) (by omega) (by omega)).trans x2.symm, (v0_z (by omega) (by omega) (by omega) (by omega)).trans x3.symm, (v0_z (by omega) (by omega) (by omega) (by omega)).trans x4.symm, (v0_z (by omega) (by omega) (by omega) (by omega)).trans x5.symm⟩
    · exact (v0_z (by omega) (by omega) (by omega) (by omega)).trans (n57 k hk).symm
  · exact ⟨b12.trans v93.symm, b13.trans v94.symm, b14.trans v95.symm, b15.trans v96.symm, b16.trans v99.symm, b17.trans v97.symm, b18.trans v98.symm, fun c hc => (n50 c hc).2.trans (v3 c hc).symm, fun b hb => by omega, fun k hk => by omega⟩
  · intro s hs
    obtain ⟨x1, x2, x3, x4⟩ := n1 s hs
    refine ⟨x1.trans x2.symm, x3.trans x4.symm, fun k hk => (n20 s k hs hk).1.trans (n20 s k hs hk).2.symm, Or.inl x1, ?_⟩
    show inB (M.2.1 1 s 1) 41 = true
    rw [x3]
    decide
  · exact ⟨0, by omega, b10, b8, fun k hk => by omega⟩
  · exact Or.inl ⟨b11, b9⟩
  · refine ⟨hro.2.2.1 0, hro.2.2.1 1, hro.2.2.1 2, hro.2.2.1 3, hro.2.2.1 4, hro.2.2.1 5, fun a ha => ⟨(hro.1 a ha).2.2.1, fun j hj => ?_⟩⟩
    exact ((hro.1 a ha).2.1 j).trans (of_decide_eq_true (List.all_eq_true.mp (List.all_eq_true.mp sby_w a (List.mem_range.mpr ha)) j (List.mem_range.mpr hj)))
  · intro k hk
    exact (n47 k hk).1.trans (n47 k hk).2.symm
