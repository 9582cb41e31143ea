/-! THE LAW: one turn of its loop -/
abbrev LwR : Type := Option (((Int32) ⊕ ((Unit) ⊕ (Bool))) × MM)
def Tn (i : Nat) (m : MM) (r : LwR) : Prop := Ok r (fun o m' => o = Sum.inl (nI i + 6) ∧ (∃ v nb nw nc, Rlt v nb nw nc m') ∧ m'.1 33 = m.1 33)
theorem turn_I {F : MM → Option (Int32 × MM)} {G : (Nat → Int32) → MM → Option (Int32 × MM)} {i : Nat} {m : MM} (e : Eq2 F (G (m.1 33 0)) m) (k : Kp F) : Tn i m ((F m).bind fun o1 => (G (o1.2.1 33 0) o1.2).bind fun o2 => if o1.1 = o2.1 then some (Sum.inl (nI i + 6), o2.2) else some (Sum.inr (Sum.inr false), o2.2)) := by
  obtain ⟨r, m1, e1, r', m2, e2, e3, e4, e5⟩ := e
  have k1 : m1.1 33 = m.1 33 := k m r m1 e1
  refine ⟨Sum.inl (nI i + 6), m2, ?_, rfl, e4, e5⟩
  rw [e1]
  show ((G (m1.1 33 0) m1).bind fun o2 => if r = o2.1 then some (Sum.inl (nI i + 6), o2.2) else some (Sum.inr (Sum.inr false), o2.2)) = _
  rw [k1, e2]
  show (if r = r' then some (Sum.inl (nI i + 6), m2) else some (Sum.inr (Sum.inr false), m2)) = _
  rw [if_pos e3]
theorem turn_J {F : MM → Option (Int64 × MM)} {G : (Nat → Int32) → MM → Option (Int64 × MM)} {i : Nat} {m : MM} (e : Eq2 F (G (m.1 33 0)) m) (k : Kp F) : Tn i m ((F m).bind fun o1 => (G (o1.2.1 33 0) o1.2).bind fun o2 => if (lg_cmp o1.1 o2.1) = 0 then some (Sum.inl (nI i + 6), o2.2) else some (Sum.inr (Sum.inr false), o2.2)) := by
  obtain ⟨r, m1, e1, r', m2, e2, e3, e4, e5⟩ := e
  have k1 : m1.1 33 = m.1 33 := k m r m1 e1
  refine ⟨Sum.inl (nI i + 6), m2, ?_, rfl, e4, e5⟩
  rw [e1]
  show ((G (m1.1 33 0) m1).bind fun o2 => if (lg_cmp r o2.1) = 0 then some (Sum.inl (nI i + 6), o2.2) else some (Sum.inr (Sum.inr false), o2.2)) = _
  rw [k1, e2]
  show (if (lg_cmp r r') = 0 then some (Sum.inl (nI i + 6), m2) else some (Sum.inr (Sum.inr false), m2)) = _
  have hz : lg_cmp r r' = 0 := by
    rw [← e3]; unfold lg_cmp
    rw [if_neg (fun h => Int64.lt_irrefl h), if_pos rfl]
  rw [if_pos hz]
theorem inQ {q i d : Nat} {x : Int32} (hx : x = nI d) (h : i + d < q) (hq : q ≤ 3072) : inB (nI i + x) q = true := by
  rw [hx, ← n_add]; exact inB_t h (by omega)
theorem tn_status {v : Nat → Int32} {nb nw nc q i : Nat} {m : MM} (h : Rlt v nb nw nc m) (hi : i + 6 ≤ q) (hq : q ≤ 3072) : Tn i m (fL_law_j1991 q (nI i) m) := by
  unfold fL_law_j1991
  simp only [inQ (q := q) (i := i) (x := 1) (d := 1) rfl (by omega) hq, cond_true]
  exact turn_I (G := fun x m => fX7_status 0 (x (nI i + 1).toNatClampNeg) m) (op_status h _) (kp_status _)
theorem tn_back {v : Nat → Int32} {nb nw nc q i : Nat} {m : MM} (h : Rlt v nb nw nc m) (hi : i + 6 ≤ q) (hq : q ≤ 3072) : Tn i m (fL_law_j1978 q (nI i) m) := by
  unfold fL_law_j1978
  exact turn_I (G := fun x m => fX7_back 0 m) (op_back h) (kp_back)
theorem tn_image {v : Nat → Int32} {nb nw nc q i : Nat} {m : MM} (h : Rlt v nb nw nc m) (hi : i + 6 ≤ q) (hq : q ≤ 3072) : Tn i m (fL_law_j1965 q (nI i) m) := by
  unfold fL_law_j1965
  exact turn_I (G := fun x m => fX7_image 0 m) (op_image h) (kp_image)
theorem tn_seed {v : Nat → Int32} {nb nw nc q i : Nat} {m : MM} (h : Rlt v nb nw nc m) (hi : i + 6 ≤ q) (hq : q ≤ 3072) : Tn i m (fL_law_j1942 q (nI i) m) := by
  unfold fL_law_j1942
  simp only [inQ (q := q) (i := i) (x := 1) (d := 1) rfl (by omega) hq, cond_true]
  exact turn_I (G := fun x m => fX7_seed 0 (x (nI i + 1).toNatClampNeg) m) (op_seed h _) (kp_seed _)
theorem tn_drawn {v : Nat → Int32} {nb nw nc q i : Nat} {m : MM} (h : Rlt v nb nw nc m) (hi : i + 6 ≤ q) (hq : q ≤ 3072) : Tn i m (fL_law_j1919 q (nI i) m) := by
  unfold fL_law_j1919
  simp only [inQ (q := q) (i := i) (x := 1) (d := 1) rfl (by omega) hq, cond_true]
  exact turn_I (G := fun x m => fX7_drawn 0 (x (nI i + 1).toNatClampNeg) m) (op_drawn h _) (kp_drawn _)
theorem tn_days {v : Nat → Int32} {nb nw nc q i : Nat} {m : MM} (h : Rlt v nb nw nc m) (hi : i + 6 ≤ q) (hq : q ≤ 3072) : Tn i m (fL_law_j1896 q (nI i) m) := by
  unfold fL_law_j1896
  simp only [inQ (q := q) (i := i) (x := 1) (d := 1) rfl (by omega) hq, cond_true]
  exact turn_I (G := fun x m => fX7_days 0 (x (nI i + 1).toNatClampNeg) m) (op_days h _) (kp_days _)
theorem tn_thrown {v : Nat → Int32} {nb nw nc q i : Nat} {m : MM} (h : Rlt v nb nw nc m) (hi : i + 6 ≤ q) (hq : q ≤ 3072) : Tn i m (fL_law_j1843 q (nI i) m) := by
  unfold fL_law_j1843
  simp only [inQ (q := q) (i := i) (x := 1) (d := 1) rfl (by omega) hq, inQ (q := q) (i := i) (x := 2) (d := 2) rfl (by omega) hq, inQ (q := q) (i := i) (x := 3) (d := 3) rfl (by omega) hq, inQ (q := q) (i := i) (x := 4) (d := 4) rfl (by omega) hq, cond_true]
  exact turn_I (G := fun x m => fX7_thrown 0 (x (nI i + 1).toNatClampNeg) (x (nI i + 2).toNatClampNeg) (x (nI i + 3).toNatClampNeg) (x (nI i + 4).toNatClampNeg) m) (op_thrown h _ _ _ _) (kp_thrown _ _ _ _)
theorem tn_judge {v : Nat → Int32} {nb nw nc q i : Nat} {m : MM} (h : Rlt v nb nw nc m) (hi : i + 6 ≤ q) (hq : q ≤ 3072) : Tn i m (fL_law_j1800 q (nI i) m) := by
  unfold fL_law_j1800
  simp only [inQ (q := q) (i := i) (x := 1) (d := 1) rfl (by omega) hq, inQ (q := q) (i := i) (x := 2) (d := 2) rfl (by omega) hq, inQ (q := q) (i := i) (x := 3) (d := 3) rfl (by omega) hq, cond_true]
  exact turn_I (G := fun x m => fX7_judge 0 (x (nI i + 1).toNatClampNeg) (x (nI i + 2).toNatClampNeg) (x (nI i + 3).toNatClampNeg) m) (op_judge h _ _ _) (kp_judge _ _ _)
theorem tn_ofKind {v : Nat → Int32} {nb nw nc q i : Nat} {m : MM} (h : Rlt v nb nw nc m) (hi : i + 6 ≤ q) (hq : q ≤ 3072) : Tn i m (fL_law_j1777 q (nI i) m) := by
  unfold fL_law_j1777
  simp only [inQ (q := q) (i := i) (x := 1) (d := 1) rfl (by omega) hq, cond_true]
  exact turn_I (G := fun x m => fX7_ofKind 0 (x (nI i + 1).toNatClampNeg) m) (op_ofKind h _) (kp_ofKind _)
theorem tn_strays {v : Nat → Int32} {nb nw nc q i : Nat} {m : MM} (h : Rlt v nb nw nc m) (hi : i + 6 ≤ q) (hq : q ≤ 3072) : Tn i m (fL_law_j1764 q (nI i) m) := by
  unfold fL_law_j1764
  exact turn_I (G := fun x m => fX7_strays 0 m) (op_strays h) (kp_strays)
theorem tn_stays {v : Nat → Int32} {nb nw nc q i : Nat} {m : MM} (h : Rlt v nb nw nc m) (hi : i + 6 ≤ q) (hq : q ≤ 3072) : Tn i m (fL_law_j1731 q (nI i) m) := by
  unfold fL_law_j1731
  simp only [inQ (q := q) (i := i) (x := 1) (d := 1) rfl (by omega) hq, inQ (q := q) (i := i) (x := 2) (d := 2) rfl (by omega) hq, cond_true]
  exact turn_I (G := fun x m => fX7_stays 0 (x (nI i + 1).toNatClampNeg) (x (nI i + 2).toNatClampNeg) m) (op_stays h _ _) (kp_stays _ _)
theorem tn_next {v : Nat → Int32} {nb nw nc q i : Nat} {m : MM} (h : Rlt v nb nw nc m) (hi : i + 6 ≤ q) (hq : q ≤ 3072) : Tn i m (fL_law_j1688 q (nI i) m) := by
  unfold fL_law_j1688
  simp only [inQ (q := q) (i := i) (x := 1) (d := 1) rfl (by omega) hq, inQ (q := q) (i := i) (x := 2) (d := 2) rfl (by omega) hq, inQ (q := q) (i := i) (x := 3) (d := 3) rfl (by omega) hq, cond_true]
  exact turn_I (G := fun x m => fX7_next_ 0 (x (nI i + 1).toNatClampNeg) (x (nI i + 2).toNatClampNeg) (x (nI i + 3).toNatClampNeg) m) (op_next h _ _ _) (kp_next _ _ _)
theorem tn_first {v : Nat → Int32} {nb nw nc q i : Nat} {m : MM} (h : Rlt v nb nw nc m) (hi : i + 6 ≤ q) (hq : q ≤ 3072) : Tn i m (fL_law_j1665 q (nI i) m) := by
  unfold fL_law_j1665
  simp only [inQ (q := q) (i := i) (x := 1) (d := 1) rfl (by omega) hq, cond_true]
  exact turn_I (G := fun x m => fX7_first 0 (x (nI i + 1).toNatClampNeg) m) (op_first h _) (kp_first _)
theorem tn_breaks {v : Nat → Int32} {nb nw nc q i : Nat} {m : MM} (h : Rlt v nb nw nc m) (hi : i + 6 ≤ q) (hq : q ≤ 3072) : Tn i m (fL_law_j1642 q (nI i) m) := by
  unfold fL_law_j1642
  simp only [inQ (q := q) (i := i) (x := 1) (d := 1) rfl (by omega) hq, cond_true]
  exact turn_I (G := fun x m => fX7_breaks 0 (x (nI i + 1).toNatClampNeg) m) (op_breaks h _) (kp_breaks _)
theorem tn_join {v : Nat → Int32} {nb nw nc q i : Nat} {m : MM} (h : Rlt v nb nw nc m) (hi : i + 6 ≤ q) (hq : q ≤ 3072) : Tn i m (fL_law_j1609 q (nI i) m) := by
  unfold fL_law_j1609
  simp only [inQ (q := q) (i := i) (x := 1) (d := 1) rfl (by omega) hq, inQ (q := q) (i := i) (x := 2) (d := 2) rfl (by omega) hq, cond_true]
  exact turn_I (G := fun x m => fX7_join 0 (x (nI i + 1).toNatClampNeg) (x (nI i + 2).toNatClampNeg) m) (op_join h _ _) (kp_join _ _)
theorem tn_round {v : Nat → Int32} {nb nw nc q i : Nat} {m : MM} (h : Rlt v nb nw nc m) (hi : i + 6 ≤ q) (hq : q ≤ 3072) : Tn i m (fL_law_j1586 q (nI i) m) := by
  unfold fL_law_j1586
  simp only [inQ (q := q) (i := i) (x := 1) (d := 1) rfl (by omega) hq, cond_true]
  exact turn_I (G := fun x m => fX7_round 0 (x (nI i + 1).toNatClampNeg) m) (op_round h _) (kp_round _)
theorem tn_busiest {v : Nat → Int32} {nb nw nc q i : Nat} {m : MM} (h : Rlt v nb nw nc m) (hi : i + 6 ≤ q) (hq : q ≤ 3072) : Tn i m (fL_law_j1563 q (nI i) m) := by
  unfold fL_law_j1563
  simp only [inQ (q := q) (i := i) (x := 1) (d := 1) rfl (by omega) hq, cond_true]
  exact turn_I (G := fun x m => fX7_busiest 0 (x (nI i + 1).toNatClampNeg) m) (op_busiest h _) (kp_busiest _)
theorem tn_reach {v : Nat → Int32} {nb nw nc q i : Nat} {m : MM} (h : Rlt v nb nw nc m) (hi : i + 6 ≤ q) (hq : q ≤ 3072) : Tn i m (fL_law_j1530 q (nI i) m) := by
  unfold fL_law_j1530
  simp only [inQ (q := q) (i := i) (x := 1) (d := 1) rfl (by omega) hq, inQ (q := q) (i := i) (x := 2) (d := 2) rfl (by omega) hq, cond_true]
  exact turn_I (G := fun x m => fX7_reach 0 (x (nI i + 1).toNatClampNeg) (x (nI i + 2).toNatClampNeg) m) (op_reach h _ _) (kp_reach _ _)
theorem tn_settles {v : Nat → Int32} {nb nw nc q i : Nat} {m : MM} (h : Rlt v nb nw nc m) (hi : i + 6 ≤ q) (hq : q ≤ 3072) : Tn i m (fL_law_j1507 q (nI i) m) := by
  unfold fL_law_j1507
  simp only [inQ (q := q) (i := i) (x := 1) (d := 1) rfl (by omega) hq, cond_true]
  exact turn_I (G := fun x m => fX7_settles 0 (x (nI i + 1).toNatClampNeg) m) (op_settles h _) (kp_settles _)
theorem tn_there {v : Nat → Int32} {nb nw nc q i : Nat} {m : MM} (h : Rlt v nb nw nc m) (hi : i + 6 ≤ q) (hq : q ≤ 3072) : Tn i m (fL_law_j1474 q (nI i) m) := by
  unfold fL_law_j1474
  simp only [inQ (q := q) (i := i) (x := 1) (d := 1) rfl (by omega) hq, inQ (q := q) (i := i) (x := 2) (d := 2) rfl (by omega) hq, cond_true]
  exact turn_I (G := fun x m => fX7_there 0 (x (nI i + 1).toNatClampNeg) (x (nI i + 2).toNatClampNeg) m) (op_there h _ _) (kp_there _ _)
theorem tn_who {v : Nat → Int32} {nb nw nc q i : Nat} {m : MM} (h : Rlt v nb nw nc m) (hi : i + 6 ≤ q) (hq : q ≤ 3072) : Tn i m (fL_law_j1451 q (nI i) m) := by
  unfold fL_law_j1451
  simp only [inQ (q := q) (i := i) (x := 1) (d := 1) rfl (by omega) hq, cond_true]
  exact turn_I (G := fun x m => fX7_who 0 (x (nI i + 1).toNatClampNeg) m) (op_who h _) (kp_who _)
theorem tn_bestWind {v : Nat → Int32} {nb nw nc q i : Nat} {m : MM} (h : Rlt v nb nw nc m) (hi : i + 6 ≤ q) (hq : q ≤ 3072) : Tn i m (fL_law_j1418 q (nI i) m) := by
  unfold fL_law_j1418
  simp only [inQ (q := q) (i := i) (x := 1) (d := 1) rfl (by omega) hq, inQ (q := q) (i := i) (x := 2) (d := 2) rfl (by omega) hq, cond_true]
  exact turn_I (G := fun x m => fX7_bestWind 0 (x (nI i + 1).toNatClampNeg) (x (nI i + 2).toNatClampNeg) m) (op_bestWind h _ _) (kp_bestWind _ _)
theorem tn_windFor {v : Nat → Int32} {nb nw nc q i : Nat} {m : MM} (h : Rlt v nb nw nc m) (hi : i + 6 ≤ q) (hq : q ≤ 3072) : Tn i m (fL_law_j1395 q (nI i) m) := by
  unfold fL_law_j1395
  simp only [inQ (q := q) (i := i) (x := 1) (d := 1) rfl (by omega) hq, cond_true]
  exact turn_I (G := fun x m => fX7_windFor 0 (x (nI i + 1).toNatClampNeg) m) (op_windFor h _) (kp_windFor _)
theorem tn_odds {v : Nat → Int32} {nb nw nc q i : Nat} {m : MM} (h : Rlt v nb nw nc m) (hi : i + 6 ≤ q) (hq : q ≤ 3072) : Tn i m (fL_law_j1352 q (nI i) m) := by
  unfold fL_law_j1352
  simp only [inQ (q := q) (i := i) (x := 1) (d := 1) rfl (by omega) hq, inQ (q := q) (i := i) (x := 2) (d := 2) rfl (by omega) hq, inQ (q := q) (i := i) (x := 3) (d := 3) rfl (by omega) hq, cond_true]
  exact turn_I (G := fun x m => fX7_odds 0 (x (nI i + 1).toNatClampNeg) (x (nI i + 2).toNatClampNeg) (x (nI i + 3).toNatClampNeg) m) (op_odds h _ _ _) (kp_odds _ _ _)
theorem tn_mended {v : Nat → Int32} {nb nw nc q i : Nat} {m : MM} (h : Rlt v nb nw nc m) (hi : i + 6 ≤ q) (hq : q ≤ 3072) : Tn i m (fL_law_j1319 q (nI i) m) := by
  unfold fL_law_j1319
  simp only [inQ (q := q) (i := i) (x := 1) (d := 1) rfl (by omega) hq, inQ (q := q) (i := i) (x := 2) (d := 2) rfl (by omega) hq, cond_true]
  exact turn_I (G := fun x m => fX7_mended 0 (x (nI i + 1).toNatClampNeg) (x (nI i + 2).toNatClampNeg) m) (op_mended h _ _) (kp_mended _ _)
theorem tn_pairs {v : Nat → Int32} {nb nw nc q i : Nat} {m : MM} (h : Rlt v nb nw nc m) (hi : i + 6 ≤ q) (hq : q ≤ 3072) : Tn i m (fL_law_j1286 q (nI i) m) := by
  unfold fL_law_j1286
  simp only [inQ (q := q) (i := i) (x := 1) (d := 1) rfl (by omega) hq, inQ (q := q) (i := i) (x := 2) (d := 2) rfl (by omega) hq, cond_true]
  exact turn_I (G := fun x m => fX7_pairs 0 (x (nI i + 1).toNatClampNeg) (x (nI i + 2).toNatClampNeg) m) (op_pairs h _ _) (kp_pairs _ _)
theorem tn_from {v : Nat → Int32} {nb nw nc q i : Nat} {m : MM} (h : Rlt v nb nw nc m) (hi : i + 6 ≤ q) (hq : q ≤ 3072) : Tn i m (fL_law_j1243 q (nI i) m) := by
  unfold fL_law_j1243
  simp only [inQ (q := q) (i := i) (x := 1) (d := 1) rfl (by omega) hq, inQ (q := q) (i := i) (x := 2) (d := 2) rfl (by omega) hq, inQ (q := q) (i := i) (x := 3) (d := 3) rfl (by omega) hq, cond_true]
  exact turn_I (G := fun x m => fX7_from 0 (x (nI i + 1).toNatClampNeg) (x (nI i + 2).toNatClampNeg) (x (nI i + 3).toNatClampNeg) m) (op_from h _ _ _) (kp_from _ _ _)
theorem tn_fits {v : Nat → Int32} {nb nw nc q i : Nat} {m : MM} (h : Rlt v nb nw nc m) (hi : i + 6 ≤ q) (hq : q ≤ 3072) : Tn i m (fL_law_j1190 q (nI i) m) := by
  unfold fL_law_j1190
  simp only [inQ (q := q) (i := i) (x := 1) (d := 1) rfl (by omega) hq, inQ (q := q) (i := i) (x := 2) (d := 2) rfl (by omega) hq, inQ (q := q) (i := i) (x := 3) (d := 3) rfl (by omega) hq, inQ (q := q) (i := i) (x := 4) (d := 4) rfl (by omega) hq, cond_true]
  exact turn_I (G := fun x m => fX7_fits 0 (x (nI i + 1).toNatClampNeg) (x (nI i + 2).toNatClampNeg) (x (nI i + 3).toNatClampNeg) (x (nI i + 4).toNatClampNeg) m) (op_fits h _ _ _ _) (kp_fits _ _ _ _)
theorem tn_walk {v : Nat → Int32} {nb nw nc q i : Nat} {m : MM} (h : Rlt v nb nw nc m) (hi : i + 6 ≤ q) (hq : q ≤ 3072) : Tn i m (fL_law_j1147 q (nI i) m) := by
  unfold fL_law_j1147
  simp only [inQ (q := q) (i := i) (x := 1) (d := 1) rfl (by omega) hq, inQ (q := q) (i := i) (x := 2) (d := 2) rfl (by omega) hq, inQ (q := q) (i := i) (x := 3) (d := 3) rfl (by omega) hq, cond_true]
  exact turn_I (G := fun x m => fX7_walk 0 (x (nI i + 1).toNatClampNeg) (x (nI i + 2).toNatClampNeg) (x (nI i + 3).toNatClampNeg) m) (op_walk h _ _ _) (kp_walk _ _ _)
theorem tn_aim {v : Nat → Int32} {nb nw nc q i : Nat} {m : MM} (h : Rlt v nb nw nc m) (hi : i + 6 ≤ q) (hq : q ≤ 3072) : Tn i m (fL_law_j1094 q (nI i) m) := by
  unfold fL_law_j1094
  simp only [inQ (q := q) (i := i) (x := 1) (d := 1) rfl (by omega) hq, inQ (q := q) (i := i) (x := 2) (d := 2) rfl (by omega) hq, inQ (q := q) (i := i) (x := 3) (d := 3) rfl (by omega) hq, inQ (q := q) (i := i) (x := 4) (d := 4) rfl (by omega) hq, cond_true]
  exact turn_I (G := fun x m => fX7_aim 0 (x (nI i + 1).toNatClampNeg) (x (nI i + 2).toNatClampNeg) (x (nI i + 3).toNatClampNeg) (x (nI i + 4).toNatClampNeg) m) (op_aim h _ _ _ _) (kp_aim _ _ _ _)
theorem tn_two {v : Nat → Int32} {nb nw nc q i : Nat} {m : MM} (h : Rlt v nb nw nc m) (hi : i + 6 ≤ q) (hq : q ≤ 3072) : Tn i m (fL_law_j1061 q (nI i) m) := by
  unfold fL_law_j1061
  simp only [inQ (q := q) (i := i) (x := 1) (d := 1) rfl (by omega) hq, inQ (q := q) (i := i) (x := 2) (d := 2) rfl (by omega) hq, cond_true]
  exact turn_I (G := fun x m => fX7_two 0 (x (nI i + 1).toNatClampNeg) (x (nI i + 2).toNatClampNeg) m) (op_two h _ _) (kp_two _ _)
theorem tn_finder {v : Nat → Int32} {nb nw nc q i : Nat} {m : MM} (h : Rlt v nb nw nc m) (hi : i + 6 ≤ q) (hq : q ≤ 3072) : Tn i m (fL_law_j1038 q (nI i) m) := by
  unfold fL_law_j1038
  simp only [inQ (q := q) (i := i) (x := 1) (d := 1) rfl (by omega) hq, cond_true]
  exact turn_I (G := fun x m => fX7_finder 0 (x (nI i + 1).toNatClampNeg) m) (op_finder h _) (kp_finder _)
theorem tn_meets {v : Nat → Int32} {nb nw nc q i : Nat} {m : MM} (h : Rlt v nb nw nc m) (hi : i + 6 ≤ q) (hq : q ≤ 3072) : Tn i m (fL_law_j1005 q (nI i) m) := by
  unfold fL_law_j1005
  simp only [inQ (q := q) (i := i) (x := 1) (d := 1) rfl (by omega) hq, inQ (q := q) (i := i) (x := 2) (d := 2) rfl (by omega) hq, cond_true]
  exact turn_I (G := fun x m => fX7_meets 0 (x (nI i + 1).toNatClampNeg) (x (nI i + 2).toNatClampNeg) m) (op_meets h _ _) (kp_meets _ _)
theorem tn_when {v : Nat → Int32} {nb nw nc q i : Nat} {m : MM} (h : Rlt v nb nw nc m) (hi : i + 6 ≤ q) (hq : q ≤ 3072) : Tn i m (fL_law_j982 q (nI i) m) := by
  unfold fL_law_j982
  simp only [inQ (q := q) (i := i) (x := 1) (d := 1) rfl (by omega) hq, cond_true]
  exact turn_I (G := fun x m => fX7_when 0 (x (nI i + 1).toNatClampNeg) m) (op_when h _) (kp_when _)
theorem tn_found {v : Nat → Int32} {nb nw nc q i : Nat} {m : MM} (h : Rlt v nb nw nc m) (hi : i + 6 ≤ q) (hq : q ≤ 3072) : Tn i m (fL_law_j959 q (nI i) m) := by
  unfold fL_law_j959
  simp only [inQ (q := q) (i := i) (x := 1) (d := 1) rfl (by omega) hq, cond_true]
  exact turn_I (G := fun x m => fX7_found 0 (x (nI i + 1).toNatClampNeg) m) (op_found h _) (kp_found _)
theorem tn_walks {v : Nat → Int32} {nb nw nc q i : Nat} {m : MM} (h : Rlt v nb nw nc m) (hi : i + 6 ≤ q) (hq : q ≤ 3072) : Tn i m (fL_law_j926 q (nI i) m) := by
  unfold fL_law_j926
  simp only [inQ (q := q) (i := i) (x := 1) (d := 1) rfl (by omega) hq, inQ (q := q) (i := i) (x := 2) (d := 2) rfl (by omega) hq, cond_true]
  exact turn_I (G := fun x m => fX7_walks 0 (x (nI i + 1).toNatClampNeg) (x (nI i + 2).toNatClampNeg) m) (op_walks h _ _) (kp_walks _ _)
theorem tn_ahead {v : Nat → Int32} {nb nw nc q i : Nat} {m : MM} (h : Rlt v nb nw nc m) (hi : i + 6 ≤ q) (hq : q ≤ 3072) : Tn i m (fL_law_j883 q (nI i) m) := by
  unfold fL_law_j883
  simp only [inQ (q := q) (i := i) (x := 1) (d := 1) rfl (by omega) hq, inQ (q := q) (i := i) (x := 2) (d := 2) rfl (by omega) hq, inQ (q := q) (i := i) (x := 3) (d := 3) rfl (by omega) hq, cond_true]
  exact turn_I (G := fun x m => fX7_ahead 0 (x (nI i + 1).toNatClampNeg) (x (nI i + 2).toNatClampNeg) (x (nI i + 3).toNatClampNeg) m) (op_ahead h _ _ _) (kp_ahead _ _ _)
theorem tn_currentAt {v : Nat → Int32} {nb nw nc q i : Nat} {m : MM} (h : Rlt v nb nw nc m) (hi : i + 6 ≤ q) (hq : q ≤ 3072) : Tn i m (fL_law_j860 q (nI i) m) := by
  unfold fL_law_j860
  simp only [inQ (q := q) (i := i) (x := 1) (d := 1) rfl (by omega) hq, cond_true]
  exact turn_I (G := fun x m => fX7_currentAt 0 (x (nI i + 1).toNatClampNeg) m) (op_currentAt h _) (kp_currentAt _)
theorem tn_walkerOf {v : Nat → Int32} {nb nw nc q i : Nat} {m : MM} (h : Rlt v nb nw nc m) (hi : i + 6 ≤ q) (hq : q ≤ 3072) : Tn i m (fL_law_j827 q (nI i) m) := by
  unfold fL_law_j827
  simp only [inQ (q := q) (i := i) (x := 1) (d := 1) rfl (by omega) hq, inQ (q := q) (i := i) (x := 2) (d := 2) rfl (by omega) hq, cond_true]
  exact turn_I (G := fun x m => fX7_walkerOf 0 (x (nI i + 1).toNatClampNeg) (x (nI i + 2).toNatClampNeg) m) (op_walkerOf h _ _) (kp_walkerOf _ _)
theorem tn_bottleOf {v : Nat → Int32} {nb nw nc q i : Nat} {m : MM} (h : Rlt v nb nw nc m) (hi : i + 6 ≤ q) (hq : q ≤ 3072) : Tn i m (fL_law_j794 q (nI i) m) := by
  unfold fL_law_j794
  simp only [inQ (q := q) (i := i) (x := 1) (d := 1) rfl (by omega) hq, inQ (q := q) (i := i) (x := 2) (d := 2) rfl (by omega) hq, cond_true]
  exact turn_I (G := fun x m => fX7_bottleOf 0 (x (nI i + 1).toNatClampNeg) (x (nI i + 2).toNatClampNeg) m) (op_bottleOf h _ _) (kp_bottleOf _ _)
theorem tn_coast {v : Nat → Int32} {nb nw nc q i : Nat} {m : MM} (h : Rlt v nb nw nc m) (hi : i + 6 ≤ q) (hq : q ≤ 3072) : Tn i m (fL_law_j781 q (nI i) m) := by
  unfold fL_law_j781
  exact turn_I (G := fun x m => fX7_coast 0 m) (op_coast h) (kp_coast)
theorem tn_wipe {v : Nat → Int32} {nb nw nc q i : Nat} {m : MM} (h : Rlt v nb nw nc m) (hi : i + 6 ≤ q) (hq : q ≤ 3072) : Tn i m (fL_law_j768 q (nI i) m) := by
  unfold fL_law_j768
  exact turn_I (G := fun x m => fX7_wipe 0 m) (op_wipe h) (kp_wipe)
theorem tn_feed {v : Nat → Int32} {nb nw nc q i : Nat} {m : MM} (h : Rlt v nb nw nc m) (hi : i + 6 ≤ q) (hq : q ≤ 3072) : Tn i m (fL_law_j745 q (nI i) m) := by
  unfold fL_law_j745
  simp only [inQ (q := q) (i := i) (x := 1) (d := 1) rfl (by omega) hq, cond_true]
  exact turn_I (G := fun x m => fX7_feed 0 (x (nI i + 1).toNatClampNeg) m) (op_feed h _) (kp_feed _)
theorem tn_tell {v : Nat → Int32} {nb nw nc q i : Nat} {m : MM} (h : Rlt v nb nw nc m) (hi : i + 6 ≤ q) (hq : q ≤ 3072) : Tn i m (fL_law_j712 q (nI i) m) := by
  unfold fL_law_j712
  simp only [inQ (q := q) (i := i) (x := 1) (d := 1) rfl (by omega) hq, inQ (q := q) (i := i) (x := 2) (d := 2) rfl (by omega) hq, cond_true]
  exact turn_I (G := fun x m => fX7_tell 0 (x (nI i + 1).toNatClampNeg) (x (nI i + 2).toNatClampNeg) m) (op_tell h _ _) (kp_tell _ _)
theorem tn_current {v : Nat → Int32} {nb nw nc q i : Nat} {m : MM} (h : Rlt v nb nw nc m) (hi : i + 6 ≤ q) (hq : q ≤ 3072) : Tn i m (fL_law_j679 q (nI i) m) := by
  unfold fL_law_j679
  simp only [inQ (q := q) (i := i) (x := 1) (d := 1) rfl (by omega) hq, inQ (q := q) (i := i) (x := 2) (d := 2) rfl (by omega) hq, cond_true]
  exact turn_I (G := fun x m => fX7_current 0 (x (nI i + 1).toNatClampNeg) (x (nI i + 2).toNatClampNeg) m) (op_current h _ _) (kp_current _ _)
theorem tn_sends {v : Nat → Int32} {nb nw nc q i : Nat} {m : MM} (h : Rlt v nb nw nc m) (hi : i + 6 ≤ q) (hq : q ≤ 3072) : Tn i m (fL_law_j636 q (nI i) m) := by
  unfold fL_law_j636
  simp only [inQ (q := q) (i := i) (x := 1) (d := 1) rfl (by omega) hq, inQ (q := q) (i := i) (x := 2) (d := 2) rfl (by omega) hq, inQ (q := q) (i := i) (x := 3) (d := 3) rfl (by omega) hq, cond_true]
  exact turn_I (G := fun x m => fX7_sends 0 (x (nI i + 1).toNatClampNeg) (x (nI i + 2).toNatClampNeg) (x (nI i + 3).toNatClampNeg) m) (op_sends h _ _ _) (kp_sends _ _ _)
theorem tn_walker {v : Nat → Int32} {nb nw nc q i : Nat} {m : MM} (h : Rlt v nb nw nc m) (hi : i + 6 ≤ q) (hq : q ≤ 3072) : Tn i m (fL_law_j593 q (nI i) m) := by
  unfold fL_law_j593
  simp only [inQ (q := q) (i := i) (x := 1) (d := 1) rfl (by omega) hq, inQ (q := q) (i := i) (x := 2) (d := 2) rfl (by omega) hq, inQ (q := q) (i := i) (x := 3) (d := 3) rfl (by omega) hq, cond_true]
  exact turn_I (G := fun x m => fX7_walker 0 (x (nI i + 1).toNatClampNeg) (x (nI i + 2).toNatClampNeg) (x (nI i + 3).toNatClampNeg) m) (op_walker h _ _ _) (kp_walker _ _ _)
theorem tn_paves {v : Nat → Int32} {nb nw nc q i : Nat} {m : MM} (h : Rlt v nb nw nc m) (hi : i + 6 ≤ q) (hq : q ≤ 3072) : Tn i m (fL_law_j570 q (nI i) m) := by
  unfold fL_law_j570
  simp only [inQ (q := q) (i := i) (x := 1) (d := 1) rfl (by omega) hq, cond_true]
  exact turn_I (G := fun x m => fX7_paves 0 (x (nI i + 1).toNatClampNeg) m) (op_paves h _) (kp_paves _)
theorem tn_says {v : Nat → Int32} {nb nw nc q i : Nat} {m : MM} (h : Rlt v nb nw nc m) (hi : i + 6 ≤ q) (hq : q ≤ 3072) : Tn i m (fL_law_j537 q (nI i) m) := by
  unfold fL_law_j537
  simp only [inQ (q := q) (i := i) (x := 1) (d := 1) rfl (by omega) hq, inQ (q := q) (i := i) (x := 2) (d := 2) rfl (by omega) hq, cond_true]
  exact turn_I (G := fun x m => fX7_says 0 (x (nI i + 1).toNatClampNeg) (x (nI i + 2).toNatClampNeg) m) (op_says h _ _) (kp_says _ _)
theorem tn_show {v : Nat → Int32} {nb nw nc q i : Nat} {m : MM} (h : Rlt v nb nw nc m) (hi : i + 6 ≤ q) (hq : q ≤ 3072) : Tn i m (fL_law_j504 q (nI i) m) := by
  unfold fL_law_j504
  simp only [inQ (q := q) (i := i) (x := 1) (d := 1) rfl (by omega) hq, inQ (q := q) (i := i) (x := 2) (d := 2) rfl (by omega) hq, cond_true]
  exact turn_I (G := fun x m => fX7_show 0 (x (nI i + 1).toNatClampNeg) (x (nI i + 2).toNatClampNeg) m) (op_show h _ _) (kp_show _ _)
theorem tn_holds {v : Nat → Int32} {nb nw nc q i : Nat} {m : MM} (h : Rlt v nb nw nc m) (hi : i + 6 ≤ q) (hq : q ≤ 3072) : Tn i m (fL_law_j481 q (nI i) m) := by
  unfold fL_law_j481
  simp only [inQ (q := q) (i := i) (x := 1) (d := 1) rfl (by omega) hq, cond_true]
  exact turn_I (G := fun x m => fX7_holds 0 (x (nI i + 1).toNatClampNeg) m) (op_holds h _) (kp_holds _)
theorem tn_element {v : Nat → Int32} {nb nw nc q i : Nat} {m : MM} (h : Rlt v nb nw nc m) (hi : i + 6 ≤ q) (hq : q ≤ 3072) : Tn i m (fL_law_j447 q (nI i) m) := by
  unfold fL_law_j447
  simp only [inQ (q := q) (i := i) (x := 1) (d := 1) rfl (by omega) hq, inQ (q := q) (i := i) (x := 2) (d := 2) rfl (by omega) hq, cond_true]
  exact turn_J (G := fun x m => fX7_element 0 (x (nI i + 1).toNatClampNeg) (x (nI i + 2).toNatClampNeg) m) (op_element h _ _) (kp_element _ _)
theorem tn_copy {v : Nat → Int32} {nb nw nc q i : Nat} {m : MM} (h : Rlt v nb nw nc m) (hi : i + 6 ≤ q) (hq : q ≤ 3072) : Tn i m (fL_law_j384 q (nI i) m) := by
  unfold fL_law_j384
  simp only [inQ (q := q) (i := i) (x := 1) (d := 1) rfl (by omega) hq, inQ (q := q) (i := i) (x := 2) (d := 2) rfl (by omega) hq, inQ (q := q) (i := i) (x := 3) (d := 3) rfl (by omega) hq, inQ (q := q) (i := i) (x := 4) (d := 4) rfl (by omega) hq, inQ (q := q) (i := i) (x := 5) (d := 5) rfl (by omega) hq, cond_true]
  exact turn_I (G := fun x m => fX7_copy 0 (x (nI i + 1).toNatClampNeg) (x (nI i + 2).toNatClampNeg) (x (nI i + 3).toNatClampNeg) (x (nI i + 4).toNatClampNeg) (x (nI i + 5).toNatClampNeg) m) (op_copy h _ _ _ _ _) (kp_copy _ _ _ _ _)
theorem tn_set {v : Nat → Int32} {nb nw nc q i : Nat} {m : MM} (h : Rlt v nb nw nc m) (hi : i + 6 ≤ q) (hq : q ≤ 3072) : Tn i m (fL_law_j311 q (nI i) m) := by
  unfold fL_law_j311
  simp only [inQ (q := q) (i := i) (x := 1) (d := 1) rfl (by omega) hq, inQ (q := q) (i := i) (x := 2) (d := 2) rfl (by omega) hq, inQ (q := q) (i := i) (x := 3) (d := 3) rfl (by omega) hq, inQ (q := q) (i := i) (x := 4) (d := 4) rfl (by omega) hq, cond_true]
  exact turn_I (G := fun x m => fX7_set 0 (x (nI i + 1).toNatClampNeg) (x (nI i + 2).toNatClampNeg) (((x (nI i + 3).toNatClampNeg).toInt64 <<< ((32 : Int32).toInt64 &&& 63)) ||| ((x (nI i + 4).toNatClampNeg).toInt64 &&& 4294967295)) m) (op_set h _ _ _) (kp_set _ _ _)
theorem tn_row {v : Nat → Int32} {nb nw nc q i : Nat} {m : MM} (h : Rlt v nb nw nc m) (hi : i + 6 ≤ q) (hq : q ≤ 3072) : Tn i m (fL_law_j268 q (nI i) m) := by
  unfold fL_law_j268
  simp only [inQ (q := q) (i := i) (x := 1) (d := 1) rfl (by omega) hq, inQ (q := q) (i := i) (x := 2) (d := 2) rfl (by omega) hq, inQ (q := q) (i := i) (x := 3) (d := 3) rfl (by omega) hq, cond_true]
  exact turn_I (G := fun x m => fX7_row 0 (x (nI i + 1).toNatClampNeg) (x (nI i + 2).toNatClampNeg) (x (nI i + 3).toNatClampNeg) m) (op_row h _ _ _) (kp_row _ _ _)
