/-! THE FUNCTIONS ARE THE RUNS, 2 -/
set_option maxRecDepth 20000
set_option maxHeartbeats 4000000
noncomputable def kt_X5_soonest (q : Nat) : Int32 × MM → Nat → Option Out := fun x _ => some (some (aI x.1), (ST0 q, x.2))
noncomputable def hfX5_soonest_b35 (q : Nat) (a0 : Nat) (a3 : Int32) (s : Int32) (m : MM) (n : Nat) : Option Out := brun false (0, 0) (csF q) (lkb tX5_soonest) n 35 [some (aR 5 a0), none, none, some (aI a3), some (aI s)] [] (ST0 q, m)
noncomputable def kxfX5_soonest_b35 (q : Nat) (a0 : Nat) (a3 : Int32) (y : ((Unit) ⊕ (Int32)) × MM) (n : Nat) : Option Out := match y.1 with
  | Sum.inl x => brun false (0, 0) (csF q) (lkb tX5_soonest) n 105 [none, none, none, none, none] [] (ST0 q, y.2)
  | Sum.inr x => brun false (0, 0) (csF q) (lkb tX5_soonest) n 96 [none, none, none, none, some (aI x)] [] (ST0 q, y.2)
theorem pfX5_soonest_b35 (q : Nat) (hcs : CSm (csF q)) (a0 : Nat) (a3 : Int32) (s : Int32) (m : MM) : SimK (fX5_soonest_b35 a0 a3 s m) (hfX5_soonest_b35 q a0 a3 s m) (lpK (hfX5_soonest_b35 q a0 a3) (kxfX5_soonest_b35 q a0 a3)) :=
  (simk_run hcs 32 [35, 96, 105]
    (simt_ite
      (simt_go hcs (.n _ (.n _ (.n _ (.n _ (.n _ .nil))))) (fun _ => rfl))
      (simt_ite
        (simt_go hcs (.n _ (.n _ (.n _ (.n _ (.n _ .nil))))) (fun _ => rfl))
        (simt_bind fun o3 =>
          (simt_bind fun o4 =>
            (simt_bind fun o5 =>
              (simt_ite
                (simt_go hcs (.s _ (.n _ (.n _ (.s _ (.s _ .nil))))) (fun _ => rfl))
                (simt_go hcs (.n _ (.n _ (.n _ (.n _ (.s _ .nil))))) (fun _ => rfl))))))))
  (fun _ => rfl))
theorem pfX5_soonest_b35_l (q : Nat) (hcs : CSm (csF q)) (a0 : Nat) (a3 : Int32) (s : Int32) (m : MM) : SimK (loopF 1000 (fX5_soonest_b35 a0 a3) s m) (hfX5_soonest_b35 q a0 a3 s m) (kxfX5_soonest_b35 q a0 a3) :=
  simk_loopF (fun s m => pfX5_soonest_b35 q hcs a0 a3 s m) 1000 s m
theorem pfX5_soonest0 (q : Nat) (hcs : CSm (csF q)) (a0 : Nat) (a1 : Nat) (a3 : Int32) (m : MM) : SimK (fX5_soonest_0 a0 a1 a3 m) (fun n => brun false (0, 0) (csF q) (lkb tX5_soonest) n 0 (entL 5 [aR 5 a0, aR 0 a1, aN, aI a3]) [] (ST0 q, m)) (kt_X5_soonest q) :=
  (simk_run hcs 9 []
    (simt_ite
      (simt_ret (some (some (aI (-1)), (ST0 q, m))) (fun _ => rfl))
      (simt_ret (some (some (aI 0), (ST0 q, m))) (fun _ => rfl)))
  (fun _ => rfl))
theorem pfX5_soonest1 (q : Nat) (hcs : CSm (csF q)) (a0 : Nat) (a1 : Nat) (a2 : Nat) (a3 : Int32) (m : MM) : SimK (fX5_soonest_1 a0 a1 a2 a3 m) (fun n => brun false (0, 0) (csF q) (lkb tX5_soonest) n 0 (entL 5 [aR 5 a0, aR 0 a1, aR 4 a2, aI a3]) [] (ST0 q, m)) (kt_X5_soonest q) :=
  (simk_run hcs 17 [35]
    (simt_ite
      (simt_bind fun o1 =>
        (simt_bind fun o2 =>
          (simt_loop hcs (.s _ (.n _ (.n _ (.s _ (.s _ .nil))))) (pfX5_soonest_b35_l q hcs a0 a3 1 o2.2) (fun o6 => by
            obtain ⟨o6x, o6m⟩ := o6
            rcases o6x with x7 | x8
            · exact
              (simk_run hcs 3 []
                (simt_ret (some (some (aI (-1)), (ST0 q, o6m))) (fun _ => rfl))
              (fun _ => rfl))
            · exact
              (simk_run hcs 3 []
                (simt_ret (some (some (aI x8), (ST0 q, o6m))) (fun _ => rfl))
              (fun _ => rfl))))))
      (simt_ret (some (some (aI 0), (ST0 q, m))) (fun _ => rfl)))
  (fun _ => rfl))
noncomputable def kt_X5_daysTillFound (q : Nat) : Int32 × MM → Nat → Option Out := fun x _ => some (some (aI x.1), (ST0 q, x.2))
theorem pfX5_daysTillFound (q : Nat) (hcs : CSm (csF q)) (a0 : Nat) (a1 : Nat) (m : MM) : SimK (fX5_daysTillFound_b a0 a1 m) (fun n => brun false (0, 0) (csF q) (lkb tX5_daysTillFound) n 0 (entL 2 [aR 5 a0, aR 0 a1]) [] (ST0 q, m)) (kt_X5_daysTillFound q) :=
  (simk_run hcs 10 []
    (simt_bindO (fun o1 =>
      (simt_bind fun o3 =>
        (simt_ret (some (some (aI o3.1), (ST0 q, o3.2))) (fun _ => rfl)))) (fun o1 i2 =>
      (simt_bind fun o4 =>
        (simt_ret (some (some (aI o4.1), (ST0 q, o4.2))) (fun _ => rfl)))))
  (fun _ => rfl))
noncomputable def kt_X5_countFound (q : Nat) : Int32 × MM → Nat → Option Out := fun x _ => some (some (aI x.1), (ST0 q, x.2))
noncomputable def hfX5_countFound_b4 (q : Nat) (a0 : Nat) (a1 : Int32) (s : Int32 × Int32) (m : MM) (n : Nat) : Option Out := brun false (0, 0) (csF q) (lkb tX5_countFound) n 4 [some (aR 5 a0), some (aI a1), some (aI s.1), some (aI s.2), none] [] (ST0 q, m)
noncomputable def kxfX5_countFound_b4 (q : Nat) (a0 : Nat) (a1 : Int32) (y : (Int32) × MM) (n : Nat) : Option Out := brun false (0, 0) (csF q) (lkb tX5_countFound) n 61 [none, none, some (aI y.1), none, none] [] (ST0 q, y.2)
theorem pfX5_countFound_b4 (q : Nat) (hcs : CSm (csF q)) (a0 : Nat) (a1 : Int32) (s : Int32 × Int32) (m : MM) : SimK (fX5_countFound_b4 a0 a1 s m) (hfX5_countFound_b4 q a0 a1 s m) (lpK (hfX5_countFound_b4 q a0 a1) (kxfX5_countFound_b4 q a0 a1)) :=
  (simk_run hcs 27 [4, 61]
    (simt_ite
      (simt_go hcs (.n _ (.n _ (.s _ (.n _ (.n _ .nil))))) (fun _ => rfl))
      (simt_bindO (fun o1 =>
        (simt_go hcs (.s _ (.s _ (.s _ (.s _ (.n _ .nil))))) (fun _ => rfl))) (fun o1 i2 =>
        (simt_ite
          (simt_go hcs (.s _ (.s _ (.s _ (.s _ (.n _ .nil))))) (fun _ => rfl))
          (simt_bindO (fun o3 =>
            (simt_bind fun o5 =>
              (simt_ite
                (simt_go hcs (.s _ (.s _ (.s _ (.s _ (.n _ .nil))))) (fun _ => rfl))
                (simt_go hcs (.s _ (.s _ (.s _ (.s _ (.n _ .nil))))) (fun _ => rfl))))) (fun o3 i4 =>
            (simt_bind fun o6 =>
              (simt_ite
                (simt_go hcs (.s _ (.s _ (.s _ (.s _ (.n _ .nil))))) (fun _ => rfl))
                (simt_go hcs (.s _ (.s _ (.s _ (.s _ (.n _ .nil))))) (fun _ => rfl))))))))))
  (fun _ => rfl))
theorem pfX5_countFound_b4_l (q : Nat) (hcs : CSm (csF q)) (a0 : Nat) (a1 : Int32) (s : Int32 × Int32) (m : MM) : SimK (loopF 1000 (fX5_countFound_b4 a0 a1) s m) (hfX5_countFound_b4 q a0 a1 s m) (kxfX5_countFound_b4 q a0 a1) :=
  simk_loopF (fun s m => pfX5_countFound_b4 q hcs a0 a1 s m) 1000 s m
theorem pfX5_countFound (q : Nat) (hcs : CSm (csF q)) (a0 : Nat) (a1 : Int32) (m : MM) : SimK (fX5_countFound_b a0 a1 m) (fun n => brun false (0, 0) (csF q) (lkb tX5_countFound) n 0 (entL 5 [aR 5 a0, aI a1]) [] (ST0 q, m)) (kt_X5_countFound q) :=
  (simk_run hcs 5 [4]
    (simt_loop hcs (.s _ (.s _ (.s _ (.s _ (.n _ .nil))))) (pfX5_countFound_b4_l q hcs a0 a1 (0, 0) m) (fun o7 => 
      (simk_run hcs 3 []
        (simt_ret (some (some (aI o7.1), (ST0 q, o7.2))) (fun _ => rfl))
      (fun _ => rfl))))
  (fun _ => rfl))
noncomputable def kt_X5_passDay (q : Nat) : Int32 × MM → Nat → Option Out := fun x _ => some (some (aI x.1), (ST0 q, x.2))
noncomputable def hfX5_passDay_b2 (q : Nat) (a0 : Nat) (s : Int32) (m : MM) (n : Nat) : Option Out := brun false (0, 0) (csF q) (lkb tX5_passDay) n 2 [some (aR 5 a0), some (aI s), none, none, none] [] (ST0 q, m)
noncomputable def kxfX5_passDay_b2 (q : Nat) (a0 : Nat) (y : (Unit) × MM) (n : Nat) : Option Out := brun false (0, 0) (csF q) (lkb tX5_passDay) n 34 [some (aR 5 a0), none, none, none, none] [] (ST0 q, y.2)
theorem pfX5_passDay_b2 (q : Nat) (hcs : CSm (csF q)) (a0 : Nat) (s : Int32) (m : MM) : SimK (fX5_passDay_b2 a0 s m) (hfX5_passDay_b2 q a0 s m) (lpK (hfX5_passDay_b2 q a0) (kxfX5_passDay_b2 q a0)) :=
  (simk_run hcs 17 [2, 34]
    (simt_ite
      (simt_go hcs (.s _ (.n _ (.n _ (.n _ (.n _ .nil))))) (fun _ => rfl))
      (simt_bindO (fun o1 =>
        (simt_go hcs (.s _ (.s _ (.n _ (.n _ (.n _ .nil))))) (fun _ => rfl))) (fun o1 i2 =>
        (simt_bind fun o3 =>
          (simt_go hcs (.s _ (.s _ (.n _ (.n _ (.n _ .nil))))) (fun _ => rfl))))))
  (fun _ => rfl))
theorem pfX5_passDay_b2_l (q : Nat) (hcs : CSm (csF q)) (a0 : Nat) (s : Int32) (m : MM) : SimK (loopF 1000 (fX5_passDay_b2 a0) s m) (hfX5_passDay_b2 q a0 s m) (kxfX5_passDay_b2 q a0) :=
  simk_loopF (fun s m => pfX5_passDay_b2 q hcs a0 s m) 1000 s m
noncomputable def hfX5_passDay_b38 (q : Nat) (a0 : Nat) (s : Int32 × Int32) (m : MM) (n : Nat) : Option Out := brun false (0, 0) (csF q) (lkb tX5_passDay) n 38 [some (aR 5 a0), some (aI s.1), some (aI s.2), none, none] [] (ST0 q, m)
noncomputable def kxfX5_passDay_b38 (q : Nat) (a0 : Nat) (y : (Int32) × MM) (n : Nat) : Option Out := brun false (0, 0) (csF q) (lkb tX5_passDay) n 116 [some (aR 5 a0), some (aI y.1), none, none, none] [] (ST0 q, y.2)
theorem pfX5_passDay_b38 (q : Nat) (hcs : CSm (csF q)) (a0 : Nat) (s : Int32 × Int32) (m : MM) : SimK (fX5_passDay_b38 a0 s m) (hfX5_passDay_b38 q a0 s m) (lpK (hfX5_passDay_b38 q a0) (kxfX5_passDay_b38 q a0)) :=
  (simk_run hcs 35 [38, 116]
    (simt_ite
      (simt_go hcs (.s _ (.s _ (.n _ (.n _ (.n _ .nil))))) (fun _ => rfl))
      (simt_bindO (fun o5 =>
        (simt_go hcs (.s _ (.s _ (.s _ (.n _ (.n _ .nil))))) (fun _ => rfl))) (fun o5 i6 =>
        (simt_ite
          (simt_bindO (fun o7 =>
            (simt_bind fun o9 =>
              (simt_ite
                (simt_go hcs (.s _ (.s _ (.s _ (.n _ (.n _ .nil))))) (fun _ => rfl))
                (simt_go hcs (.s _ (.s _ (.s _ (.n _ (.n _ .nil))))) (fun _ => rfl))))) (fun o7 i8 =>
            (simt_bind fun o10 =>
              (simt_ite
                (simt_go hcs (.s _ (.s _ (.s _ (.n _ (.n _ .nil))))) (fun _ => rfl))
                (simt_go hcs (.s _ (.s _ (.s _ (.n _ (.n _ .nil))))) (fun _ => rfl))))))
          (simt_go hcs (.s _ (.s _ (.s _ (.n _ (.n _ .nil))))) (fun _ => rfl))))))
  (fun _ => rfl))
theorem pfX5_passDay_b38_l (q : Nat) (hcs : CSm (csF q)) (a0 : Nat) (s : Int32 × Int32) (m : MM) : SimK (loopF 1000 (fX5_passDay_b38 a0) s m) (hfX5_passDay_b38 q a0 s m) (kxfX5_passDay_b38 q a0) :=
  simk_loopF (fun s m => pfX5_passDay_b38 q hcs a0 s m) 1000 s m
theorem pfX5_passDay (q : Nat) (hcs : CSm (csF q)) (a0 : Nat) (m : MM) : SimK (fX5_passDay_b a0 m) (fun n => brun false (0, 0) (csF q) (lkb tX5_passDay) n 0 (entL 5 [aR 5 a0]) [] (ST0 q, m)) (kt_X5_passDay q) :=
  (simk_run hcs 3 [2]
    (simt_loop hcs (.s _ (.s _ (.n _ (.n _ (.n _ .nil))))) (pfX5_passDay_b2_l q hcs a0 0 m) (fun o4 => 
      (simk_run hcs 5 [38]
        (simt_loop hcs (.s _ (.s _ (.s _ (.n _ (.n _ .nil))))) (pfX5_passDay_b38_l q hcs a0 (0, 0) o4.2) (fun o11 => 
          (simk_run hcs 14 []
            (simt_bind fun o12 =>
              (simt_ret (some (some (aI o11.1), (ST0 q, ((upI o12.2.1 5 a0 2 o12.1), o12.2.2)))) (fun _ => rfl)))
          (fun _ => rfl))))
      (fun _ => rfl))))
  (fun _ => rfl))
noncomputable def kt_X5_draw (q : Nat) : Int32 × MM → Nat → Option Out := fun x _ => some (some (aI x.1), (ST0 q, x.2))
theorem pfX5_draw (q : Nat) (hcs : CSm (csF q)) (a0 : Nat) (a1 : Int32) (m : MM) : SimK (fX5_draw_b a0 a1 m) (fun n => brun false (0, 0) (csF q) (lkb tX5_draw) n 0 (entL 2 [aR 5 a0, aI a1]) [] (ST0 q, m)) (kt_X5_draw q) :=
  (simk_run hcs 18 []
    (simt_ite
      (simt_ite
        simt_none
        (simt_ret (some (some (aI ((usr ((upI m.1 5 a0 4 (((m.1 5 a0 4) * 1103515245) + 12345)) 5 a0 4) 16) - (usr ((upI m.1 5 a0 4 (((m.1 5 a0 4) * 1103515245) + 12345)) 5 a0 4) 16) / a1 * a1)), (ST0 q, ((upI m.1 5 a0 4 (((m.1 5 a0 4) * 1103515245) + 12345)), m.2)))) (fun _ => rfl)))
      (simt_ret (some (some (aI 0), (ST0 q, ((upI m.1 5 a0 4 (((m.1 5 a0 4) * 1103515245) + 12345)), m.2)))) (fun _ => rfl)))
  (fun _ => rfl))
noncomputable def kt_X5_passDrawnDay (q : Nat) : Int32 × MM → Nat → Option Out := fun x _ => some (some (aI x.1), (ST0 q, x.2))
theorem pfX5_passDrawnDay (q : Nat) (hcs : CSm (csF q)) (a0 : Nat) (m : MM) : SimK (fX5_passDrawnDay_b a0 m) (fun n => brun false (0, 0) (csF q) (lkb tX5_passDrawnDay) n 0 (entL 3 [aR 5 a0]) [] (ST0 q, m)) (kt_X5_passDrawnDay q) :=
  (simk_run hcs 32 []
    (simt_bind fun o1 =>
      (simt_bind fun o2 =>
        (simt_bindO (fun o3 =>
          (simt_bind fun o5 =>
            (simt_bind fun o6 =>
              (simt_ret (some (some (aI o6.1), (ST0 q, o6.2))) (fun _ => rfl))))) (fun o3 i4 =>
          (simt_bind fun o7 =>
            (simt_ite
              (simt_bind fun o8 =>
                (simt_ret (some (some (aI o8.1), (ST0 q, o8.2))) (fun _ => rfl)))
              (simt_bind fun o9 =>
                (simt_ret (some (some (aI o9.1), (ST0 q, o9.2))) (fun _ => rfl)))))))))
  (fun _ => rfl))
noncomputable def kt_X6_refuse (q : Nat) : Int32 × MM → Nat → Option Out := fun x _ => some (some (aI x.1), (ST0 q, x.2))
theorem pfX6_refuse_j6 (q : Nat) (hcs : CSm (csF q)) (a0 : Nat) (a1 : Int32) (a2 : Int32) (m : MM) : SimK (fX6_refuse_j6 a0 a1 a2 m) (fun n => brun false (0, 0) (csF q) (lkb tX6_refuse) n 6 [some (aR 6 a0), some (aI a1), some (aI a2)] [] (ST0 q, m)) (kt_X6_refuse q) :=
  (simk_run hcs 18 []
    (simt_ite
      (simt_ret (some (some (aI a1), (ST0 q, m))) (fun _ => rfl))
      (simt_ite
        (simt_ret (some (some (aI a1), (ST0 q, m))) (fun _ => rfl))
        (simt_bif
          (simt_bif
            (simt_ret (some (some (aI a1), (ST0 q, ((upI m.1 47 0 a2.toNatClampNeg ((m.1 47 0 a2.toNatClampNeg) + 1)), m.2)))) (fun _ => rfl))))))
  (fun _ => rfl))
theorem pfX6_refuse (q : Nat) (hcs : CSm (csF q)) (a0 : Nat) (a1 : Int32) (m : MM) : SimK (fX6_refuse_b a0 a1 m) (fun n => brun false (0, 0) (csF q) (lkb tX6_refuse) n 0 (entL 3 [aR 6 a0, aI a1]) [] (ST0 q, m)) (kt_X6_refuse q) :=
  (simk_run hcs 5 [6]
    (simt_join hcs (.s _ (.s _ (.s _ .nil))) (pfX6_refuse_j6 q hcs a0 a1 ((-1002) - a1) m))
  (fun _ => rfl))
noncomputable def kt_X6_shelfAt (q : Nat) : Option Nat × MM → Nat → Option Out := fun x _ => match x.1 with
  | none => some (some aN, (ST0 q, x.2))
  | some i => some (some (aR 1 i), (ST0 q, x.2))
theorem pfX6_shelfAt (q : Nat) (hcs : CSm (csF q)) (a0 : Nat) (a1 : Int32) (m : MM) : SimK (fX6_shelfAt_b a0 a1 m) (fun n => brun false (0, 0) (csF q) (lkb tX6_shelfAt) n 0 (entL 2 [aR 6 a0, aI a1]) [] (ST0 q, m)) (kt_X6_shelfAt q) :=
  (simk_run hcs 14 []
    (simt_ite
      (simt_ret (some (some (aN), (ST0 q, m))) (fun _ => rfl))
      (simt_ite
        (simt_ret (some (some (aN), (ST0 q, m))) (fun _ => rfl))
        (simt_bif
          (simt_ret (some (some (aR 1 a1.toNatClampNeg), (ST0 q, m))) (fun _ => rfl)))))
  (fun _ => rfl))
noncomputable def kt_X6_within (q : Nat) : Bool × MM → Nat → Option Out := fun x _ => some (some (aI (bI x.1)), (ST0 q, x.2))
theorem pfX6_within (q : Nat) (hcs : CSm (csF q)) (a0 : Int32) (a1 : Int32) (a2 : Int32) (m : MM) : SimK (fX6_within_b a0 a1 a2 m) (fun n => brun false (0, 0) (csF q) (lkb tX6_within) n 0 (entL 3 [aI a0, aI a1, aI a2]) [] (ST0 q, m)) (kt_X6_within q) :=
  (simk_run hcs 10 []
    (simt_ite
      (simt_ret (some (some (aI 0), (ST0 q, m))) (fun _ => rfl))
      (simt_ite
        (simt_ret (some (some (aI 0), (ST0 q, m))) (fun _ => rfl))
        (simt_ret (some (some (aI 1), (ST0 q, m))) (fun _ => rfl))))
  (fun _ => rfl))
noncomputable def kt_X6_row (q : Nat) : Int32 × MM → Nat → Option Out := fun x _ => some (some (aI x.1), (ST0 q, x.2))
theorem pfX6_row (q : Nat) (hcs : CSm (csF q)) (a0 : Nat) (a1 : Int32) (a2 : Int32) (a3 : Int32) (m : MM) : SimK (fX6_row_b a0 a1 a2 a3 m) (fun n => brun false (0, 0) (csF q) (lkb tX6_row) n 0 (entL 5 [aR 6 a0, aI a1, aI a2, aI a3]) [] (ST0 q, m)) (kt_X6_row q) :=
  (simk_run hcs 23 []
    (simt_bindO (fun o1 =>
      (simt_bind fun o3 =>
        (simt_ret (some (some (aI o3.1), (ST0 q, o3.2))) (fun _ => rfl)))) (fun o1 i2 =>
      (simt_bind fun o4 =>
        (simt_ite
          (simt_bind fun o5 =>
            (simt_ret (some (some (aI o5.1), (ST0 q, o5.2))) (fun _ => rfl)))
          (simt_bind fun o6 =>
            (simt_ite
              (simt_bind fun o7 =>
                (simt_ret (some (some (aI 1), (ST0 q, o7.2))) (fun _ => rfl)))
              (simt_bind fun o8 =>
                (simt_ret (some (some (aI o8.1), (ST0 q, o8.2))) (fun _ => rfl)))))))))
  (fun _ => rfl))
noncomputable def kt_X6_set (q : Nat) : Int32 × MM → Nat → Option Out := fun x _ => some (some (aI x.1), (ST0 q, x.2))
theorem pfX6_set (q : Nat) (hcs : CSm (csF q)) (a0 : Nat) (a1 : Int32) (a2 : Int32) (a3 : Int64) (m : MM) : SimK (fX6_set_b a0 a1 a2 a3 m) (fun n => brun false (0, 0) (csF q) (lkb tX6_set) n 0 (entL 6 [aR 6 a0, aI a1, aI a2, aL a3]) [] (ST0 q, m)) (kt_X6_set q) :=
  (simk_run hcs 20 []
    (simt_bindO (fun o1 =>
      (simt_bind fun o3 =>
        (simt_ret (some (some (aI o3.1), (ST0 q, o3.2))) (fun _ => rfl)))) (fun o1 i2 =>
      (simt_bind fun o4 =>
        (simt_ite
          (simt_bind fun o5 =>
            (simt_ite
              (simt_bind fun o6 =>
                (simt_ret (some (some (aI 1), (ST0 q, o6.2))) (fun _ => rfl)))
              (simt_bind fun o7 =>
                (simt_ret (some (some (aI o7.1), (ST0 q, o7.2))) (fun _ => rfl)))))
          (simt_bind fun o8 =>
            (simt_bind fun o9 =>
              (simt_ret (some (some (aI o9.1), (ST0 q, o9.2))) (fun _ => rfl))))))))
  (fun _ => rfl))
noncomputable def kt_X6_copy (q : Nat) : Int32 × MM → Nat → Option Out := fun x _ => some (some (aI x.1), (ST0 q, x.2))
theorem pfX6_copy_j105 (q : Nat) (hcs : CSm (csF q)) (a0 : Nat) (a3 : Int32) (a4 : Int32) (a5 : Int32) (a6 : Nat) (a7 : Nat) (a8 : Int32) (m : MM) : SimK (fX6_copy_j105 a0 a3 a4 a5 a6 a7 a8 m) (fun n => brun false (0, 0) (csF q) (lkb tX6_copy) n 105 [some (aR 6 a0), none, none, some (aI a3), some (aI a4), some (aI a5), some (aR 1 a6), some (aR 1 a7), some (aI a8)] [] (ST0 q, m)) (kt_X6_copy q) :=
  (simk_run hcs 23 []
    (simt_ite
      (simt_bind fun o14 =>
        (simt_ite
          (simt_bind fun o15 =>
            (simt_ret (some (some (aI o15.1), (ST0 q, o15.2))) (fun _ => rfl)))
          (simt_bind fun o16 =>
            (simt_ite
              (simt_ite
                (simt_ret (some (some (aI a5), (ST0 q, (o16.2.1, (cpL o16.2.2 20 a6 a3.toNatClampNeg 20 a7 a4.toNatClampNeg a5.toNatClampNeg))))) (fun _ => rfl))
                simt_none)
              (simt_bind fun o17 =>
                (simt_ret (some (some (aI o17.1), (ST0 q, o17.2))) (fun _ => rfl)))))))
      (simt_bind fun o18 =>
        (simt_ret (some (some (aI o18.1), (ST0 q, o18.2))) (fun _ => rfl))))
  (fun _ => rfl))
theorem pfX6_copy_j77 (q : Nat) (hcs : CSm (csF q)) (a0 : Nat) (a3 : Int32) (a4 : Int32) (a5 : Int32) (a6 : Nat) (a7 : Nat) (z0 : Int32) (m : MM) : SimK (fX6_copy_j77 a0 a3 a4 a5 a6 a7 z0 m) (fun n => brun false (0, 0) (csF q) (lkb tX6_copy) n 77 [some (aR 6 a0), none, none, some (aI a3), some (aI a4), some (aI a5), some (aR 1 a6), some (aR 1 a7), none] [aI z0] (ST0 q, m)) (kt_X6_copy q) :=
  (simk_run hcs 13 [105]
    (simt_ite
      (simt_join hcs (.s _ (.n _ (.n _ (.s _ (.s _ (.s _ (.s _ (.s _ (.s _ .nil))))))))) (pfX6_copy_j105 q hcs a0 a3 a4 a5 a6 a7 z0 m))
      (simt_ite
        (simt_join hcs (.s _ (.n _ (.n _ (.s _ (.s _ (.s _ (.s _ (.s _ (.s _ .nil))))))))) (pfX6_copy_j105 q hcs a0 a3 a4 a5 a6 a7 z0 m))
        (simt_bind fun o19 =>
          (simt_ret (some (some (aI o19.1), (ST0 q, o19.2))) (fun _ => rfl)))))
  (fun _ => rfl))
theorem pfX6_copy_j76 (q : Nat) (hcs : CSm (csF q)) (a0 : Nat) (a3 : Int32) (a4 : Int32) (a5 : Int32) (a6 : Nat) (a7 : Nat) (m : MM) : SimK (fX6_copy_j76 a0 a3 a4 a5 a6 a7 m) (fun n => brun false (0, 0) (csF q) (lkb tX6_copy) n 76 [some (aR 6 a0), none, none, some (aI a3), some (aI a4), some (aI a5), some (aR 1 a6), some (aR 1 a7), none] [] (ST0 q, m)) (kt_X6_copy q) :=
  (simk_run hcs 2 [77]
    (simt_join hcs (.s _ (.n _ (.n _ (.s _ (.s _ (.s _ (.s _ (.s _ (.n _ .nil))))))))) (pfX6_copy_j77 q hcs a0 a3 a4 a5 a6 a7 0 m))
  (fun _ => rfl))
theorem pfX6_copy (q : Nat) (hcs : CSm (csF q)) (a0 : Nat) (a1 : Int32) (a2 : Int32) (a3 : Int32) (a4 : Int32) (a5 : Int32) (m : MM) : SimK (fX6_copy_b a0 a1 a2 a3 a4 a5 m) (fun n => brun false (0, 0) (csF q) (lkb tX6_copy) n 0 (entL 9 [aR 6 a0, aI a1, aI a2, aI a3, aI a4, aI a5]) [] (ST0 q, m)) (kt_X6_copy q) :=
  (simk_run hcs 27 [76, 77]
    (simt_bindO (fun o1 =>
      (simt_bindO (fun o3 =>
        (simt_bind fun o5 =>
          (simt_ret (some (some (aI o5.1), (ST0 q, o5.2))) (fun _ => rfl)))) (fun o3 i4 =>
        (simt_bind fun o6 =>
          (simt_ret (some (some (aI o6.1), (ST0 q, o6.2))) (fun _ => rfl)))))) (fun o1 i2 =>
      (simt_bindO (fun o7 =>
        (simt_bind fun o9 =>
          (simt_ret (some (some (aI o9.1), (ST0 q, o9.2))) (fun _ => rfl)))) (fun o7 i8 =>
        (simt_bind fun o10 =>
          (simt_ite
            (simt_bind fun o11 =>
              (simt_ret (some (some (aI o11.1), (ST0 q, o11.2))) (fun _ => rfl)))
            (simt_bind fun o12 =>
              (simt_ite
                (simt_bind fun o13 =>
                  (simt_ite
                    (simt_join hcs (.s _ (.n _ (.n _ (.s _ (.s _ (.s _ (.s _ (.s _ (.n _ .nil))))))))) (pfX6_copy_j76 q hcs a0 a3 a4 a5 i2 i8 o13.2))
                    (simt_bind fun o20 =>
                      (simt_ite
                        (simt_join hcs (.s _ (.n _ (.n _ (.s _ (.s _ (.s _ (.s _ (.s _ (.n _ .nil))))))))) (pfX6_copy_j76 q hcs a0 a3 a4 a5 i2 i8 o20.2))
                        (simt_join hcs (.s _ (.n _ (.n _ (.s _ (.s _ (.s _ (.s _ (.s _ (.n _ .nil))))))))) (pfX6_copy_j77 q hcs a0 a3 a4 a5 i2 i8 1 o20.2))))))
                (simt_bind fun o21 =>
                  (simt_ret (some (some (aI o21.1), (ST0 q, o21.2))) (fun _ => rfl)))))))))))
  (fun _ => rfl))
noncomputable def kt_X6_element (q : Nat) : Int64 × MM → Nat → Option Out := fun x _ => some (some (aL x.1), (ST0 q, x.2))
theorem pfX6_element (q : Nat) (hcs : CSm (csF q)) (a0 : Nat) (a1 : Int32) (a2 : Int32) (m : MM) : SimK (fX6_element_b a0 a1 a2 m) (fun n => brun false (0, 0) (csF q) (lkb tX6_element) n 0 (entL 4 [aR 6 a0, aI a1, aI a2]) [] (ST0 q, m)) (kt_X6_element q) :=
  (simk_run hcs 11 []
    (simt_bindO (fun o1 =>
      (simt_ret (some (some (aL 0), (ST0 q, o1.2))) (fun _ => rfl))) (fun o1 i2 =>
      (simt_bind fun o3 =>
        (simt_ret (some (some (aL o3.1), (ST0 q, o3.2))) (fun _ => rfl)))))
  (fun _ => rfl))
noncomputable def kt_X6_holds (q : Nat) : Int32 × MM → Nat → Option Out := fun x _ => some (some (aI x.1), (ST0 q, x.2))
theorem pfX6_holds (q : Nat) (hcs : CSm (csF q)) (a0 : Nat) (a1 : Int32) (m : MM) : SimK (fX6_holds_b a0 a1 m) (fun n => brun false (0, 0) (csF q) (lkb tX6_holds) n 0 (entL 3 [aR 6 a0, aI a1]) [] (ST0 q, m)) (kt_X6_holds q) :=
  (simk_run hcs 10 []
    (simt_bindO (fun o1 =>
      (simt_ret (some (some (aI (-1)), (ST0 q, o1.2))) (fun _ => rfl))) (fun o1 i2 =>
      (simt_ret (some (some (aI (o1.2.1 1 i2 0)), (ST0 q, o1.2))) (fun _ => rfl))))
  (fun _ => rfl))
noncomputable def kt_X6_show (q : Nat) : Int32 × MM → Nat → Option Out := fun x _ => some (some (aI x.1), (ST0 q, x.2))
theorem pfX6_show_j27 (q : Nat) (hcs : CSm (csF q)) (a0 : Nat) (a2 : Int32) (z0 : Int32) (m : MM) : SimK (fX6_show_j27 a0 a2 z0 m) (fun n => brun false (0, 0) (csF q) (lkb tX6_show) n 27 [some (aR 6 a0), none, some (aI a2), some (aN), none] [aI z0] (ST0 q, m)) (kt_X6_show q) :=
  (simk_run hcs 8 []
    (simt_bind fun o3 =>
      (simt_ret (some (some (aI o3.1), (ST0 q, o3.2))) (fun _ => rfl)))
  (fun _ => rfl))
theorem pfX6_show_j22 (q : Nat) (hcs : CSm (csF q)) (a0 : Nat) (a2 : Int32) (m : MM) : SimK (fX6_show_j22 a0 a2 m) (fun n => brun false (0, 0) (csF q) (lkb tX6_show) n 22 [some (aR 6 a0), none, some (aI a2), some (aN), none] [] (ST0 q, m)) (kt_X6_show q) :=
  (simk_run hcs 3 [27]
    (simt_join hcs (.s _ (.n _ (.s _ (.s _ (.n _ .nil))))) (pfX6_show_j27 q hcs a0 a2 1 m))
  (fun _ => rfl))
theorem pfX6_show_j27_3 (q : Nat) (hcs : CSm (csF q)) (a0 : Nat) (a2 : Int32) (a3 : Nat) (z0 : Int32) (m : MM) : SimK (fX6_show_j27_3 a0 a2 a3 z0 m) (fun n => brun false (0, 0) (csF q) (lkb tX6_show) n 27 [some (aR 6 a0), none, some (aI a2), some (aR 1 a3), none] [aI z0] (ST0 q, m)) (kt_X6_show q) :=
  (simk_run hcs 16 []
    (simt_ite
      (simt_ite
        (simt_ret (some (some (aI 1), (ST0 q, ((upI m.1 1 a3 0 (10 + a2)), m.2)))) (fun _ => rfl))
        (simt_ret (some (some (aI 1), (ST0 q, ((upI m.1 1 a3 0 (-1)), m.2)))) (fun _ => rfl)))
      (simt_bind fun o6 =>
        (simt_ret (some (some (aI o6.1), (ST0 q, o6.2))) (fun _ => rfl))))
  (fun _ => rfl))
theorem pfX6_show_j22_2 (q : Nat) (hcs : CSm (csF q)) (a0 : Nat) (a2 : Int32) (a3 : Nat) (m : MM) : SimK (fX6_show_j22_2 a0 a2 a3 m) (fun n => brun false (0, 0) (csF q) (lkb tX6_show) n 22 [some (aR 6 a0), none, some (aI a2), some (aR 1 a3), none] [] (ST0 q, m)) (kt_X6_show q) :=
  (simk_run hcs 3 [27]
    (simt_join hcs (.s _ (.n _ (.s _ (.s _ (.n _ .nil))))) (pfX6_show_j27_3 q hcs a0 a2 a3 1 m))
  (fun _ => rfl))
theorem pfX6_show (q : Nat) (hcs : CSm (csF q)) (a0 : Nat) (a1 : Int32) (a2 : Int32) (m : MM) : SimK (fX6_show_b a0 a1 a2 m) (fun n => brun false (0, 0) (csF q) (lkb tX6_show) n 0 (entL 5 [aR 6 a0, aI a1, aI a2]) [] (ST0 q, m)) (kt_X6_show q) :=
  (simk_run hcs 14 [22, 27]
    (simt_bindO (fun o1 =>
      (simt_ite
        (simt_join hcs (.s _ (.n _ (.s _ (.s _ (.n _ .nil))))) (pfX6_show_j22 q hcs a0 a2 o1.2))
        (simt_bindO (fun o4 =>
          (simt_join hcs (.s _ (.n _ (.s _ (.s _ (.n _ .nil))))) (pfX6_show_j27 q hcs a0 a2 0 o4.2))) (fun o4 i5 =>
          (simt_join hcs (.s _ (.n _ (.s _ (.s _ (.n _ .nil))))) (pfX6_show_j22 q hcs a0 a2 o4.2)))))) (fun o1 i2 =>
      (simt_ite
        (simt_join hcs (.s _ (.n _ (.s _ (.s _ (.n _ .nil))))) (pfX6_show_j22_2 q hcs a0 a2 i2 o1.2))
        (simt_bindO (fun o7 =>
          (simt_join hcs (.s _ (.n _ (.s _ (.s _ (.n _ .nil))))) (pfX6_show_j27_3 q hcs a0 a2 i2 0 o7.2))) (fun o7 i8 =>
          (simt_join hcs (.s _ (.n _ (.s _ (.s _ (.n _ .nil))))) (pfX6_show_j22_2 q hcs a0 a2 i2 o7.2)))))))
  (fun _ => rfl))
noncomputable def kt_X6_isKind (q : Nat) : Bool × MM → Nat → Option Out := fun x _ => some (some (aI (bI x.1)), (ST0 q, x.2))
theorem pfX6_isKind (q : Nat) (hcs : CSm (csF q)) (a0 : Int32) (m : MM) : SimK (fX6_isKind_b a0 m) (fun n => brun false (0, 0) (csF q) (lkb tX6_isKind) n 0 (entL 1 [aI a0]) [] (ST0 q, m)) (kt_X6_isKind q) :=
  (simk_run hcs 6 []
    (simt_bind fun o1 =>
      (simt_ret (some (some (aI (bI o1.1)), (ST0 q, o1.2))) (fun _ => rfl)))
  (fun _ => rfl))
noncomputable def kt_X6_isOrIsUnder (q : Nat) : Bool × MM → Nat → Option Out := fun x _ => some (some (aI (bI x.1)), (ST0 q, x.2))
noncomputable def hfX6_isOrIsUnder_b4 (q : Nat) (a1 : Int32) (s : Int32 × Int32) (m : MM) (n : Nat) : Option Out := brun false (0, 0) (csF q) (lkb tX6_isOrIsUnder) n 4 [none, some (aI a1), some (aI s.1), some (aI s.2)] [] (ST0 q, m)
noncomputable def kxfX6_isOrIsUnder_b4 (q : Nat) (a1 : Int32) (y : ((Unit) ⊕ (Unit)) × MM) (n : Nat) : Option Out := match y.1 with
  | Sum.inl x => brun false (0, 0) (csF q) (lkb tX6_isOrIsUnder) n 36 [none, none, none, none] [] (ST0 q, y.2)
  | Sum.inr x => brun false (0, 0) (csF q) (lkb tX6_isOrIsUnder) n 22 [none, none, none, none] [] (ST0 q, y.2)
theorem pfX6_isOrIsUnder_b4 (q : Nat) (hcs : CSm (csF q)) (a1 : Int32) (s : Int32 × Int32) (m : MM) : SimK (fX6_isOrIsUnder_b4 a1 s m) (hfX6_isOrIsUnder_b4 q a1 s m) (lpK (hfX6_isOrIsUnder_b4 q a1) (kxfX6_isOrIsUnder_b4 q a1)) :=
  (simk_run hcs 16 [4, 22, 36]
    (simt_ite
      (simt_go hcs (.n _ (.n _ (.n _ (.n _ .nil)))) (fun _ => rfl))
      (simt_bind fun o1 =>
        (simt_ite
          (simt_go hcs (.n _ (.n _ (.n _ (.n _ .nil)))) (fun _ => rfl))
          (simt_ite
            (simt_bif
              (simt_go hcs (.n _ (.s _ (.s _ (.s _ .nil)))) (fun _ => rfl)))
            (simt_go hcs (.n _ (.n _ (.n _ (.n _ .nil)))) (fun _ => rfl))))))
  (fun _ => rfl))
theorem pfX6_isOrIsUnder_b4_l (q : Nat) (hcs : CSm (csF q)) (a1 : Int32) (s : Int32 × Int32) (m : MM) : SimK (loopF 1000 (fX6_isOrIsUnder_b4 a1) s m) (hfX6_isOrIsUnder_b4 q a1 s m) (kxfX6_isOrIsUnder_b4 q a1) :=
  simk_loopF (fun s m => pfX6_isOrIsUnder_b4 q hcs a1 s m) 1000 s m
theorem pfX6_isOrIsUnder (q : Nat) (hcs : CSm (csF q)) (a0 : Int32) (a1 : Int32) (m : MM) : SimK (fX6_isOrIsUnder_b a0 a1 m) (fun n => brun false (0, 0) (csF q) (lkb tX6_isOrIsUnder) n 0 (entL 4 [aI a0, aI a1]) [] (ST0 q, m)) (kt_X6_isOrIsUnder q) :=
  (simk_run hcs 5 [4]
    (simt_loop hcs (.n _ (.s _ (.s _ (.s _ .nil)))) (pfX6_isOrIsUnder_b4_l q hcs a1 (a0, 0) m) (fun o2 => by
      obtain ⟨o2x, o2m⟩ := o2
      rcases o2x with x3 | x4
      · exact
        (simk_run hcs 3 []
          (simt_ret (some (some (aI 0), (ST0 q, o2m))) (fun _ => rfl))
        (fun _ => rfl))
      · exact
        (simk_run hcs 3 []
          (simt_ret (some (some (aI 1), (ST0 q, o2m))) (fun _ => rfl))
        (fun _ => rfl))))
  (fun _ => rfl))
noncomputable def kt_X6_says (q : Nat) : Int32 × MM → Nat → Option Out := fun x _ => some (some (aI x.1), (ST0 q, x.2))
theorem pfX6_says (q : Nat) (hcs : CSm (csF q)) (a0 : Nat) (a1 : Int32) (a2 : Int32) (m : MM) : SimK (fX6_says_b a0 a1 a2 m) (fun n => brun false (0, 0) (csF q) (lkb tX6_says) n 0 (entL 5 [aR 6 a0, aI a1, aI a2]) [] (ST0 q, m)) (kt_X6_says q) :=
  (simk_run hcs 41 []
    (simt_bindO (fun o1 =>
      (simt_bind fun o3 =>
        (simt_ret (some (some (aI o3.1), (ST0 q, o3.2))) (fun _ => rfl)))) (fun o1 i2 =>
      (simt_bind fun o4 =>
        (simt_ite
          (simt_bind fun o5 =>
            (simt_ite
              (simt_bind fun o6 =>
                (simt_ite
                  (simt_bindO (fun o7 =>
                    (simt_bind fun o9 =>
                      (simt_ret (some (some (aI o9.1), (ST0 q, o9.2))) (fun _ => rfl)))) (fun o7 i8 =>
                    (simt_bind fun o10 =>
                      (simt_ite
                        (simt_ite
                          (simt_bind fun o11 =>
                            (simt_ret (some (some (aI o11.1), (ST0 q, o11.2))) (fun _ => rfl)))
                          (simt_ret (some (some (aI (o10.2.1 0 i8 2)), (ST0 q, o10.2))) (fun _ => rfl)))
                        (simt_bind fun o12 =>
                          (simt_ret (some (some (aI o12.1), (ST0 q, o12.2))) (fun _ => rfl)))))))
                  (simt_bind fun o13 =>
                    (simt_ret (some (some (aI o13.1), (ST0 q, o13.2))) (fun _ => rfl)))))
              (simt_bind fun o14 =>
                (simt_ret (some (some (aI o14.1), (ST0 q, o14.2))) (fun _ => rfl)))))
          (simt_bind fun o15 =>
            (simt_ret (some (some (aI o15.1), (ST0 q, o15.2))) (fun _ => rfl)))))))
  (fun _ => rfl))
noncomputable def kt_X6_paves (q : Nat) : Int32 × MM → Nat → Option Out := fun x _ => some (some (aI x.1), (ST0 q, x.2))
theorem pfX6_paves (q : Nat) (hcs : CSm (csF q)) (a0 : Nat) (a1 : Int32) (m : MM) : SimK (fX6_paves_b a0 a1 m) (fun n => brun false (0, 0) (csF q) (lkb tX6_paves) n 0 (entL 3 [aR 6 a0, aI a1]) [] (ST0 q, m)) (kt_X6_paves q) :=
  (simk_run hcs 18 []
    (simt_bind fun o1 =>
      (simt_ite
        (simt_ret (some (some (aI (o1.2.1 5 0 0)), (ST0 q, ((upI o1.2.1 5 0 0 a1), o1.2.2)))) (fun _ => rfl))
        (simt_bind fun o2 =>
          (simt_ret (some (some (aI o2.1), (ST0 q, o2.2))) (fun _ => rfl)))))
  (fun _ => rfl))
noncomputable def kt_X6_walker (q : Nat) : Int32 × MM → Nat → Option Out := fun x _ => some (some (aI x.1), (ST0 q, x.2))
theorem pfX6_walker (q : Nat) (hcs : CSm (csF q)) (a0 : Nat) (a1 : Int32) (a2 : Int32) (a3 : Int32) (m : MM) : SimK (fX6_walker_b a0 a1 a2 a3 m) (fun n => brun false (0, 0) (csF q) (lkb tX6_walker) n 0 (entL 4 [aR 6 a0, aI a1, aI a2, aI a3]) [] (ST0 q, m)) (kt_X6_walker q) :=
  (simk_run hcs 27 []
    (simt_bind fun o1 =>
      (simt_ite
        (simt_bind fun o2 =>
          (simt_ret (some (some (aI o2.1), (ST0 q, o2.2))) (fun _ => rfl)))
        (simt_bind fun o3 =>
          (simt_ite
            (simt_bind fun o4 =>
              (simt_ret (some (some (aI o4.1), (ST0 q, o4.2))) (fun _ => rfl)))
            (simt_bind fun o5 =>
              (simt_ite
                (simt_bind fun o6 =>
                  (simt_ite
                    (simt_bind fun o7 =>
                      (simt_ret (some (some (aI o7.1), (ST0 q, o7.2))) (fun _ => rfl)))
                    (simt_bind fun o8 =>
                      (simt_ret (some (some (aI o8.1), (ST0 q, o8.2))) (fun _ => rfl)))))
                (simt_bind fun o9 =>
                  (simt_ret (some (some (aI o9.1), (ST0 q, o9.2))) (fun _ => rfl)))))))))
  (fun _ => rfl))
noncomputable def kt_X6_sends (q : Nat) : Int32 × MM → Nat → Option Out := fun x _ => some (some (aI x.1), (ST0 q, x.2))
theorem pfX6_sends_j58 (q : Nat) (hcs : CSm (csF q)) (a0 : Nat) (a2 : Int32) (a3 : Int32) (a4 : Nat) (z0 : Int32) (m : MM) : SimK (fX6_sends_j58 a0 a2 a3 a4 z0 m) (fun n => brun false (0, 0) (csF q) (lkb tX6_sends) n 58 [some (aR 6 a0), none, some (aI a2), some (aI a3), some (aR 4 a4), none, none] [aI z0] (ST0 q, m)) (kt_X6_sends q) :=
  (simk_run hcs 22 []
    (simt_bind fun o5 =>
      (simt_ite
        (simt_bind fun o6 =>
          (simt_ite
            (simt_ite
              (simt_ret (some (some (aI o6.1), (ST0 q, ((upI o6.2.1 4 a4 2 a3), o6.2.2)))) (fun _ => rfl))
              (simt_ret (some (some (aI o6.1), (ST0 q, ((upI o6.2.1 4 a4 1 a3), o6.2.2)))) (fun _ => rfl)))
            (simt_ret (some (some (aI o6.1), (ST0 q, ((upI o6.2.1 4 a4 0 a3), o6.2.2)))) (fun _ => rfl))))
        (simt_bind fun o7 =>
          (simt_ret (some (some (aI o7.1), (ST0 q, o7.2))) (fun _ => rfl)))))
  (fun _ => rfl))
theorem pfX6_sends (q : Nat) (hcs : CSm (csF q)) (a0 : Nat) (a1 : Int32) (a2 : Int32) (a3 : Int32) (m : MM) : SimK (fX6_sends_b a0 a1 a2 a3 m) (fun n => brun false (0, 0) (csF q) (lkb tX6_sends) n 0 (entL 7 [aR 6 a0, aI a1, aI a2, aI a3]) [] (ST0 q, m)) (kt_X6_sends q) :=
  (simk_run hcs 21 [58]
    (simt_bindO (fun o1 =>
      (simt_bind fun o3 =>
        (simt_ret (some (some (aI o3.1), (ST0 q, o3.2))) (fun _ => rfl)))) (fun o1 i2 =>
      (simt_bind fun o4 =>
        (simt_ite
          (simt_ite
            (simt_ite
              (simt_join hcs (.s _ (.n _ (.s _ (.s _ (.s _ (.n _ (.n _ .nil))))))) (pfX6_sends_j58 q hcs a0 a2 a3 i2 1 o4.2))
              (simt_join hcs (.s _ (.n _ (.s _ (.s _ (.s _ (.n _ (.n _ .nil))))))) (pfX6_sends_j58 q hcs a0 a2 a3 i2 3 o4.2)))
            (simt_join hcs (.s _ (.n _ (.s _ (.s _ (.s _ (.n _ (.n _ .nil))))))) (pfX6_sends_j58 q hcs a0 a2 a3 i2 ((o4.2.1 5 0 0) - 1) o4.2)))
          (simt_bind fun o8 =>
            (simt_ret (some (some (aI o8.1), (ST0 q, o8.2))) (fun _ => rfl)))))))
  (fun _ => rfl))
noncomputable def kt_X6_current (q : Nat) : Int32 × MM → Nat → Option Out := fun x _ => some (some (aI x.1), (ST0 q, x.2))
theorem pfX6_current (q : Nat) (hcs : CSm (csF q)) (a0 : Nat) (a1 : Int32) (a2 : Int32) (m : MM) : SimK (fX6_current_b a0 a1 a2 m) (fun n => brun false (0, 0) (csF q) (lkb tX6_current) n 0 (entL 4 [aR 6 a0, aI a1, aI a2]) [] (ST0 q, m)) (kt_X6_current q) :=
  (simk_run hcs 23 []
    (simt_bind fun o1 =>
      (simt_ite
        (simt_bind fun o2 =>
          (simt_ret (some (some (aI o2.1), (ST0 q, o2.2))) (fun _ => rfl)))
        (simt_bind fun o3 =>
          (simt_ite
            (simt_bind fun o4 =>
              (simt_bind fun o5 =>
                (simt_ret (some (some (aI o4.1), (ST0 q, o5.2))) (fun _ => rfl))))
            (simt_bind fun o6 =>
              (simt_ret (some (some (aI o6.1), (ST0 q, o6.2))) (fun _ => rfl)))))))
  (fun _ => rfl))
noncomputable def kt_X6_tell (q : Nat) : Int32 × MM → Nat → Option Out := fun x _ => some (some (aI x.1), (ST0 q, x.2))
theorem pfX6_tell_j31 (q : Nat) (hcs : CSm (csF q)) (a0 : Nat) (a1 : Int32) (a2 : Int32) (m : MM) : SimK (fX6_tell_j31 a0 a1 a2 m) (fun n => brun false (0, 0) (csF q) (lkb tX6_tell) n 31 [some (aR 6 a0), some (aI a1), some (aI a2), none] [] (ST0 q, m)) (kt_X6_tell q) :=
  (simk_run hcs 19 []
    (simt_ite
      (simt_bind fun o1 =>
        (simt_ret (some (some (aI o1.1), (ST0 q, o1.2))) (fun _ => rfl)))
      (simt_bind fun o2 =>
        (simt_ite
          (simt_bind fun o3 =>
            (simt_ret (some (some (aI o3.1), (ST0 q, o3.2))) (fun _ => rfl)))
          (simt_ret (some (some (aI (o2.2.1 5 0 2)), (ST0 q, ((upI o2.2.1 5 0 2 a2), o2.2.2)))) (fun _ => rfl)))))
  (fun _ => rfl))
theorem pfX6_tell (q : Nat) (hcs : CSm (csF q)) (a0 : Nat) (a1 : Int32) (a2 : Int32) (m : MM) : SimK (fX6_tell_b a0 a1 a2 m) (fun n => brun false (0, 0) (csF q) (lkb tX6_tell) n 0 (entL 4 [aR 6 a0, aI a1, aI a2]) [] (ST0 q, m)) (kt_X6_tell q) :=
  (simk_run hcs 18 [31]
    (simt_ite
      (simt_join hcs (.s _ (.s _ (.s _ (.n _ .nil)))) (pfX6_tell_j31 q hcs a0 a1 a2 m))
      (simt_bind fun o4 =>
        (simt_ite
          (simt_join hcs (.s _ (.s _ (.s _ (.n _ .nil)))) (pfX6_tell_j31 q hcs a0 a1 a2 o4.2))
          (simt_ret (some (some (aI (o4.2.1 5 0 1)), (ST0 q, ((upI o4.2.1 5 0 1 a2), o4.2.2)))) (fun _ => rfl)))))
  (fun _ => rfl))
noncomputable def kt_X6_feed (q : Nat) : Int32 × MM → Nat → Option Out := fun x _ => some (some (aI x.1), (ST0 q, x.2))
theorem pfX6_feed (q : Nat) (hcs : CSm (csF q)) (a0 : Nat) (a1 : Int32) (m : MM) : SimK (fX6_feed_b a0 a1 m) (fun n => brun false (0, 0) (csF q) (lkb tX6_feed) n 0 (entL 2 [aR 6 a0, aI a1]) [] (ST0 q, m)) (kt_X6_feed q) :=
  (simk_run hcs 15 []
    (simt_bind fun o1 =>
      (simt_ite
        (simt_bind fun o2 =>
          (simt_ite
            (simt_bind fun o3 =>
              (simt_ret (some (some (aI o3.1), (ST0 q, o3.2))) (fun _ => rfl)))
            (simt_bind fun o4 =>
              (simt_ret (some (some (aI o4.1), (ST0 q, o4.2))) (fun _ => rfl)))))
        (simt_bind fun o5 =>
          (simt_ret (some (some (aI o5.1), (ST0 q, o5.2))) (fun _ => rfl)))))
  (fun _ => rfl))
noncomputable def kt_X6_wipe (q : Nat) : Int32 × MM → Nat → Option Out := fun x _ => some (some (aI x.1), (ST0 q, x.2))
theorem pfX6_wipe (q : Nat) (hcs : CSm (csF q)) (a0 : Nat) (m : MM) : SimK (fX6_wipe_b a0 m) (fun n => brun false (0, 0) (csF q) (lkb tX6_wipe) n 0 (entL 2 [aR 6 a0]) [] (ST0 q, m)) (kt_X6_wipe q) :=
  (simk_run hcs 11 []
    (simt_ret (some (some (aI (m.1 2 0 0)), (ST0 q, ((upI m.1 2 0 0 0), m.2)))) (fun _ => rfl))
  (fun _ => rfl))
noncomputable def kt_X6_coast (q : Nat) : Int32 × MM → Nat → Option Out := fun x _ => some (some (aI x.1), (ST0 q, x.2))
theorem pfX6_coast (q : Nat) (hcs : CSm (csF q)) (a0 : Nat) (m : MM) : SimK (fX6_coast_b a0 m) (fun n => brun false (0, 0) (csF q) (lkb tX6_coast) n 0 (entL 2 [aR 6 a0]) [] (ST0 q, m)) (kt_X6_coast q) :=
  (simk_run hcs 29 []
    (simt_bind fun o1 =>
      (simt_bind fun o2 =>
        (simt_ite
          (simt_bind fun o3 =>
            (simt_ret (some (some (aI o2.1), (ST0 q, o3.2))) (fun _ => rfl)))
          (simt_bind fun o4 =>
            (simt_ret (some (some (aI ((-2000) - (o4.2.1 2 0 1))), (ST0 q, o4.2))) (fun _ => rfl))))))
  (fun _ => rfl))
noncomputable def kt_X6_bottleOf (q : Nat) : Int32 × MM → Nat → Option Out := fun x _ => some (some (aI x.1), (ST0 q, x.2))
theorem pfX6_bottleOf (q : Nat) (hcs : CSm (csF q)) (a0 : Nat) (a1 : Int32) (a2 : Int32) (m : MM) : SimK (fX6_bottleOf_b a0 a1 a2 m) (fun n => brun false (0, 0) (csF q) (lkb tX6_bottleOf) n 0 (entL 4 [aR 6 a0, aI a1, aI a2]) [] (ST0 q, m)) (kt_X6_bottleOf q) :=
  (simk_run hcs 17 []
    (simt_bindO (fun o1 =>
      (simt_bind fun o3 =>
        (simt_ret (some (some (aI o3.1), (ST0 q, o3.2))) (fun _ => rfl)))) (fun o1 i2 =>
      (simt_bind fun o4 =>
        (simt_ite
          (simt_bind fun o5 =>
            (simt_ret (some (some (aI o5.1), (ST0 q, o5.2))) (fun _ => rfl)))
          (simt_bind fun o6 =>
            (simt_ret (some (some (aI o6.1), (ST0 q, o6.2))) (fun _ => rfl)))))))
  (fun _ => rfl))
noncomputable def kt_X6_walkerOf (q : Nat) : Int32 × MM → Nat → Option Out := fun x _ => some (some (aI x.1), (ST0 q, x.2))
theorem pfX6_walkerOf (q : Nat) (hcs : CSm (csF q)) (a0 : Nat) (a1 : Int32) (a2 : Int32) (m : MM) : SimK (fX6_walkerOf_b a0 a1 a2 m) (fun n => brun false (0, 0) (csF q) (lkb tX6_walkerOf) n 0 (entL 4 [aR 6 a0, aI a1, aI a2]) [] (ST0 q, m)) (kt_X6_walkerOf q) :=
  (simk_run hcs 22 []
    (simt_bindO (fun o1 =>
      (simt_bind fun o3 =>
        (simt_ret (some (some (aI o3.1), (ST0 q, o3.2))) (fun _ => rfl)))) (fun o1 i2 =>
      (simt_bind fun o4 =>
        (simt_ite
          (simt_ite
            (simt_bind fun o5 =>
              (simt_ret (some (some (aI o5.1), (ST0 q, o5.2))) (fun _ => rfl)))
            (simt_bind fun o6 =>
              (simt_ret (some (some (aI o6.1), (ST0 q, o6.2))) (fun _ => rfl))))
          (simt_bind fun o7 =>
            (simt_ret (some (some (aI o7.1), (ST0 q, o7.2))) (fun _ => rfl)))))))
  (fun _ => rfl))
noncomputable def kt_X6_currentAt (q : Nat) : Int32 × MM → Nat → Option Out := fun x _ => some (some (aI x.1), (ST0 q, x.2))
theorem pfX6_currentAt (q : Nat) (hcs : CSm (csF q)) (a0 : Nat) (a1 : Int32) (m : MM) : SimK (fX6_currentAt_b a0 a1 m) (fun n => brun false (0, 0) (csF q) (lkb tX6_currentAt) n 0 (entL 2 [aR 6 a0, aI a1]) [] (ST0 q, m)) (kt_X6_currentAt q) :=
  (simk_run hcs 12 []
    (simt_bind fun o1 =>
      (simt_ite
        (simt_bind fun o2 =>
          (simt_ret (some (some (aI o2.1), (ST0 q, o2.2))) (fun _ => rfl)))
        (simt_bind fun o3 =>
          (simt_ret (some (some (aI o3.1), (ST0 q, o3.2))) (fun _ => rfl)))))
  (fun _ => rfl))
noncomputable def kt_X6_ahead (q : Nat) : Int32 × MM → Nat → Option Out := fun x _ => some (some (aI x.1), (ST0 q, x.2))
theorem pfX6_ahead (q : Nat) (hcs : CSm (csF q)) (a0 : Nat) (a1 : Int32) (a2 : Int32) (a3 : Int32) (m : MM) : SimK (fX6_ahead_b a0 a1 a2 a3 m) (fun n => brun false (0, 0) (csF q) (lkb tX6_ahead) n 0 (entL 5 [aR 6 a0, aI a1, aI a2, aI a3]) [] (ST0 q, m)) (kt_X6_ahead q) :=
  (simk_run hcs 38 []
    (simt_bindO (fun o1 =>
      (simt_bind fun o3 =>
        (simt_ret (some (some (aI o3.1), (ST0 q, o3.2))) (fun _ => rfl)))) (fun o1 i2 =>
      (simt_bind fun o4 =>
        (simt_ite
          (simt_bind fun o5 =>
            (simt_ret (some (some (aI o5.1), (ST0 q, o5.2))) (fun _ => rfl)))
          (simt_bind fun o6 =>
            (simt_ite
              (simt_bindO (fun o7 =>
                (simt_bind fun o9 =>
                  (simt_ite
                    (simt_bind fun o10 =>
                      (simt_ret (some (some (aI o10.1), (ST0 q, o10.2))) (fun _ => rfl)))
                    (simt_bind fun o11 =>
                      (simt_ret (some (some (aI o11.1), (ST0 q, o11.2))) (fun _ => rfl)))))) (fun o7 i8 =>
                (simt_bind fun o12 =>
                  (simt_ite
                    (simt_bind fun o13 =>
                      (simt_ret (some (some (aI o13.1), (ST0 q, o13.2))) (fun _ => rfl)))
                    (simt_bind fun o14 =>
                      (simt_ret (some (some (aI o14.1), (ST0 q, o14.2))) (fun _ => rfl)))))))
              (simt_bind fun o15 =>
                (simt_ret (some (some (aI o15.1), (ST0 q, o15.2))) (fun _ => rfl)))))))))
  (fun _ => rfl))
