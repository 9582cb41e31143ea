/-! THE FUNCTIONS ARE THE RUNS, 6 -/
set_option maxRecDepth 20000
set_option maxHeartbeats 4000000
noncomputable def kt_X7_tough (q : Nat) : Int32 × MM → Nat → Option Out := fun x _ => some (some (aI x.1), (ST0 q, x.2))
theorem pfX7_tough (q : Nat) (hcs : CSm (csF q)) (a0 : Nat) (a1 : Int32) (m : MM) : SimK (fX7_tough_b a0 a1 m) (fun n => brun false (0, 0) (csF q) (lkb tX7_tough) n 0 (entL 2 [aR 7 a0, aI a1]) [] (ST0 q, m)) (kt_X7_tough q) :=
  (simk_run hcs 15 []
    (simt_bif
      (simt_ite
        (simt_ret (some (some (aI 5), (ST0 q, m))) (fun _ => rfl))
        (simt_ite
          (simt_ret (some (some (aI 4), (ST0 q, m))) (fun _ => rfl))
          (simt_ite
            (simt_ret (some (some (aI 5), (ST0 q, m))) (fun _ => rfl))
            (simt_ite
              (simt_bif
                (simt_ret (some (some (aI (4 + ((m.1 53 0 a1.toNatClampNeg) / 3))), (ST0 q, m))) (fun _ => rfl)))
              (simt_ite
                (simt_ret (some (some (aI 99), (ST0 q, m))) (fun _ => rfl))
                (simt_ret (some (some (aI 3), (ST0 q, m))) (fun _ => rfl))))))))
  (fun _ => rfl))
noncomputable def kt_X7_bottleOf (q : Nat) : Int32 × MM → Nat → Option Out := fun x _ => some (some (aI x.1), (ST0 q, x.2))
theorem pfX7_bottleOf (q : Nat) (hcs : CSm (csF q)) (a0 : Nat) (a1 : Int32) (a2 : Int32) (m : MM) : SimK (fX7_bottleOf_b a0 a1 a2 m) (fun n => brun false (0, 0) (csF q) (lkb tX7_bottleOf) n 0 (entL 3 [aR 7 a0, aI a1, aI a2]) [] (ST0 q, m)) (kt_X7_bottleOf q) :=
  (simk_run hcs 12 []
    (simt_bind fun o1 =>
      (simt_ite
        (simt_ite
          (simt_bif
            (simt_ret (some (some (aI (o1.2.1 52 0 a1.toNatClampNeg)), (ST0 q, o1.2))) (fun _ => rfl)))
          (simt_ite
            (simt_bif
              (simt_ret (some (some (aI (o1.2.1 53 0 a1.toNatClampNeg)), (ST0 q, o1.2))) (fun _ => rfl)))
            (simt_ite
              (simt_bif
                (simt_ret (some (some (aI (o1.2.1 54 0 a1.toNatClampNeg)), (ST0 q, o1.2))) (fun _ => rfl)))
              (simt_ite
                (simt_bif
                  (simt_ret (some (some (aI (o1.2.1 55 0 a1.toNatClampNeg)), (ST0 q, o1.2))) (fun _ => rfl)))
                (simt_ite
                  (simt_bif
                    (simt_ret (some (some (aI (o1.2.1 56 0 a1.toNatClampNeg)), (ST0 q, o1.2))) (fun _ => rfl)))
                  (simt_ite
                    (simt_bind fun o3 =>
                      (simt_ret (some (some (aI o3.1), (ST0 q, o3.2))) (fun _ => rfl)))
                    (simt_bind fun o2 =>
                      (simt_ret (some (some (aI o2.1), (ST0 q, o2.2))) (fun _ => rfl)))))))))
        (simt_bind fun o4 =>
          (simt_ret (some (some (aI o4.1), (ST0 q, o4.2))) (fun _ => rfl)))))
  (fun _ => rfl))
noncomputable def kt_X7_forHim (q : Nat) : Int32 × MM → Nat → Option Out := fun x _ => some (some (aI x.1), (ST0 q, x.2))
noncomputable def hfX7_forHim_b4 (q : Nat) (a0 : Nat) (a1 : Int32) (s : Int32 × Int32) (m : MM) (n : Nat) : Option Out := brun false (0, 0) (csF q) (lkb tX7_forHim) n 4 [some (aR 7 a0), some (aI a1), some (aI s.1), some (aI s.2)] [] (ST0 q, m)
noncomputable def kxfX7_forHim_b4 (q : Nat) (a0 : Nat) (a1 : Int32) (y : (Int32) × MM) (n : Nat) : Option Out := brun false (0, 0) (csF q) (lkb tX7_forHim) n 34 [none, none, some (aI y.1), none] [] (ST0 q, y.2)
theorem pfX7_forHim_b4 (q : Nat) (hcs : CSm (csF q)) (a0 : Nat) (a1 : Int32) (s : Int32 × Int32) (m : MM) : SimK (fX7_forHim_b4 a0 a1 s m) (hfX7_forHim_b4 q a0 a1 s m) (lpK (hfX7_forHim_b4 q a0 a1) (kxfX7_forHim_b4 q a0 a1)) :=
  (simk_run hcs 19 [4, 34]
    (simt_ite
      (simt_go hcs (.n _ (.n _ (.s _ (.n _ .nil)))) (fun _ => rfl))
      (simt_bif
        (simt_ite
          (simt_go hcs (.s _ (.s _ (.s _ (.s _ .nil)))) (fun _ => rfl))
          (simt_go hcs (.s _ (.s _ (.s _ (.s _ .nil)))) (fun _ => rfl)))))
  (fun _ => rfl))
theorem pfX7_forHim_b4_l (q : Nat) (hcs : CSm (csF q)) (a0 : Nat) (a1 : Int32) (s : Int32 × Int32) (m : MM) : SimK (loopF 1000 (fX7_forHim_b4 a0 a1) s m) (hfX7_forHim_b4 q a0 a1 s m) (kxfX7_forHim_b4 q a0 a1) :=
  simk_loopF (fun s m => pfX7_forHim_b4 q hcs a0 a1 s m) 1000 s m
theorem pfX7_forHim (q : Nat) (hcs : CSm (csF q)) (a0 : Nat) (a1 : Int32) (m : MM) : SimK (fX7_forHim_b a0 a1 m) (fun n => brun false (0, 0) (csF q) (lkb tX7_forHim) n 0 (entL 4 [aR 7 a0, aI a1]) [] (ST0 q, m)) (kt_X7_forHim q) :=
  (simk_run hcs 5 [4]
    (simt_loop hcs (.s _ (.s _ (.s _ (.s _ .nil)))) (pfX7_forHim_b4_l q hcs a0 a1 (0, 0) m) (fun o1 => 
      (simk_run hcs 3 []
        (simt_ret (some (some (aI o1.1), (ST0 q, o1.2))) (fun _ => rfl))
      (fun _ => rfl))))
  (fun _ => rfl))
noncomputable def kt_X7_walkerOf (q : Nat) : Int32 × MM → Nat → Option Out := fun x _ => some (some (aI x.1), (ST0 q, x.2))
theorem pfX7_walkerOf (q : Nat) (hcs : CSm (csF q)) (a0 : Nat) (a1 : Int32) (a2 : Int32) (m : MM) : SimK (fX7_walkerOf_b a0 a1 a2 m) (fun n => brun false (0, 0) (csF q) (lkb tX7_walkerOf) n 0 (entL 3 [aR 7 a0, aI a1, aI a2]) [] (ST0 q, m)) (kt_X7_walkerOf q) :=
  (simk_run hcs 22 []
    (simt_bind fun o1 =>
      (simt_ite
        (simt_bind fun o2 =>
          (simt_ret (some (some (aI o2.1), (ST0 q, o2.2))) (fun _ => rfl)))
        (simt_bind fun o3 =>
          (simt_ite
            (simt_ite
              (simt_bif
                (simt_ret (some (some (aI (o3.2.1 57 0 ((6 * a2) + a1).toNatClampNeg)), (ST0 q, o3.2))) (fun _ => rfl)))
              (simt_bind fun o4 =>
                (simt_ret (some (some (aI o4.1), (ST0 q, o4.2))) (fun _ => rfl))))
            (simt_bind fun o5 =>
              (simt_ret (some (some (aI o5.1), (ST0 q, o5.2))) (fun _ => rfl)))))))
  (fun _ => rfl))
noncomputable def kt_X7_currentAt (q : Nat) : Int32 × MM → Nat → Option Out := fun x _ => some (some (aI x.1), (ST0 q, x.2))
theorem pfX7_currentAt (q : Nat) (hcs : CSm (csF q)) (a0 : Nat) (a1 : Int32) (m : MM) : SimK (fX7_currentAt_b a0 a1 m) (fun n => brun false (0, 0) (csF q) (lkb tX7_currentAt) n 0 (entL 2 [aR 7 a0, aI a1]) [] (ST0 q, m)) (kt_X7_currentAt q) :=
  (simk_run hcs 11 []
    (simt_bind fun o1 =>
      (simt_ite
        (simt_bind fun o2 =>
          (simt_ret (some (some (aI o2.1), (ST0 q, o2.2))) (fun _ => rfl)))
        (simt_bif
          (simt_ret (some (some (aI (o1.2.1 50 0 a1.toNatClampNeg)), (ST0 q, o1.2))) (fun _ => rfl)))))
  (fun _ => rfl))
noncomputable def kt_X7_drifts (q : Nat) : Unit × MM → Nat → Option Out := fun x _ => some (none, (ST0 q, x.2))
theorem pfX7_drifts (q : Nat) (hcs : CSm (csF q)) (a0 : Nat) (a1 : Int32) (m : MM) : SimK (fX7_drifts_b a0 a1 m) (fun n => brun false (0, 0) (csF q) (lkb tX7_drifts) n 0 (entL 3 [aR 7 a0, aI a1]) [] (ST0 q, m)) (kt_X7_drifts q) :=
  (simk_run hcs 34 []
    (simt_bif
      (simt_ite
        (simt_bind fun o1 =>
          (simt_bind fun o2 =>
            (simt_ite
              (simt_bif
                (simt_bif
                  (simt_ret (some (none, (ST0 q, ((upI o2.2.1 54 0 a1.toNatClampNeg (mxI 0 (mnI ((o2.2.1 7 a0 0) - 1) ((o2.2.1 54 0 a1.toNatClampNeg) + o1.1)))), o2.2.2)))) (fun _ => rfl))))
              (simt_bif
                (simt_ret (some (none, (ST0 q, ((upI o2.2.1 56 0 a1.toNatClampNeg 2), o2.2.2)))) (fun _ => rfl))))))
        (simt_ret (some (none, (ST0 q, m))) (fun _ => rfl))))
  (fun _ => rfl))
noncomputable def kt_X7_steps (q : Nat) : Unit × MM → Nat → Option Out := fun x _ => some (none, (ST0 q, x.2))
noncomputable def hfX7_steps_b2 (q : Nat) (a0 : Nat) (a1 : Int32) (s : Int32) (m : MM) (n : Nat) : Option Out := brun false (0, 0) (csF q) (lkb tX7_steps) n 2 [some (aR 7 a0), some (aI a1), some (aI s), none] [] (ST0 q, m)
noncomputable def kxfX7_steps_b2 (q : Nat) (a0 : Nat) (a1 : Int32) (y : (Unit) × MM) (n : Nat) : Option Out := brun false (0, 0) (csF q) (lkb tX7_steps) n 106 [none, none, none, none] [] (ST0 q, y.2)
theorem pfX7_steps_j38 (q : Nat) (hcs : CSm (csF q)) (a0 : Nat) (a1 : Int32) (a2 : Int32) (z0 : Int32) (z1 : Int32) (m : MM) : SimK (fX7_steps_j38 a0 a1 a2 z0 z1 m) (fun n => brun false (0, 0) (csF q) (lkb tX7_steps) n 38 [some (aR 7 a0), some (aI a1), some (aI a2), none] [aI z1, aI z0] (ST0 q, m)) (lpK (hfX7_steps_b2 q a0 a1) (kxfX7_steps_b2 q a0 a1)) :=
  (simk_run hcs 43 [2]
    (simt_bind fun o1 =>
      (simt_ite
        (simt_bif
          (simt_go hcs (.s _ (.s _ (.s _ (.n _ .nil)))) (fun _ => rfl)))
        (simt_bif
          (simt_bif
            (simt_bif
              (simt_bif
                (simt_ite
                  (simt_bif
                    (simt_go hcs (.s _ (.s _ (.s _ (.n _ .nil)))) (fun _ => rfl)))
                  (simt_bif
                    (simt_go hcs (.s _ (.s _ (.s _ (.n _ .nil)))) (fun _ => rfl))))))))))
  (fun _ => rfl))
theorem pfX7_steps_b2 (q : Nat) (hcs : CSm (csF q)) (a0 : Nat) (a1 : Int32) (s : Int32) (m : MM) : SimK (fX7_steps_b2 a0 a1 s m) (hfX7_steps_b2 q a0 a1 s m) (lpK (hfX7_steps_b2 q a0 a1) (kxfX7_steps_b2 q a0 a1)) :=
  (simk_run hcs 22 [38, 106]
    (simt_bif
      (simt_ite
        (simt_go hcs (.n _ (.n _ (.n _ (.n _ .nil)))) (fun _ => rfl))
        (simt_bif
          (simt_bif
            (simt_ite
              (simt_join hcs (.s _ (.s _ (.s _ (.n _ .nil)))) (pfX7_steps_j38 q hcs a0 a1 s (m.1 57 0 a1.toNatClampNeg) (-1) m))
              (simt_join hcs (.s _ (.s _ (.s _ (.n _ .nil)))) (pfX7_steps_j38 q hcs a0 a1 s (m.1 57 0 a1.toNatClampNeg) 1 m)))))))
  (fun _ => rfl))
theorem pfX7_steps_b2_l (q : Nat) (hcs : CSm (csF q)) (a0 : Nat) (a1 : Int32) (s : Int32) (m : MM) : SimK (loopF 1000 (fX7_steps_b2 a0 a1) s m) (hfX7_steps_b2 q a0 a1 s m) (kxfX7_steps_b2 q a0 a1) :=
  simk_loopF (fun s m => pfX7_steps_b2 q hcs a0 a1 s m) 1000 s m
theorem pfX7_steps (q : Nat) (hcs : CSm (csF q)) (a0 : Nat) (a1 : Int32) (m : MM) : SimK (fX7_steps_b a0 a1 m) (fun n => brun false (0, 0) (csF q) (lkb tX7_steps) n 0 (entL 4 [aR 7 a0, aI a1]) [] (ST0 q, m)) (kt_X7_steps q) :=
  (simk_run hcs 3 [2]
    (simt_loop hcs (.s _ (.s _ (.s _ (.n _ .nil)))) (pfX7_steps_b2_l q hcs a0 a1 0 m) (fun o2 => 
      (simk_run hcs 2 []
        (simt_ret (some (none, (ST0 q, o2.2))) (fun _ => rfl))
      (fun _ => rfl))))
  (fun _ => rfl))
noncomputable def kt_X7_passes (q : Nat) : Int32 × MM → Nat → Option Out := fun x _ => some (some (aI x.1), (ST0 q, x.2))
noncomputable def hfX7_passes_b4 (q : Nat) (a0 : Nat) (a1 : Int32) (a2 : Int32) (s : Int32) (m : MM) (n : Nat) : Option Out := brun false (0, 0) (csF q) (lkb tX7_passes) n 4 [some (aR 7 a0), some (aI a1), some (aI a2), some (aI s)] [] (ST0 q, m)
noncomputable def kxfX7_passes_b4 (q : Nat) (a0 : Nat) (a1 : Int32) (a2 : Int32) (y : (Unit) × MM) (n : Nat) : Option Out := brun false (0, 0) (csF q) (lkb tX7_passes) n 20 [some (aR 7 a0), some (aI a1), some (aI a2), none] [] (ST0 q, y.2)
theorem pfX7_passes_b4 (q : Nat) (hcs : CSm (csF q)) (a0 : Nat) (a1 : Int32) (a2 : Int32) (s : Int32) (m : MM) : SimK (fX7_passes_b4 a0 a1 a2 s m) (hfX7_passes_b4 q a0 a1 a2 s m) (lpK (hfX7_passes_b4 q a0 a1 a2) (kxfX7_passes_b4 q a0 a1 a2)) :=
  (simk_run hcs 9 [4, 20]
    (simt_ite
      (simt_go hcs (.s _ (.s _ (.s _ (.n _ .nil)))) (fun _ => rfl))
      (simt_bind fun o1 =>
        (simt_go hcs (.s _ (.s _ (.s _ (.s _ .nil)))) (fun _ => rfl))))
  (fun _ => rfl))
theorem pfX7_passes_b4_l (q : Nat) (hcs : CSm (csF q)) (a0 : Nat) (a1 : Int32) (a2 : Int32) (s : Int32) (m : MM) : SimK (loopF 1000 (fX7_passes_b4 a0 a1 a2) s m) (hfX7_passes_b4 q a0 a1 a2 s m) (kxfX7_passes_b4 q a0 a1 a2) :=
  simk_loopF (fun s m => pfX7_passes_b4 q hcs a0 a1 a2 s m) 1000 s m
noncomputable def hfX7_passes_b22 (q : Nat) (a0 : Nat) (a1 : Int32) (a2 : Int32) (s : Int32) (m : MM) (n : Nat) : Option Out := brun false (0, 0) (csF q) (lkb tX7_passes) n 22 [some (aR 7 a0), some (aI a1), some (aI a2), some (aI s)] [] (ST0 q, m)
noncomputable def kxfX7_passes_b22 (q : Nat) (a0 : Nat) (a1 : Int32) (a2 : Int32) (y : (Unit) × MM) (n : Nat) : Option Out := brun false (0, 0) (csF q) (lkb tX7_passes) n 41 [some (aR 7 a0), some (aI a1), some (aI a2), none] [] (ST0 q, y.2)
theorem pfX7_passes_b22 (q : Nat) (hcs : CSm (csF q)) (a0 : Nat) (a1 : Int32) (a2 : Int32) (s : Int32) (m : MM) : SimK (fX7_passes_b22 a0 a1 a2 s m) (hfX7_passes_b22 q a0 a1 a2 s m) (lpK (hfX7_passes_b22 q a0 a1 a2) (kxfX7_passes_b22 q a0 a1 a2)) :=
  (simk_run hcs 10 [22, 41]
    (simt_ite
      (simt_go hcs (.s _ (.s _ (.s _ (.n _ .nil)))) (fun _ => rfl))
      (simt_bind fun o3 =>
        (simt_go hcs (.s _ (.s _ (.s _ (.s _ .nil)))) (fun _ => rfl))))
  (fun _ => rfl))
theorem pfX7_passes_b22_l (q : Nat) (hcs : CSm (csF q)) (a0 : Nat) (a1 : Int32) (a2 : Int32) (s : Int32) (m : MM) : SimK (loopF 1000 (fX7_passes_b22 a0 a1 a2) s m) (hfX7_passes_b22 q a0 a1 a2 s m) (kxfX7_passes_b22 q a0 a1 a2) :=
  simk_loopF (fun s m => pfX7_passes_b22 q hcs a0 a1 a2 s m) 1000 s m
noncomputable def hfX7_passes_b43 (q : Nat) (a0 : Nat) (a1 : Int32) (s : Int32 × Int32) (m : MM) (n : Nat) : Option Out := brun false (0, 0) (csF q) (lkb tX7_passes) n 43 [some (aR 7 a0), some (aI a1), some (aI s.1), some (aI s.2)] [] (ST0 q, m)
noncomputable def kxfX7_passes_b43 (q : Nat) (a0 : Nat) (a1 : Int32) (y : (Int32) × MM) (n : Nat) : Option Out := brun false (0, 0) (csF q) (lkb tX7_passes) n 106 [some (aR 7 a0), none, some (aI y.1), none] [] (ST0 q, y.2)
theorem pfX7_passes_b43 (q : Nat) (hcs : CSm (csF q)) (a0 : Nat) (a1 : Int32) (s : Int32 × Int32) (m : MM) : SimK (fX7_passes_b43 a0 a1 s m) (hfX7_passes_b43 q a0 a1 s m) (lpK (hfX7_passes_b43 q a0 a1) (kxfX7_passes_b43 q a0 a1)) :=
  (simk_run hcs 35 [43, 106]
    (simt_ite
      (simt_go hcs (.s _ (.n _ (.s _ (.n _ .nil)))) (fun _ => rfl))
      (simt_bif
        (simt_ite
          (simt_go hcs (.s _ (.s _ (.s _ (.s _ .nil)))) (fun _ => rfl))
          (simt_bif
            (simt_ite
              (simt_go hcs (.s _ (.s _ (.s _ (.s _ .nil)))) (fun _ => rfl))
              (simt_bif
                (simt_bif
                  (simt_bif
                    (simt_ite
                      (simt_bif
                        (simt_go hcs (.s _ (.s _ (.s _ (.s _ .nil)))) (fun _ => rfl)))
                      (simt_go hcs (.s _ (.s _ (.s _ (.s _ .nil)))) (fun _ => rfl)))))))))))
  (fun _ => rfl))
theorem pfX7_passes_b43_l (q : Nat) (hcs : CSm (csF q)) (a0 : Nat) (a1 : Int32) (s : Int32 × Int32) (m : MM) : SimK (loopF 1000 (fX7_passes_b43 a0 a1) s m) (hfX7_passes_b43 q a0 a1 s m) (kxfX7_passes_b43 q a0 a1) :=
  simk_loopF (fun s m => pfX7_passes_b43 q hcs a0 a1 s m) 1000 s m
theorem pfX7_passes (q : Nat) (hcs : CSm (csF q)) (a0 : Nat) (a1 : Int32) (m : MM) : SimK (fX7_passes_b a0 a1 m) (fun n => brun false (0, 0) (csF q) (lkb tX7_passes) n 0 (entL 4 [aR 7 a0, aI a1]) [] (ST0 q, m)) (kt_X7_passes q) :=
  (simk_run hcs 5 [4]
    (simt_loop hcs (.s _ (.s _ (.s _ (.s _ .nil)))) (pfX7_passes_b4_l q hcs a0 a1 0 0 m) (fun o2 => 
      (simk_run hcs 3 [22]
        (simt_loop hcs (.s _ (.s _ (.s _ (.s _ .nil)))) (pfX7_passes_b22_l q hcs a0 a1 0 0 o2.2) (fun o4 => 
          (simk_run hcs 3 [43]
            (simt_loop hcs (.s _ (.s _ (.s _ (.s _ .nil)))) (pfX7_passes_b43_l q hcs a0 a1 (0, 0) o4.2) (fun o5 => 
              (simk_run hcs 17 []
                (simt_bif
                  (simt_ite
                    (simt_ret (some (some (aI o5.1), (ST0 q, o5.2))) (fun _ => rfl))
                    (simt_bif
                      (simt_bif
                        (simt_ret (some (some (aI o5.1), (ST0 q, ((upI o5.2.1 51 0 (1 : Int32).toNatClampNeg ((o5.2.1 51 0 (1 : Int32).toNatClampNeg) + 1)), o5.2.2)))) (fun _ => rfl))))))
              (fun _ => rfl))))
          (fun _ => rfl))))
      (fun _ => rfl))))
  (fun _ => rfl))
noncomputable def kt_X7_goesOn (q : Nat) : Int32 × MM → Nat → Option Out := fun x _ => some (some (aI x.1), (ST0 q, x.2))
noncomputable def hfX7_goesOn_b4 (q : Nat) (a0 : Nat) (a1 : Int32) (s : Int32 × Int32) (m : MM) (n : Nat) : Option Out := brun false (0, 0) (csF q) (lkb tX7_goesOn) n 4 [some (aR 7 a0), some (aI a1), some (aI s.1), some (aI s.2)] [] (ST0 q, m)
noncomputable def kxfX7_goesOn_b4 (q : Nat) (a0 : Nat) (a1 : Int32) (y : (Int32) × MM) (n : Nat) : Option Out := brun false (0, 0) (csF q) (lkb tX7_goesOn) n 26 [none, none, some (aI y.1), none] [] (ST0 q, y.2)
theorem pfX7_goesOn_b4 (q : Nat) (hcs : CSm (csF q)) (a0 : Nat) (a1 : Int32) (s : Int32 × Int32) (m : MM) : SimK (fX7_goesOn_b4 a0 a1 s m) (hfX7_goesOn_b4 q a0 a1 s m) (lpK (hfX7_goesOn_b4 q a0 a1) (kxfX7_goesOn_b4 q a0 a1)) :=
  (simk_run hcs 13 [4, 26]
    (simt_ite
      (simt_go hcs (.n _ (.n _ (.s _ (.n _ .nil)))) (fun _ => rfl))
      (simt_bind fun o1 =>
        (simt_go hcs (.s _ (.s _ (.s _ (.s _ .nil)))) (fun _ => rfl))))
  (fun _ => rfl))
theorem pfX7_goesOn_b4_l (q : Nat) (hcs : CSm (csF q)) (a0 : Nat) (a1 : Int32) (s : Int32 × Int32) (m : MM) : SimK (loopF 1000 (fX7_goesOn_b4 a0 a1) s m) (hfX7_goesOn_b4 q a0 a1 s m) (kxfX7_goesOn_b4 q a0 a1) :=
  simk_loopF (fun s m => pfX7_goesOn_b4 q hcs a0 a1 s m) 1000 s m
theorem pfX7_goesOn (q : Nat) (hcs : CSm (csF q)) (a0 : Nat) (a1 : Int32) (m : MM) : SimK (fX7_goesOn_b a0 a1 m) (fun n => brun false (0, 0) (csF q) (lkb tX7_goesOn) n 0 (entL 4 [aR 7 a0, aI a1]) [] (ST0 q, m)) (kt_X7_goesOn q) :=
  (simk_run hcs 5 [4]
    (simt_loop hcs (.s _ (.s _ (.s _ (.s _ .nil)))) (pfX7_goesOn_b4_l q hcs a0 a1 (0, 0) m) (fun o2 => 
      (simk_run hcs 3 []
        (simt_ret (some (some (aI o2.1), (ST0 q, o2.2))) (fun _ => rfl))
      (fun _ => rfl))))
  (fun _ => rfl))
noncomputable def kt_X7_ahead (q : Nat) : Int32 × MM → Nat → Option Out := fun x _ => some (some (aI x.1), (ST0 q, x.2))
theorem pfX7_ahead (q : Nat) (hcs : CSm (csF q)) (a0 : Nat) (a1 : Int32) (a2 : Int32) (a3 : Int32) (m : MM) : SimK (fX7_ahead_b a0 a1 a2 a3 m) (fun n => brun false (0, 0) (csF q) (lkb tX7_ahead) n 0 (entL 5 [aR 7 a0, aI a1, aI a2, aI a3]) [] (ST0 q, m)) (kt_X7_ahead q) :=
  (simk_run hcs 35 []
    (simt_bind fun o1 =>
      (simt_ite
        (simt_bind fun o2 =>
          (simt_ret (some (some (aI o2.1), (ST0 q, o2.2))) (fun _ => rfl)))
        (simt_bind fun o3 =>
          (simt_ite
            (simt_bind fun o4 =>
              (simt_ret (some (some (aI o4.1), (ST0 q, o4.2))) (fun _ => rfl)))
            (simt_bind fun o5 =>
              (simt_ite
                (simt_bind fun o6 =>
                  (simt_bind fun o7 =>
                    (simt_ite
                      (simt_bif
                        (simt_bind fun o8 =>
                          (simt_ret (some (some (aI (o7.2.1 56 0 a1.toNatClampNeg)), (ST0 q, o8.2))) (fun _ => rfl))))
                      (simt_bif
                        (simt_bind fun o9 =>
                          (simt_ret (some (some (aI (o7.2.1 54 0 a1.toNatClampNeg)), (ST0 q, o9.2))) (fun _ => rfl)))))))
                (simt_bind fun o10 =>
                  (simt_ret (some (some (aI o10.1), (ST0 q, o10.2))) (fun _ => rfl)))))))))
  (fun _ => rfl))
noncomputable def kt_X7_walks (q : Nat) : Int32 × MM → Nat → Option Out := fun x _ => some (some (aI x.1), (ST0 q, x.2))
theorem pfX7_walks (q : Nat) (hcs : CSm (csF q)) (a0 : Nat) (a1 : Int32) (a2 : Int32) (m : MM) : SimK (fX7_walks_b a0 a1 a2 m) (fun n => brun false (0, 0) (csF q) (lkb tX7_walks) n 0 (entL 4 [aR 7 a0, aI a1, aI a2]) [] (ST0 q, m)) (kt_X7_walks q) :=
  (simk_run hcs 27 []
    (simt_bind fun o1 =>
      (simt_ite
        (simt_bind fun o2 =>
          (simt_ret (some (some (aI o2.1), (ST0 q, o2.2))) (fun _ => rfl)))
        (simt_bind fun o3 =>
          (simt_ite
            (simt_bind fun o4 =>
              (simt_bind fun o5 =>
                (simt_bif
                  (simt_bind fun o6 =>
                    (simt_ret (some (some (aI (o5.2.1 57 0 a1.toNatClampNeg)), (ST0 q, o6.2))) (fun _ => rfl))))))
            (simt_bind fun o7 =>
              (simt_ret (some (some (aI o7.1), (ST0 q, o7.2))) (fun _ => rfl)))))))
  (fun _ => rfl))
noncomputable def kt_X7_found (q : Nat) : Int32 × MM → Nat → Option Out := fun x _ => some (some (aI x.1), (ST0 q, x.2))
theorem pfX7_found (q : Nat) (hcs : CSm (csF q)) (a0 : Nat) (a1 : Int32) (m : MM) : SimK (fX7_found_b a0 a1 m) (fun n => brun false (0, 0) (csF q) (lkb tX7_found) n 0 (entL 3 [aR 7 a0, aI a1]) [] (ST0 q, m)) (kt_X7_found q) :=
  (simk_run hcs 18 []
    (simt_bind fun o1 =>
      (simt_ite
        (simt_bind fun o2 =>
          (simt_bind fun o3 =>
            (simt_bind fun o4 =>
              (simt_ret (some (some (aI o3.1), (ST0 q, o4.2))) (fun _ => rfl)))))
        (simt_bind fun o5 =>
          (simt_ret (some (some (aI o5.1), (ST0 q, o5.2))) (fun _ => rfl)))))
  (fun _ => rfl))
noncomputable def kt_X7_whenSo (q : Nat) : Int32 × MM → Nat → Option Out := fun x _ => some (some (aI x.1), (ST0 q, x.2))
noncomputable def hfX7_whenSo_b14 (q : Nat) (a0 : Nat) (a1 : Int32) (a2 : Int32) (a3 : Int32) (s : Int32 × Int32) (m : MM) (n : Nat) : Option Out := brun false (0, 0) (csF q) (lkb tX7_whenSo) n 14 [some (aR 7 a0), some (aI a1), some (aI a2), some (aI a3), some (aI s.1), some (aI s.2)] [] (ST0 q, m)
noncomputable def kxfX7_whenSo_b14 (q : Nat) (a0 : Nat) (a1 : Int32) (a2 : Int32) (a3 : Int32) (y : (Int32) × MM) (n : Nat) : Option Out := brun false (0, 0) (csF q) (lkb tX7_whenSo) n 58 [some (aR 7 a0), none, none, none, some (aI y.1), none] [] (ST0 q, y.2)
theorem pfX7_whenSo_b14 (q : Nat) (hcs : CSm (csF q)) (a0 : Nat) (a1 : Int32) (a2 : Int32) (a3 : Int32) (s : Int32 × Int32) (m : MM) : SimK (fX7_whenSo_b14 a0 a1 a2 a3 s m) (hfX7_whenSo_b14 q a0 a1 a2 a3 s m) (lpK (hfX7_whenSo_b14 q a0 a1 a2 a3) (kxfX7_whenSo_b14 q a0 a1 a2 a3)) :=
  (simk_run hcs 23 [14, 58]
    (simt_ite
      (simt_go hcs (.s _ (.n _ (.n _ (.n _ (.s _ (.n _ .nil)))))) (fun _ => rfl))
      (simt_ite
        (simt_go hcs (.s _ (.n _ (.n _ (.n _ (.s _ (.n _ .nil)))))) (fun _ => rfl))
        (simt_ite
          (simt_bif
            (simt_ite
              (simt_go hcs (.s _ (.s _ (.s _ (.s _ (.s _ (.s _ .nil)))))) (fun _ => rfl))
              (simt_go hcs (.s _ (.s _ (.s _ (.s _ (.s _ (.s _ .nil)))))) (fun _ => rfl))))
          (simt_bind fun o2 =>
            (simt_bif
              (simt_ite
                (simt_go hcs (.s _ (.s _ (.s _ (.s _ (.s _ (.s _ .nil)))))) (fun _ => rfl))
                (simt_go hcs (.s _ (.s _ (.s _ (.s _ (.s _ (.s _ .nil)))))) (fun _ => rfl))))))))
  (fun _ => rfl))
theorem pfX7_whenSo_b14_l (q : Nat) (hcs : CSm (csF q)) (a0 : Nat) (a1 : Int32) (a2 : Int32) (a3 : Int32) (s : Int32 × Int32) (m : MM) : SimK (loopF 1000 (fX7_whenSo_b14 a0 a1 a2 a3) s m) (hfX7_whenSo_b14 q a0 a1 a2 a3 s m) (kxfX7_whenSo_b14 q a0 a1 a2 a3) :=
  simk_loopF (fun s m => pfX7_whenSo_b14 q hcs a0 a1 a2 a3 s m) 1000 s m
theorem pfX7_whenSo (q : Nat) (hcs : CSm (csF q)) (a0 : Nat) (a1 : Int32) (a2 : Int32) (a3 : Int32) (m : MM) : SimK (fX7_whenSo_b a0 a1 a2 a3 m) (fun n => brun false (0, 0) (csF q) (lkb tX7_whenSo) n 0 (entL 6 [aR 7 a0, aI a1, aI a2, aI a3]) [] (ST0 q, m)) (kt_X7_whenSo q) :=
  (simk_run hcs 9 [14]
    (simt_bind fun o1 =>
      (simt_loop hcs (.s _ (.s _ (.s _ (.s _ (.s _ (.s _ .nil)))))) (pfX7_whenSo_b14_l q hcs a0 a1 a2 a3 ((-1), 0) o1.2) (fun o3 => 
        (simk_run hcs 7 []
          (simt_bind fun o4 =>
            (simt_ret (some (some (aI o3.1), (ST0 q, o4.2))) (fun _ => rfl)))
        (fun _ => rfl)))))
  (fun _ => rfl))
noncomputable def kt_X7_when (q : Nat) : Int32 × MM → Nat → Option Out := fun x _ => some (some (aI x.1), (ST0 q, x.2))
theorem pfX7_when (q : Nat) (hcs : CSm (csF q)) (a0 : Nat) (a1 : Int32) (m : MM) : SimK (fX7_when_b a0 a1 m) (fun n => brun false (0, 0) (csF q) (lkb tX7_when) n 0 (entL 2 [aR 7 a0, aI a1]) [] (ST0 q, m)) (kt_X7_when q) :=
  (simk_run hcs 13 []
    (simt_bind fun o1 =>
      (simt_ite
        (simt_bind fun o2 =>
          (simt_ret (some (some (aI o2.1), (ST0 q, o2.2))) (fun _ => rfl)))
        (simt_bind fun o3 =>
          (simt_ret (some (some (aI o3.1), (ST0 q, o3.2))) (fun _ => rfl)))))
  (fun _ => rfl))
noncomputable def kt_X7_breaks (q : Nat) : Int32 × MM → Nat → Option Out := fun x _ => some (some (aI x.1), (ST0 q, x.2))
theorem pfX7_breaks (q : Nat) (hcs : CSm (csF q)) (a0 : Nat) (a1 : Int32) (m : MM) : SimK (fX7_breaks_b a0 a1 m) (fun n => brun false (0, 0) (csF q) (lkb tX7_breaks) n 0 (entL 2 [aR 7 a0, aI a1]) [] (ST0 q, m)) (kt_X7_breaks q) :=
  (simk_run hcs 13 []
    (simt_bind fun o1 =>
      (simt_ite
        (simt_bind fun o2 =>
          (simt_ret (some (some (aI o2.1), (ST0 q, o2.2))) (fun _ => rfl)))
        (simt_bind fun o3 =>
          (simt_ret (some (some (aI o3.1), (ST0 q, o3.2))) (fun _ => rfl)))))
  (fun _ => rfl))
noncomputable def kt_X7_meet (q : Nat) : Int32 × MM → Nat → Option Out := fun x _ => some (some (aI x.1), (ST0 q, x.2))
noncomputable def hfX7_meet_b20 (q : Nat) (a0 : Nat) (a1 : Int32) (a2 : Int32) (s : Int32 × Int32) (m : MM) (n : Nat) : Option Out := brun false (0, 0) (csF q) (lkb tX7_meet) n 20 [some (aR 7 a0), some (aI a1), some (aI a2), some (aI s.1), some (aI s.2)] [] (ST0 q, m)
noncomputable def kxfX7_meet_b20 (q : Nat) (a0 : Nat) (a1 : Int32) (a2 : Int32) (y : (Int32) × MM) (n : Nat) : Option Out := brun false (0, 0) (csF q) (lkb tX7_meet) n 74 [some (aR 7 a0), none, none, some (aI y.1), none] [] (ST0 q, y.2)
theorem pfX7_meet_b20 (q : Nat) (hcs : CSm (csF q)) (a0 : Nat) (a1 : Int32) (a2 : Int32) (s : Int32 × Int32) (m : MM) : SimK (fX7_meet_b20 a0 a1 a2 s m) (hfX7_meet_b20 q a0 a1 a2 s m) (lpK (hfX7_meet_b20 q a0 a1 a2) (kxfX7_meet_b20 q a0 a1 a2)) :=
  (simk_run hcs 30 [20, 74]
    (simt_ite
      (simt_go hcs (.s _ (.n _ (.n _ (.s _ (.n _ .nil))))) (fun _ => rfl))
      (simt_ite
        (simt_go hcs (.s _ (.n _ (.n _ (.s _ (.n _ .nil))))) (fun _ => rfl))
        (simt_bind fun o2 =>
          (simt_bif
            (simt_ite
              (simt_go hcs (.s _ (.s _ (.s _ (.s _ (.s _ .nil))))) (fun _ => rfl))
              (simt_bif
                (simt_bif
                  (simt_ite
                    (simt_go hcs (.s _ (.s _ (.s _ (.s _ (.s _ .nil))))) (fun _ => rfl))
                    (simt_go hcs (.s _ (.s _ (.s _ (.s _ (.s _ .nil))))) (fun _ => rfl))))))))))
  (fun _ => rfl))
theorem pfX7_meet_b20_l (q : Nat) (hcs : CSm (csF q)) (a0 : Nat) (a1 : Int32) (a2 : Int32) (s : Int32 × Int32) (m : MM) : SimK (loopF 1000 (fX7_meet_b20 a0 a1 a2) s m) (hfX7_meet_b20 q a0 a1 a2 s m) (kxfX7_meet_b20 q a0 a1 a2) :=
  simk_loopF (fun s m => pfX7_meet_b20 q hcs a0 a1 a2 s m) 1000 s m
theorem pfX7_meet (q : Nat) (hcs : CSm (csF q)) (a0 : Nat) (a1 : Int32) (a2 : Int32) (m : MM) : SimK (fX7_meet_b a0 a1 a2 m) (fun n => brun false (0, 0) (csF q) (lkb tX7_meet) n 0 (entL 5 [aR 7 a0, aI a1, aI a2]) [] (ST0 q, m)) (kt_X7_meet q) :=
  (simk_run hcs 14 [20]
    (simt_bind fun o1 =>
      (simt_bif
        (simt_loop hcs (.s _ (.s _ (.s _ (.s _ (.s _ .nil))))) (pfX7_meet_b20_l q hcs a0 a1 a2 ((-1), 1) ((upI o1.2.1 55 0 a1.toNatClampNeg (-1)), o1.2.2)) (fun o3 => 
          (simk_run hcs 7 []
            (simt_bind fun o4 =>
              (simt_ret (some (some (aI o3.1), (ST0 q, o4.2))) (fun _ => rfl)))
          (fun _ => rfl))))))
  (fun _ => rfl))
noncomputable def kt_X7_meets (q : Nat) : Int32 × MM → Nat → Option Out := fun x _ => some (some (aI x.1), (ST0 q, x.2))
theorem pfX7_meets (q : Nat) (hcs : CSm (csF q)) (a0 : Nat) (a1 : Int32) (a2 : Int32) (m : MM) : SimK (fX7_meets_b a0 a1 a2 m) (fun n => brun false (0, 0) (csF q) (lkb tX7_meets) n 0 (entL 3 [aR 7 a0, aI a1, aI a2]) [] (ST0 q, m)) (kt_X7_meets q) :=
  (simk_run hcs 15 []
    (simt_bind fun o1 =>
      (simt_ite
        (simt_bind fun o2 =>
          (simt_ret (some (some (aI o2.1), (ST0 q, o2.2))) (fun _ => rfl)))
        (simt_bind fun o3 =>
          (simt_ite
            (simt_bind fun o4 =>
              (simt_ret (some (some (aI o4.1), (ST0 q, o4.2))) (fun _ => rfl)))
            (simt_bind fun o5 =>
              (simt_ret (some (some (aI o5.1), (ST0 q, o5.2))) (fun _ => rfl)))))))
  (fun _ => rfl))
noncomputable def kt_X7_finder (q : Nat) : Int32 × MM → Nat → Option Out := fun x _ => some (some (aI x.1), (ST0 q, x.2))
noncomputable def hfX7_finder_b20 (q : Nat) (a0 : Nat) (a1 : Int32) (s : Int32 × Int32) (m : MM) (n : Nat) : Option Out := brun false (0, 0) (csF q) (lkb tX7_finder) n 20 [some (aR 7 a0), some (aI a1), some (aI s.1), some (aI s.2), none] [] (ST0 q, m)
noncomputable def kxfX7_finder_b20 (q : Nat) (a0 : Nat) (a1 : Int32) (y : (Int32) × MM) (n : Nat) : Option Out := brun false (0, 0) (csF q) (lkb tX7_finder) n 66 [none, none, some (aI y.1), none, none] [] (ST0 q, y.2)
theorem pfX7_finder_b20 (q : Nat) (hcs : CSm (csF q)) (a0 : Nat) (a1 : Int32) (s : Int32 × Int32) (m : MM) : SimK (fX7_finder_b20 a0 a1 s m) (hfX7_finder_b20 q a0 a1 s m) (lpK (hfX7_finder_b20 q a0 a1) (kxfX7_finder_b20 q a0 a1)) :=
  (simk_run hcs 26 [20, 66]
    (simt_ite
      (simt_go hcs (.n _ (.n _ (.s _ (.n _ (.n _ .nil))))) (fun _ => rfl))
      (simt_bind fun o2 =>
        (simt_ite
          (simt_go hcs (.s _ (.s _ (.s _ (.s _ (.n _ .nil))))) (fun _ => rfl))
          (simt_ite
            (simt_go hcs (.s _ (.s _ (.s _ (.s _ (.n _ .nil))))) (fun _ => rfl))
            (simt_bind fun o3 =>
              (simt_ite
                (simt_go hcs (.s _ (.s _ (.s _ (.s _ (.n _ .nil))))) (fun _ => rfl))
                (simt_go hcs (.s _ (.s _ (.s _ (.s _ (.n _ .nil))))) (fun _ => rfl))))))))
  (fun _ => rfl))
theorem pfX7_finder_b20_l (q : Nat) (hcs : CSm (csF q)) (a0 : Nat) (a1 : Int32) (s : Int32 × Int32) (m : MM) : SimK (loopF 1000 (fX7_finder_b20 a0 a1) s m) (hfX7_finder_b20 q a0 a1 s m) (kxfX7_finder_b20 q a0 a1) :=
  simk_loopF (fun s m => pfX7_finder_b20 q hcs a0 a1 s m) 1000 s m
theorem pfX7_finder (q : Nat) (hcs : CSm (csF q)) (a0 : Nat) (a1 : Int32) (m : MM) : SimK (fX7_finder_b a0 a1 m) (fun n => brun false (0, 0) (csF q) (lkb tX7_finder) n 0 (entL 5 [aR 7 a0, aI a1]) [] (ST0 q, m)) (kt_X7_finder q) :=
  (simk_run hcs 9 [20]
    (simt_bind fun o1 =>
      (simt_ite
        (simt_loop hcs (.s _ (.s _ (.s _ (.s _ (.n _ .nil))))) (pfX7_finder_b20_l q hcs a0 a1 ((-1), 0) o1.2) (fun o4 => 
          (simk_run hcs 3 []
            (simt_ret (some (some (aI o4.1), (ST0 q, o4.2))) (fun _ => rfl))
          (fun _ => rfl))))
        (simt_bind fun o5 =>
          (simt_ret (some (some (aI o5.1), (ST0 q, o5.2))) (fun _ => rfl)))))
  (fun _ => rfl))
noncomputable def kt_X7_two (q : Nat) : Int32 × MM → Nat → Option Out := fun x _ => some (some (aI x.1), (ST0 q, x.2))
noncomputable def hfX7_two_b42 (q : Nat) (a0 : Nat) (a1 : Int32) (a2 : Int32) (s : Int32 × Int32) (m : MM) (n : Nat) : Option Out := brun false (0, 0) (csF q) (lkb tX7_two) n 42 [some (aR 7 a0), some (aI a1), some (aI a2), some (aI s.1), some (aI s.2)] [] (ST0 q, m)
noncomputable def kxfX7_two_b42 (q : Nat) (a0 : Nat) (a1 : Int32) (a2 : Int32) (y : (Int32) × MM) (n : Nat) : Option Out := brun false (0, 0) (csF q) (lkb tX7_two) n 89 [some (aR 7 a0), none, none, some (aI y.1), none] [] (ST0 q, y.2)
theorem pfX7_two_b42 (q : Nat) (hcs : CSm (csF q)) (a0 : Nat) (a1 : Int32) (a2 : Int32) (s : Int32 × Int32) (m : MM) : SimK (fX7_two_b42 a0 a1 a2 s m) (hfX7_two_b42 q a0 a1 a2 s m) (lpK (hfX7_two_b42 q a0 a1 a2) (kxfX7_two_b42 q a0 a1 a2)) :=
  (simk_run hcs 26 [42, 89]
    (simt_ite
      (simt_go hcs (.s _ (.n _ (.n _ (.s _ (.n _ .nil))))) (fun _ => rfl))
      (simt_ite
        (simt_go hcs (.s _ (.n _ (.n _ (.s _ (.n _ .nil))))) (fun _ => rfl))
        (simt_ite
          (simt_bif
            (simt_bif
              (simt_ite
                (simt_go hcs (.s _ (.s _ (.s _ (.s _ (.s _ .nil))))) (fun _ => rfl))
                (simt_go hcs (.s _ (.s _ (.s _ (.s _ (.s _ .nil))))) (fun _ => rfl)))))
          (simt_bind fun o6 =>
            (simt_bif
              (simt_bif
                (simt_ite
                  (simt_go hcs (.s _ (.s _ (.s _ (.s _ (.s _ .nil))))) (fun _ => rfl))
                  (simt_go hcs (.s _ (.s _ (.s _ (.s _ (.s _ .nil))))) (fun _ => rfl)))))))))
  (fun _ => rfl))
theorem pfX7_two_b42_l (q : Nat) (hcs : CSm (csF q)) (a0 : Nat) (a1 : Int32) (a2 : Int32) (s : Int32 × Int32) (m : MM) : SimK (loopF 1000 (fX7_two_b42 a0 a1 a2) s m) (hfX7_two_b42 q a0 a1 a2 s m) (kxfX7_two_b42 q a0 a1 a2) :=
  simk_loopF (fun s m => pfX7_two_b42 q hcs a0 a1 a2 s m) 1000 s m
theorem pfX7_two (q : Nat) (hcs : CSm (csF q)) (a0 : Nat) (a1 : Int32) (a2 : Int32) (m : MM) : SimK (fX7_two_b a0 a1 a2 m) (fun n => brun false (0, 0) (csF q) (lkb tX7_two) n 0 (entL 5 [aR 7 a0, aI a1, aI a2]) [] (ST0 q, m)) (kt_X7_two q) :=
  (simk_run hcs 20 [42]
    (simt_bind fun o1 =>
      (simt_ite
        (simt_bind fun o2 =>
          (simt_ret (some (some (aI o2.1), (ST0 q, o2.2))) (fun _ => rfl)))
        (simt_bind fun o3 =>
          (simt_ite
            (simt_bind fun o4 =>
              (simt_ret (some (some (aI o4.1), (ST0 q, o4.2))) (fun _ => rfl)))
            (simt_ite
              (simt_bind fun o5 =>
                (simt_loop hcs (.s _ (.s _ (.s _ (.s _ (.s _ .nil))))) (pfX7_two_b42_l q hcs a0 a1 a2 ((-1), 0) o5.2) (fun o7 => 
                  (simk_run hcs 7 []
                    (simt_bind fun o8 =>
                      (simt_ret (some (some (aI o7.1), (ST0 q, o8.2))) (fun _ => rfl)))
                  (fun _ => rfl)))))
              (simt_bind fun o9 =>
                (simt_ret (some (some (aI o9.1), (ST0 q, o9.2))) (fun _ => rfl))))))))
  (fun _ => rfl))
noncomputable def kt_X7_whenThrown (q : Nat) : Int32 × MM → Nat → Option Out := fun x _ => some (some (aI x.1), (ST0 q, x.2))
theorem pfX7_whenThrown (q : Nat) (hcs : CSm (csF q)) (a0 : Nat) (a1 : Int32) (a2 : Int32) (a3 : Int32) (a4 : Int32) (m : MM) : SimK (fX7_whenThrown_b a0 a1 a2 a3 a4 m) (fun n => brun false (0, 0) (csF q) (lkb tX7_whenThrown) n 0 (entL 5 [aR 7 a0, aI a1, aI a2, aI a3, aI a4]) [] (ST0 q, m)) (kt_X7_whenThrown q) :=
  (simk_run hcs 14 []
    (simt_bind fun o1 =>
      (simt_bind fun o2 =>
        (simt_ret (some (some (aI o2.1), (ST0 q, o2.2))) (fun _ => rfl))))
  (fun _ => rfl))
noncomputable def kt_X7_aim (q : Nat) : Int32 × MM → Nat → Option Out := fun x _ => some (some (aI x.1), (ST0 q, x.2))
noncomputable def hfX7_aim_b44 (q : Nat) (a0 : Nat) (a1 : Int32) (a2 : Int32) (a3 : Int32) (a4 : Int32) (s : Int32 × Int32 × Int32) (m : MM) (n : Nat) : Option Out := brun false (0, 0) (csF q) (lkb tX7_aim) n 44 [some (aR 7 a0), some (aI a1), some (aI a2), some (aI a3), some (aI a4), some (aI s.1), some (aI s.2.1), some (aI s.2.2), none] [] (ST0 q, m)
noncomputable def kxfX7_aim_b44 (q : Nat) (a0 : Nat) (a1 : Int32) (a2 : Int32) (a3 : Int32) (a4 : Int32) (y : (Int32 × Int32) × MM) (n : Nat) : Option Out := brun false (0, 0) (csF q) (lkb tX7_aim) n 94 [none, none, none, none, some (aI a4), some (aI y.1.1), some (aI y.1.2), none, none] [] (ST0 q, y.2)
theorem pfX7_aim_b44 (q : Nat) (hcs : CSm (csF q)) (a0 : Nat) (a1 : Int32) (a2 : Int32) (a3 : Int32) (a4 : Int32) (s : Int32 × Int32 × Int32) (m : MM) : SimK (fX7_aim_b44 a0 a1 a2 a3 a4 s m) (hfX7_aim_b44 q a0 a1 a2 a3 a4 s m) (lpK (hfX7_aim_b44 q a0 a1 a2 a3 a4) (kxfX7_aim_b44 q a0 a1 a2 a3 a4)) :=
  (simk_run hcs 24 [44, 94]
    (simt_ite
      (simt_go hcs (.n _ (.n _ (.n _ (.n _ (.s _ (.s _ (.s _ (.n _ (.n _ .nil))))))))) (fun _ => rfl))
      (simt_bind fun o6 =>
        (simt_ite
          (simt_go hcs (.s _ (.s _ (.s _ (.s _ (.s _ (.s _ (.s _ (.s _ (.n _ .nil))))))))) (fun _ => rfl))
          (simt_ite
            (simt_go hcs (.s _ (.s _ (.s _ (.s _ (.s _ (.s _ (.s _ (.s _ (.n _ .nil))))))))) (fun _ => rfl))
            (simt_go hcs (.s _ (.s _ (.s _ (.s _ (.s _ (.s _ (.s _ (.s _ (.n _ .nil))))))))) (fun _ => rfl))))))
  (fun _ => rfl))
theorem pfX7_aim_b44_l (q : Nat) (hcs : CSm (csF q)) (a0 : Nat) (a1 : Int32) (a2 : Int32) (a3 : Int32) (a4 : Int32) (s : Int32 × Int32 × Int32) (m : MM) : SimK (loopF 1000 (fX7_aim_b44 a0 a1 a2 a3 a4) s m) (hfX7_aim_b44 q a0 a1 a2 a3 a4 s m) (kxfX7_aim_b44 q a0 a1 a2 a3 a4) :=
  simk_loopF (fun s m => pfX7_aim_b44 q hcs a0 a1 a2 a3 a4 s m) 1000 s m
theorem pfX7_aim (q : Nat) (hcs : CSm (csF q)) (a0 : Nat) (a1 : Int32) (a2 : Int32) (a3 : Int32) (a4 : Int32) (m : MM) : SimK (fX7_aim_b a0 a1 a2 a3 a4 m) (fun n => brun false (0, 0) (csF q) (lkb tX7_aim) n 0 (entL 9 [aR 7 a0, aI a1, aI a2, aI a3, aI a4]) [] (ST0 q, m)) (kt_X7_aim q) :=
  (simk_run hcs 20 [44]
    (simt_bind fun o1 =>
      (simt_ite
        (simt_bind fun o2 =>
          (simt_ret (some (some (aI o2.1), (ST0 q, o2.2))) (fun _ => rfl)))
        (simt_bind fun o3 =>
          (simt_ite
            (simt_bind fun o4 =>
              (simt_ret (some (some (aI o4.1), (ST0 q, o4.2))) (fun _ => rfl)))
            (simt_bind fun o5 =>
              (simt_ite
                (simt_loop hcs (.s _ (.s _ (.s _ (.s _ (.s _ (.s _ (.s _ (.s _ (.n _ .nil))))))))) (pfX7_aim_b44_l q hcs a0 a1 a2 a3 a4 ((-1), 61, 0) o5.2) (fun o7 => 
                  (simk_run hcs 9 []
                    (simt_ite
                      (simt_ret (some (some (aI o7.1.1), (ST0 q, o7.2))) (fun _ => rfl))
                      (simt_ite
                        (simt_ret (some (some (aI o7.1.2), (ST0 q, o7.2))) (fun _ => rfl))
                        (simt_ret (some (some (aI o7.1.1), (ST0 q, o7.2))) (fun _ => rfl))))
                  (fun _ => rfl))))
                (simt_bind fun o8 =>
                  (simt_ret (some (some (aI o8.1), (ST0 q, o8.2))) (fun _ => rfl)))))))))
  (fun _ => rfl))
noncomputable def kt_X7_foundFor (q : Nat) : Int32 × MM → Nat → Option Out := fun x _ => some (some (aI x.1), (ST0 q, x.2))
noncomputable def hfX7_foundFor_b16 (q : Nat) (a0 : Nat) (a1 : Int32) (a2 : Int32) (a4 : Int32) (s : Int32 × Int32) (m : MM) (n : Nat) : Option Out := brun false (0, 0) (csF q) (lkb tX7_foundFor) n 16 [some (aR 7 a0), some (aI a1), some (aI a2), some (aI s.1), some (aI a4), some (aI s.2)] [] (ST0 q, m)
noncomputable def kxfX7_foundFor_b16 (q : Nat) (a0 : Nat) (a1 : Int32) (a2 : Int32) (a4 : Int32) (y : (Int32) × MM) (n : Nat) : Option Out := brun false (0, 0) (csF q) (lkb tX7_foundFor) n 56 [some (aR 7 a0), some (aI a1), some (aI a2), some (aI y.1), some (aI a4), none] [] (ST0 q, y.2)
theorem pfX7_foundFor_b16 (q : Nat) (hcs : CSm (csF q)) (a0 : Nat) (a1 : Int32) (a2 : Int32) (a4 : Int32) (s : Int32 × Int32) (m : MM) : SimK (fX7_foundFor_b16 a0 a1 a2 a4 s m) (hfX7_foundFor_b16 q a0 a1 a2 a4 s m) (lpK (hfX7_foundFor_b16 q a0 a1 a2 a4) (kxfX7_foundFor_b16 q a0 a1 a2 a4)) :=
  (simk_run hcs 20 [16, 56]
    (simt_ite
      (simt_go hcs (.s _ (.s _ (.s _ (.s _ (.s _ (.n _ .nil)))))) (fun _ => rfl))
      (simt_bif
        (simt_ite
          (simt_go hcs (.s _ (.s _ (.s _ (.s _ (.s _ (.s _ .nil)))))) (fun _ => rfl))
          (simt_bif
            (simt_ite
              (simt_go hcs (.s _ (.s _ (.s _ (.s _ (.s _ (.s _ .nil)))))) (fun _ => rfl))
              (simt_go hcs (.s _ (.s _ (.s _ (.s _ (.s _ (.s _ .nil)))))) (fun _ => rfl)))))))
  (fun _ => rfl))
theorem pfX7_foundFor_b16_l (q : Nat) (hcs : CSm (csF q)) (a0 : Nat) (a1 : Int32) (a2 : Int32) (a4 : Int32) (s : Int32 × Int32) (m : MM) : SimK (loopF 1000 (fX7_foundFor_b16 a0 a1 a2 a4) s m) (hfX7_foundFor_b16 q a0 a1 a2 a4 s m) (kxfX7_foundFor_b16 q a0 a1 a2 a4) :=
  simk_loopF (fun s m => pfX7_foundFor_b16 q hcs a0 a1 a2 a4 s m) 1000 s m
noncomputable def hfX7_foundFor_b65 (q : Nat) (a0 : Nat) (a1 : Int32) (a3 : Int32) (s : Int32 × Int32) (m : MM) (n : Nat) : Option Out := brun false (0, 0) (csF q) (lkb tX7_foundFor) n 65 [some (aR 7 a0), some (aI a1), none, some (aI a3), some (aI s.1), some (aI s.2)] [] (ST0 q, m)
noncomputable def kxfX7_foundFor_b65 (q : Nat) (a0 : Nat) (a1 : Int32) (a3 : Int32) (y : (Int32) × MM) (n : Nat) : Option Out := brun false (0, 0) (csF q) (lkb tX7_foundFor) n 105 [some (aR 7 a0), none, none, some (aI a3), some (aI y.1), none] [] (ST0 q, y.2)
theorem pfX7_foundFor_b65 (q : Nat) (hcs : CSm (csF q)) (a0 : Nat) (a1 : Int32) (a3 : Int32) (s : Int32 × Int32) (m : MM) : SimK (fX7_foundFor_b65 a0 a1 a3 s m) (hfX7_foundFor_b65 q a0 a1 a3 s m) (lpK (hfX7_foundFor_b65 q a0 a1 a3) (kxfX7_foundFor_b65 q a0 a1 a3)) :=
  (simk_run hcs 20 [65, 105]
    (simt_ite
      (simt_go hcs (.s _ (.n _ (.n _ (.s _ (.s _ (.n _ .nil)))))) (fun _ => rfl))
      (simt_bif
        (simt_ite
          (simt_go hcs (.s _ (.s _ (.n _ (.s _ (.s _ (.s _ .nil)))))) (fun _ => rfl))
          (simt_bif
            (simt_ite
              (simt_go hcs (.s _ (.s _ (.n _ (.s _ (.s _ (.s _ .nil)))))) (fun _ => rfl))
              (simt_go hcs (.s _ (.s _ (.n _ (.s _ (.s _ (.s _ .nil)))))) (fun _ => rfl)))))))
  (fun _ => rfl))
theorem pfX7_foundFor_b65_l (q : Nat) (hcs : CSm (csF q)) (a0 : Nat) (a1 : Int32) (a3 : Int32) (s : Int32 × Int32) (m : MM) : SimK (loopF 1000 (fX7_foundFor_b65 a0 a1 a3) s m) (hfX7_foundFor_b65 q a0 a1 a3 s m) (kxfX7_foundFor_b65 q a0 a1 a3) :=
  simk_loopF (fun s m => pfX7_foundFor_b65 q hcs a0 a1 a3 s m) 1000 s m
theorem pfX7_foundFor (q : Nat) (hcs : CSm (csF q)) (a0 : Nat) (a1 : Int32) (a2 : Int32) (m : MM) : SimK (fX7_foundFor_b a0 a1 a2 m) (fun n => brun false (0, 0) (csF q) (lkb tX7_foundFor) n 0 (entL 6 [aR 7 a0, aI a1, aI a2]) [] (ST0 q, m)) (kt_X7_foundFor q) :=
  (simk_run hcs 11 [16]
    (simt_bind fun o1 =>
      (simt_loop hcs (.s _ (.s _ (.s _ (.s _ (.s _ (.s _ .nil)))))) (pfX7_foundFor_b16_l q hcs a0 a1 a2 0 (0, 0) o1.2) (fun o2 => 
        (simk_run hcs 7 [65]
          (simt_bind fun o3 =>
            (simt_loop hcs (.s _ (.s _ (.n _ (.s _ (.s _ (.s _ .nil)))))) (pfX7_foundFor_b65_l q hcs a0 a1 o2.1 (0, 0) o3.2) (fun o4 => 
              (simk_run hcs 9 []
                (simt_bind fun o5 =>
                  (simt_ret (some (some (aI (o4.1 - o2.1)), (ST0 q, o5.2))) (fun _ => rfl)))
              (fun _ => rfl)))))
        (fun _ => rfl)))))
  (fun _ => rfl))
noncomputable def kt_X7_walk (q : Nat) : Int32 × MM → Nat → Option Out := fun x _ => some (some (aI x.1), (ST0 q, x.2))
noncomputable def hfX7_walk_b66 (q : Nat) (a0 : Nat) (a1 : Int32) (a2 : Int32) (a3 : Int32) (a4 : Int32) (a5 : Int32) (s : Int32 × Int32 × Int32) (m : MM) (n : Nat) : Option Out := brun false (0, 0) (csF q) (lkb tX7_walk) n 66 [some (aR 7 a0), some (aI a1), some (aI a2), some (aI a3), some (aI a4), some (aI a5), some (aI s.1), some (aI s.2.1), some (aI s.2.2), none] [] (ST0 q, m)
noncomputable def kxfX7_walk_b66 (q : Nat) (a0 : Nat) (a1 : Int32) (a2 : Int32) (a3 : Int32) (a4 : Int32) (a5 : Int32) (y : (Int32 × Int32) × MM) (n : Nat) : Option Out := brun false (0, 0) (csF q) (lkb tX7_walk) n 141 [some (aR 7 a0), some (aI a1), none, some (aI a3), some (aI a4), some (aI a5), some (aI y.1.1), some (aI y.1.2), none, none] [] (ST0 q, y.2)
theorem pfX7_walk_b66 (q : Nat) (hcs : CSm (csF q)) (a0 : Nat) (a1 : Int32) (a2 : Int32) (a3 : Int32) (a4 : Int32) (a5 : Int32) (s : Int32 × Int32 × Int32) (m : MM) : SimK (fX7_walk_b66 a0 a1 a2 a3 a4 a5 s m) (hfX7_walk_b66 q a0 a1 a2 a3 a4 a5 s m) (lpK (hfX7_walk_b66 q a0 a1 a2 a3 a4 a5) (kxfX7_walk_b66 q a0 a1 a2 a3 a4 a5)) :=
  (simk_run hcs 44 [66, 141]
    (simt_ite
      (simt_go hcs (.s _ (.s _ (.n _ (.s _ (.s _ (.s _ (.s _ (.s _ (.n _ (.n _ .nil)))))))))) (fun _ => rfl))
      (simt_bif
        (simt_bif
          (simt_bind fun o6 =>
            (simt_ite
              (simt_go hcs (.s _ (.s _ (.s _ (.s _ (.s _ (.s _ (.s _ (.s _ (.s _ (.n _ .nil)))))))))) (fun _ => rfl))
              (simt_go hcs (.s _ (.s _ (.s _ (.s _ (.s _ (.s _ (.s _ (.s _ (.s _ (.n _ .nil)))))))))) (fun _ => rfl)))))))
  (fun _ => rfl))
theorem pfX7_walk_b66_l (q : Nat) (hcs : CSm (csF q)) (a0 : Nat) (a1 : Int32) (a2 : Int32) (a3 : Int32) (a4 : Int32) (a5 : Int32) (s : Int32 × Int32 × Int32) (m : MM) : SimK (loopF 1000 (fX7_walk_b66 a0 a1 a2 a3 a4 a5) s m) (hfX7_walk_b66 q a0 a1 a2 a3 a4 a5 s m) (kxfX7_walk_b66 q a0 a1 a2 a3 a4 a5) :=
  simk_loopF (fun s m => pfX7_walk_b66 q hcs a0 a1 a2 a3 a4 a5 s m) 1000 s m
theorem pfX7_walk (q : Nat) (hcs : CSm (csF q)) (a0 : Nat) (a1 : Int32) (a2 : Int32) (a3 : Int32) (m : MM) : SimK (fX7_walk_b a0 a1 a2 a3 m) (fun n => brun false (0, 0) (csF q) (lkb tX7_walk) n 0 (entL 10 [aR 7 a0, aI a1, aI a2, aI a3]) [] (ST0 q, m)) (kt_X7_walk q) :=
  (simk_run hcs 35 [66]
    (simt_bind fun o1 =>
      (simt_ite
        (simt_bind fun o2 =>
          (simt_ret (some (some (aI o2.1), (ST0 q, o2.2))) (fun _ => rfl)))
        (simt_bind fun o3 =>
          (simt_ite
            (simt_bind fun o4 =>
              (simt_ret (some (some (aI o4.1), (ST0 q, o4.2))) (fun _ => rfl)))
            (simt_bind fun o5 =>
              (simt_ite
                (simt_bif
                  (simt_bif
                    (simt_loop hcs (.s _ (.s _ (.s _ (.s _ (.s _ (.s _ (.s _ (.s _ (.s _ (.n _ .nil)))))))))) (pfX7_walk_b66_l q hcs a0 a1 a2 a3 (o5.2.1 57 0 (6 + a1).toNatClampNeg) (o5.2.1 57 0 (12 + a1).toNatClampNeg) ((-1), (-1), 0) o5.2) (fun o7 => 
                      (simk_run hcs 20 []
                        (simt_bif
                          (simt_bif
                            (simt_ite
                              (simt_ret (some (some (aI o7.1.2), (ST0 q, ((upI (upI o7.2.1 57 0 (6 + a1).toNatClampNeg (o5.2.1 57 0 (6 + a1).toNatClampNeg)) 57 0 (12 + a1).toNatClampNeg (o5.2.1 57 0 (12 + a1).toNatClampNeg)), o7.2.2)))) (fun _ => rfl))
                              (simt_ret (some (some (aI o7.1.1), (ST0 q, ((upI (upI o7.2.1 57 0 (6 + a1).toNatClampNeg (o5.2.1 57 0 (6 + a1).toNatClampNeg)) 57 0 (12 + a1).toNatClampNeg (o5.2.1 57 0 (12 + a1).toNatClampNeg)), o7.2.2)))) (fun _ => rfl)))))
                      (fun _ => rfl))))))
                (simt_bind fun o8 =>
                  (simt_ret (some (some (aI o8.1), (ST0 q, o8.2))) (fun _ => rfl)))))))))
  (fun _ => rfl))
noncomputable def kt_X7_toldAt (q : Nat) : Int64 × MM → Nat → Option Out := fun x _ => some (some (aL x.1), (ST0 q, x.2))
theorem pfX7_toldAt (q : Nat) (hcs : CSm (csF q)) (a0 : Nat) (a1 : Int32) (a2 : Int32) (m : MM) : SimK (fX7_toldAt_b a0 a1 a2 m) (fun n => brun false (0, 0) (csF q) (lkb tX7_toldAt) n 0 (entL 3 [aR 7 a0, aI a1, aI a2]) [] (ST0 q, m)) (kt_X7_toldAt q) :=
  (simk_run hcs 10 []
    (simt_bif
      (simt_ret (some (some (aL (m.2 21 0 ((40 * a1) + a2).toNatClampNeg)), (ST0 q, m))) (fun _ => rfl)))
  (fun _ => rfl))
noncomputable def kt_X7_noTold (q : Nat) : Int32 × MM → Nat → Option Out := fun x _ => some (some (aI x.1), (ST0 q, x.2))
theorem pfX7_noTold (q : Nat) (hcs : CSm (csF q)) (a0 : Nat) (a1 : Int32) (a2 : Int32) (m : MM) : SimK (fX7_noTold_b a0 a1 a2 m) (fun n => brun false (0, 0) (csF q) (lkb tX7_noTold) n 0 (entL 3 [aR 7 a0, aI a1, aI a2]) [] (ST0 q, m)) (kt_X7_noTold q) :=
  (simk_run hcs 14 []
    (simt_bind fun o1 =>
      (simt_ite
        (simt_bif
          (simt_ite
            (simt_ret (some (some (aI 0), (ST0 q, o1.2))) (fun _ => rfl))
            (simt_ret (some (some (aI (-1002)), (ST0 q, o1.2))) (fun _ => rfl))))
        (simt_bind fun o2 =>
          (simt_ret (some (some (aI o2.1), (ST0 q, o2.2))) (fun _ => rfl)))))
  (fun _ => rfl))
noncomputable def kt_X7_goesSo (q : Nat) : Bool × MM → Nat → Option Out := fun x _ => some (some (aI (bI x.1)), (ST0 q, x.2))
noncomputable def hfX7_goesSo_b74 (q : Nat) (a0 : Nat) (a1 : Int32) (a2 : Int32) (a3 : Int32) (s : Int32 × Int32) (m : MM) (n : Nat) : Option Out := brun false (0, 0) (csF q) (lkb tX7_goesSo) n 74 [some (aR 7 a0), some (aI a1), some (aI a2), some (aI a3), some (aI s.1), some (aI s.2)] [] (ST0 q, m)
noncomputable def kxfX7_goesSo_b74 (q : Nat) (a0 : Nat) (a1 : Int32) (a2 : Int32) (a3 : Int32) (y : (Int32) × MM) (n : Nat) : Option Out := brun false (0, 0) (csF q) (lkb tX7_goesSo) n 134 [some (aR 7 a0), none, none, none, some (aI y.1), none] [] (ST0 q, y.2)
theorem pfX7_goesSo_b74 (q : Nat) (hcs : CSm (csF q)) (a0 : Nat) (a1 : Int32) (a2 : Int32) (a3 : Int32) (s : Int32 × Int32) (m : MM) : SimK (fX7_goesSo_b74 a0 a1 a2 a3 s m) (hfX7_goesSo_b74 q a0 a1 a2 a3 s m) (lpK (hfX7_goesSo_b74 q a0 a1 a2 a3) (kxfX7_goesSo_b74 q a0 a1 a2 a3)) :=
  (simk_run hcs 32 [74, 134]
    (simt_ite
      (simt_go hcs (.s _ (.n _ (.n _ (.n _ (.s _ (.n _ .nil)))))) (fun _ => rfl))
      (simt_ite
        (simt_go hcs (.s _ (.n _ (.n _ (.n _ (.s _ (.n _ .nil)))))) (fun _ => rfl))
        (simt_bind fun o3 =>
          (simt_bif
            (simt_ite
              (simt_go hcs (.s _ (.s _ (.s _ (.s _ (.s _ (.s _ .nil)))))) (fun _ => rfl))
              (simt_bif
                (simt_bind fun o4 =>
                  (simt_ite
                    (simt_go hcs (.s _ (.s _ (.s _ (.s _ (.s _ (.s _ .nil)))))) (fun _ => rfl))
                    (simt_go hcs (.s _ (.s _ (.s _ (.s _ (.s _ (.s _ .nil)))))) (fun _ => rfl))))))))))
  (fun _ => rfl))
theorem pfX7_goesSo_b74_l (q : Nat) (hcs : CSm (csF q)) (a0 : Nat) (a1 : Int32) (a2 : Int32) (a3 : Int32) (s : Int32 × Int32) (m : MM) : SimK (loopF 1000 (fX7_goesSo_b74 a0 a1 a2 a3) s m) (hfX7_goesSo_b74 q a0 a1 a2 a3 s m) (kxfX7_goesSo_b74 q a0 a1 a2 a3) :=
  simk_loopF (fun s m => pfX7_goesSo_b74 q hcs a0 a1 a2 a3 s m) 1000 s m
theorem pfX7_goesSo_j71 (q : Nat) (hcs : CSm (csF q)) (a0 : Nat) (a1 : Int32) (a2 : Int32) (a3 : Int32) (a4 : Int32) (m : MM) : SimK (fX7_goesSo_j71 a0 a1 a2 a3 a4 m) (fun n => brun false (0, 0) (csF q) (lkb tX7_goesSo) n 71 [some (aR 7 a0), some (aI a1), some (aI a2), some (aI a3), some (aI a4), none] [] (ST0 q, m)) (kt_X7_goesSo q) :=
  (simk_run hcs 3 [74]
    (simt_loop hcs (.s _ (.s _ (.s _ (.s _ (.s _ (.s _ .nil)))))) (pfX7_goesSo_b74_l q hcs a0 a1 a2 a3 (a4, 1) m) (fun o5 => 
      (simk_run hcs 7 []
        (simt_bind fun o6 =>
          (simt_bz rfl rfl))
      (fun _ => rfl))))
  (fun _ => rfl))
theorem pfX7_goesSo_j39 (q : Nat) (hcs : CSm (csF q)) (a0 : Nat) (a1 : Int32) (a2 : Int32) (a3 : Int32) (z0 : Int32) (m : MM) : SimK (fX7_goesSo_j39 a0 a1 a2 a3 z0 m) (fun n => brun false (0, 0) (csF q) (lkb tX7_goesSo) n 39 [some (aR 7 a0), some (aI a1), some (aI a2), some (aI a3), none, none] [aI z0] (ST0 q, m)) (kt_X7_goesSo q) :=
  (simk_run hcs 21 [71]
    (simt_ite
      (simt_join hcs (.s _ (.s _ (.s _ (.s _ (.s _ (.n _ .nil)))))) (pfX7_goesSo_j71 q hcs a0 a1 a2 a3 z0 m))
      (simt_bif
        (simt_bif
          (simt_bind fun o7 =>
            (simt_bind fun o8 =>
              (simt_join hcs (.s _ (.s _ (.s _ (.s _ (.s _ (.n _ .nil)))))) (pfX7_goesSo_j71 q hcs a0 a1 a2 a3 z0 o8.2)))))))
  (fun _ => rfl))
theorem pfX7_goesSo_j38 (q : Nat) (hcs : CSm (csF q)) (a0 : Nat) (a1 : Int32) (a2 : Int32) (a3 : Int32) (m : MM) : SimK (fX7_goesSo_j38 a0 a1 a2 a3 m) (fun n => brun false (0, 0) (csF q) (lkb tX7_goesSo) n 38 [some (aR 7 a0), some (aI a1), some (aI a2), some (aI a3), none, none] [] (ST0 q, m)) (kt_X7_goesSo q) :=
  (simk_run hcs 2 [39]
    (simt_join hcs (.s _ (.s _ (.s _ (.s _ (.n _ (.n _ .nil)))))) (pfX7_goesSo_j39 q hcs a0 a1 a2 a3 0 m))
  (fun _ => rfl))
theorem pfX7_goesSo (q : Nat) (hcs : CSm (csF q)) (a0 : Nat) (a1 : Int32) (a2 : Int32) (a3 : Int32) (m : MM) : SimK (fX7_goesSo_b a0 a1 a2 a3 m) (fun n => brun false (0, 0) (csF q) (lkb tX7_goesSo) n 0 (entL 6 [aR 7 a0, aI a1, aI a2, aI a3]) [] (ST0 q, m)) (kt_X7_goesSo q) :=
  (simk_run hcs 23 [38, 39]
    (simt_bind fun o1 =>
      (simt_bind fun o2 =>
        (simt_ite
          (simt_join hcs (.s _ (.s _ (.s _ (.s _ (.n _ (.n _ .nil)))))) (pfX7_goesSo_j38 q hcs a0 a1 a2 a3 o2.2))
          (simt_bind fun o9 =>
            (simt_ite
              (simt_join hcs (.s _ (.s _ (.s _ (.s _ (.n _ (.n _ .nil)))))) (pfX7_goesSo_j38 q hcs a0 a1 a2 a3 o9.2))
              (simt_join hcs (.s _ (.s _ (.s _ (.s _ (.n _ (.n _ .nil)))))) (pfX7_goesSo_j39 q hcs a0 a1 a2 a3 1 o9.2)))))))
  (fun _ => rfl))
noncomputable def kt_X7_fits (q : Nat) : Int32 × MM → Nat → Option Out := fun x _ => some (some (aI x.1), (ST0 q, x.2))
noncomputable def hfX7_fits_b91 (q : Nat) (a0 : Nat) (a1 : Int32) (a2 : Int32) (a3 : Int32) (a4 : Int32) (a6 : Int32) (s : Int32 × Int32) (m : MM) (n : Nat) : Option Out := brun false (0, 0) (csF q) (lkb tX7_fits) n 91 [some (aR 7 a0), some (aI a1), some (aI a2), some (aI a3), some (aI a4), none, some (aI a6), some (aI s.1), some (aI s.2)] [] (ST0 q, m)
noncomputable def kxfX7_fits_b91 (q : Nat) (a0 : Nat) (a1 : Int32) (a2 : Int32) (a3 : Int32) (a4 : Int32) (a6 : Int32) (y : (Int32) × MM) (n : Nat) : Option Out := brun false (0, 0) (csF q) (lkb tX7_fits) n 156 [some (aR 7 a0), none, none, some (aI a3), some (aI a4), none, some (aI a6), some (aI y.1), none] [] (ST0 q, y.2)
theorem pfX7_fits_j104 (q : Nat) (hcs : CSm (csF q)) (a0 : Nat) (a1 : Int32) (a2 : Int32) (a3 : Int32) (a4 : Int32) (a6 : Int32) (a7 : Int32) (a8 : Int32) (z0 : Int32) (z1 : Int32) (m : MM) : SimK (fX7_fits_j104 a0 a1 a2 a3 a4 a6 a7 a8 z0 z1 m) (fun n => brun false (0, 0) (csF q) (lkb tX7_fits) n 104 [some (aR 7 a0), some (aI a1), some (aI a2), some (aI a3), some (aI a4), none, some (aI a6), some (aI a7), some (aI a8)] [aI z1, aI z0] (ST0 q, m)) (lpK (hfX7_fits_b91 q a0 a1 a2 a3 a4 a6) (kxfX7_fits_b91 q a0 a1 a2 a3 a4 a6)) :=
  (simk_run hcs 24 [91, 156]
    (simt_ite
      (simt_go hcs (.s _ (.n _ (.n _ (.s _ (.s _ (.n _ (.s _ (.s _ (.n _ .nil))))))))) (fun _ => rfl))
      (simt_ite
        (simt_bif
          (simt_bind fun o9 =>
            (simt_ite
              (simt_go hcs (.s _ (.s _ (.s _ (.s _ (.s _ (.n _ (.s _ (.s _ (.s _ .nil))))))))) (fun _ => rfl))
              (simt_go hcs (.s _ (.s _ (.s _ (.s _ (.s _ (.n _ (.s _ (.s _ (.s _ .nil))))))))) (fun _ => rfl)))))
        (simt_bif
          (simt_bind fun o10 =>
            (simt_ite
              (simt_go hcs (.s _ (.s _ (.s _ (.s _ (.s _ (.n _ (.s _ (.s _ (.s _ .nil))))))))) (fun _ => rfl))
              (simt_go hcs (.s _ (.s _ (.s _ (.s _ (.s _ (.n _ (.s _ (.s _ (.s _ .nil))))))))) (fun _ => rfl)))))))
  (fun _ => rfl))
theorem pfX7_fits_b91 (q : Nat) (hcs : CSm (csF q)) (a0 : Nat) (a1 : Int32) (a2 : Int32) (a3 : Int32) (a4 : Int32) (a6 : Int32) (s : Int32 × Int32) (m : MM) : SimK (fX7_fits_b91 a0 a1 a2 a3 a4 a6 s m) (hfX7_fits_b91 q a0 a1 a2 a3 a4 a6 s m) (lpK (hfX7_fits_b91 q a0 a1 a2 a3 a4 a6) (kxfX7_fits_b91 q a0 a1 a2 a3 a4 a6)) :=
  (simk_run hcs 6 [104]
    (simt_ite
      (simt_join hcs (.s _ (.s _ (.s _ (.s _ (.s _ (.n _ (.s _ (.s _ (.s _ .nil))))))))) (pfX7_fits_j104 q hcs a0 a1 a2 a3 a4 a6 s.1 s.2 s.2 6 m))
      (simt_join hcs (.s _ (.s _ (.s _ (.s _ (.s _ (.n _ (.s _ (.s _ (.s _ .nil))))))))) (pfX7_fits_j104 q hcs a0 a1 a2 a3 a4 a6 s.1 s.2 s.2 5 m)))
  (fun _ => rfl))
theorem pfX7_fits_b91_l (q : Nat) (hcs : CSm (csF q)) (a0 : Nat) (a1 : Int32) (a2 : Int32) (a3 : Int32) (a4 : Int32) (a6 : Int32) (s : Int32 × Int32) (m : MM) : SimK (loopF 1000 (fX7_fits_b91 a0 a1 a2 a3 a4 a6) s m) (hfX7_fits_b91 q a0 a1 a2 a3 a4 a6 s m) (kxfX7_fits_b91 q a0 a1 a2 a3 a4 a6) :=
  simk_loopF (fun s m => pfX7_fits_b91 q hcs a0 a1 a2 a3 a4 a6 s m) 1000 s m
theorem pfX7_fits_j83 (q : Nat) (hcs : CSm (csF q)) (a0 : Nat) (a1 : Int32) (a2 : Int32) (a3 : Int32) (a4 : Int32) (z0 : Int32) (m : MM) : SimK (fX7_fits_j83 a0 a1 a2 a3 a4 z0 m) (fun n => brun false (0, 0) (csF q) (lkb tX7_fits) n 83 [some (aR 7 a0), some (aI a1), some (aI a2), some (aI a3), some (aI a4), none, none, none, none] [aI z0] (ST0 q, m)) (kt_X7_fits q) :=
  (simk_run hcs 6 [91]
    (simt_loop hcs (.s _ (.s _ (.s _ (.s _ (.s _ (.n _ (.s _ (.s _ (.s _ .nil))))))))) (pfX7_fits_b91_l q hcs a0 a1 a2 a3 a4 z0 (0, 0) m) (fun o11 => 
      (simk_run hcs 11 []
        (simt_ite
          (simt_bif
            (simt_ret (some (some (aI o11.1), (ST0 q, ((upI o11.2.1 52 0 a3.toNatClampNeg z0), o11.2.2)))) (fun _ => rfl)))
          (simt_bif
            (simt_ret (some (some (aI o11.1), (ST0 q, ((upI o11.2.1 51 0 (0 : Int32).toNatClampNeg z0), o11.2.2)))) (fun _ => rfl))))
      (fun _ => rfl))))
  (fun _ => rfl))
theorem pfX7_fits (q : Nat) (hcs : CSm (csF q)) (a0 : Nat) (a1 : Int32) (a2 : Int32) (a3 : Int32) (a4 : Int32) (m : MM) : SimK (fX7_fits_b a0 a1 a2 a3 a4 m) (fun n => brun false (0, 0) (csF q) (lkb tX7_fits) n 0 (entL 9 [aR 7 a0, aI a1, aI a2, aI a3, aI a4]) [] (ST0 q, m)) (kt_X7_fits q) :=
  (simk_run hcs 32 [83]
    (simt_bind fun o1 =>
      (simt_ite
        (simt_bind fun o2 =>
          (simt_ret (some (some (aI o2.1), (ST0 q, o2.2))) (fun _ => rfl)))
        (simt_bind fun o3 =>
          (simt_ite
            (simt_bind fun o4 =>
              (simt_ret (some (some (aI o4.1), (ST0 q, o4.2))) (fun _ => rfl)))
            (simt_bind fun o5 =>
              (simt_ite
                (simt_bind fun o6 =>
                  (simt_ret (some (some (aI o6.1), (ST0 q, o6.2))) (fun _ => rfl)))
                (simt_bind fun o7 =>
                  (simt_ite
                    (simt_bind fun o8 =>
                      (simt_ite
                        (simt_ite
                          (simt_bif
                            (simt_join hcs (.s _ (.s _ (.s _ (.s _ (.s _ (.n _ (.n _ (.n _ (.n _ .nil))))))))) (pfX7_fits_j83 q hcs a0 a1 a2 a3 a4 (o8.2.1 52 0 a3.toNatClampNeg) o8.2)))
                          (simt_bif
                            (simt_join hcs (.s _ (.s _ (.s _ (.s _ (.s _ (.n _ (.n _ (.n _ (.n _ .nil))))))))) (pfX7_fits_j83 q hcs a0 a1 a2 a3 a4 (o8.2.1 51 0 (0 : Int32).toNatClampNeg) o8.2))))
                        (simt_bind fun o12 =>
                          (simt_ret (some (some (aI o12.1), (ST0 q, o12.2))) (fun _ => rfl)))))
                    (simt_bind fun o13 =>
                      (simt_ret (some (some (aI o13.1), (ST0 q, o13.2))) (fun _ => rfl)))))))))))
  (fun _ => rfl))
noncomputable def kt_X7_from (q : Nat) : Int32 × MM → Nat → Option Out := fun x _ => some (some (aI x.1), (ST0 q, x.2))
noncomputable def hfX7_from_b40 (q : Nat) (a0 : Nat) (a1 : Int32) (a2 : Int32) (a3 : Int32) (s : Int32 × Int32) (m : MM) (n : Nat) : Option Out := brun false (0, 0) (csF q) (lkb tX7_from) n 40 [some (aR 7 a0), some (aI a1), some (aI a2), some (aI a3), some (aI s.1), some (aI s.2)] [] (ST0 q, m)
noncomputable def kxfX7_from_b40 (q : Nat) (a0 : Nat) (a1 : Int32) (a2 : Int32) (a3 : Int32) (y : (Int32) × MM) (n : Nat) : Option Out := brun false (0, 0) (csF q) (lkb tX7_from) n 125 [none, none, none, none, some (aI y.1), none] [] (ST0 q, y.2)
theorem pfX7_from_b40 (q : Nat) (hcs : CSm (csF q)) (a0 : Nat) (a1 : Int32) (a2 : Int32) (a3 : Int32) (s : Int32 × Int32) (m : MM) : SimK (fX7_from_b40 a0 a1 a2 a3 s m) (hfX7_from_b40 q a0 a1 a2 a3 s m) (lpK (hfX7_from_b40 q a0 a1 a2 a3) (kxfX7_from_b40 q a0 a1 a2 a3)) :=
  (simk_run hcs 49 [40, 125]
    (simt_ite
      (simt_go hcs (.n _ (.n _ (.n _ (.n _ (.s _ (.n _ .nil)))))) (fun _ => rfl))
      (simt_bind fun o6 =>
        (simt_bif
          (simt_bif
            (simt_bind fun o7 =>
              (simt_bind fun o8 =>
                (simt_bif
                  (simt_ite
                    (simt_bind fun o9 =>
                      (simt_go hcs (.s _ (.s _ (.s _ (.s _ (.s _ (.s _ .nil)))))) (fun _ => rfl)))
                    (simt_bif
                      (simt_ite
                        (simt_bind fun o10 =>
                          (simt_go hcs (.s _ (.s _ (.s _ (.s _ (.s _ (.s _ .nil)))))) (fun _ => rfl)))
                        (simt_bind fun o11 =>
                          (simt_go hcs (.s _ (.s _ (.s _ (.s _ (.s _ (.s _ .nil)))))) (fun _ => rfl)))))))))))))
  (fun _ => rfl))
theorem pfX7_from_b40_l (q : Nat) (hcs : CSm (csF q)) (a0 : Nat) (a1 : Int32) (a2 : Int32) (a3 : Int32) (s : Int32 × Int32) (m : MM) : SimK (loopF 1000 (fX7_from_b40 a0 a1 a2 a3) s m) (hfX7_from_b40 q a0 a1 a2 a3 s m) (kxfX7_from_b40 q a0 a1 a2 a3) :=
  simk_loopF (fun s m => pfX7_from_b40 q hcs a0 a1 a2 a3 s m) 1000 s m
theorem pfX7_from (q : Nat) (hcs : CSm (csF q)) (a0 : Nat) (a1 : Int32) (a2 : Int32) (a3 : Int32) (m : MM) : SimK (fX7_from_b a0 a1 a2 a3 m) (fun n => brun false (0, 0) (csF q) (lkb tX7_from) n 0 (entL 6 [aR 7 a0, aI a1, aI a2, aI a3]) [] (ST0 q, m)) (kt_X7_from q) :=
  (simk_run hcs 18 [40]
    (simt_bind fun o1 =>
      (simt_ite
        (simt_bind fun o2 =>
          (simt_ret (some (some (aI o2.1), (ST0 q, o2.2))) (fun _ => rfl)))
        (simt_bind fun o3 =>
          (simt_ite
            (simt_bind fun o4 =>
              (simt_ret (some (some (aI o4.1), (ST0 q, o4.2))) (fun _ => rfl)))
            (simt_bind fun o5 =>
              (simt_ite
                (simt_loop hcs (.s _ (.s _ (.s _ (.s _ (.s _ (.s _ .nil)))))) (pfX7_from_b40_l q hcs a0 a1 a2 a3 (0, 0) o5.2) (fun o12 => 
                  (simk_run hcs 3 []
                    (simt_ret (some (some (aI o12.1), (ST0 q, o12.2))) (fun _ => rfl))
                  (fun _ => rfl))))
                (simt_bind fun o13 =>
                  (simt_ret (some (some (aI o13.1), (ST0 q, o13.2))) (fun _ => rfl)))))))))
  (fun _ => rfl))
noncomputable def kt_X7_tries (q : Nat) : Unit × MM → Nat → Option Out := fun x _ => some (none, (ST0 q, x.2))
noncomputable def hfX7_tries_b79 (q : Nat) (rc : Nat → Int32 → Int32 → Int32 → Int32 → Int32 → MM → Option (Unit × MM)) (a0 : Nat) (a1 : Int32) (a2 : Int32) (a3 : Int32) (a4 : Int32) (a5 : Int32) (s : Int32) (m : MM) (n : Nat) : Option Out := brun false (0, 0) (csT q rc) (lkb tX7_tries) n 79 [some (aR 7 a0), some (aI a1), some (aI a2), some (aI a3), some (aI a4), some (aI a5), some (aI s), none] [] (ST0 q, m)
noncomputable def kxfX7_tries_b79 (q : Nat) (rc : Nat → Int32 → Int32 → Int32 → Int32 → Int32 → MM → Option (Unit × MM)) (a0 : Nat) (a1 : Int32) (a2 : Int32) (a3 : Int32) (a4 : Int32) (a5 : Int32) (y : (Unit) × MM) (n : Nat) : Option Out := brun false (0, 0) (csT q rc) (lkb tX7_tries) n 165 [some (aR 7 a0), some (aI a1), some (aI a2), some (aI a3), some (aI a4), some (aI a5), none, none] [] (ST0 q, y.2)
theorem pfX7_tries_b79 (q : Nat) (rc : Nat → Int32 → Int32 → Int32 → Int32 → Int32 → MM → Option (Unit × MM)) (hcs : CSm (csT q rc)) (a0 : Nat) (a1 : Int32) (a2 : Int32) (a3 : Int32) (a4 : Int32) (a5 : Int32) (s : Int32) (m : MM) : SimK (fX7_tries_b79 rc a0 a1 a2 a3 a4 a5 s m) (hfX7_tries_b79 q rc a0 a1 a2 a3 a4 a5 s m) (lpK (hfX7_tries_b79 q rc a0 a1 a2 a3 a4 a5) (kxfX7_tries_b79 q rc a0 a1 a2 a3 a4 a5)) :=
  (simk_run hcs 51 [79, 165]
    (simt_ite
      (simt_go hcs (.s _ (.s _ (.s _ (.s _ (.s _ (.s _ (.n _ (.n _ .nil)))))))) (fun _ => rfl))
      (simt_bif
        (simt_ite
          (simt_go hcs (.s _ (.s _ (.s _ (.s _ (.s _ (.s _ (.s _ (.n _ .nil)))))))) (fun _ => rfl))
          (simt_ite
            (simt_go hcs (.s _ (.s _ (.s _ (.s _ (.s _ (.s _ (.s _ (.n _ .nil)))))))) (fun _ => rfl))
            (simt_ite
              (simt_bif
                (simt_bind fun o1 =>
                  (simt_go hcs (.s _ (.s _ (.s _ (.s _ (.s _ (.s _ (.s _ (.n _ .nil)))))))) (fun _ => rfl))))
              (simt_go hcs (.s _ (.s _ (.s _ (.s _ (.s _ (.s _ (.s _ (.n _ .nil)))))))) (fun _ => rfl)))))))
  (fun _ => rfl))
theorem pfX7_tries_b79_l (q : Nat) (rc : Nat → Int32 → Int32 → Int32 → Int32 → Int32 → MM → Option (Unit × MM)) (hcs : CSm (csT q rc)) (a0 : Nat) (a1 : Int32) (a2 : Int32) (a3 : Int32) (a4 : Int32) (a5 : Int32) (s : Int32) (m : MM) : SimK (loopF 1000 (fX7_tries_b79 rc a0 a1 a2 a3 a4 a5) s m) (hfX7_tries_b79 q rc a0 a1 a2 a3 a4 a5 s m) (kxfX7_tries_b79 q rc a0 a1 a2 a3 a4 a5) :=
  simk_loopF (fun s m => pfX7_tries_b79 q rc hcs a0 a1 a2 a3 a4 a5 s m) 1000 s m
noncomputable def hfX7_tries_b48 (q : Nat) (rc : Nat → Int32 → Int32 → Int32 → Int32 → Int32 → MM → Option (Unit × MM)) (a0 : Nat) (s : Int32) (m : MM) (n : Nat) : Option Out := brun false (0, 0) (csT q rc) (lkb tX7_tries) n 48 [some (aR 7 a0), none, none, none, none, none, some (aI s), none] [] (ST0 q, m)
noncomputable def kxfX7_tries_b48 (q : Nat) (rc : Nat → Int32 → Int32 → Int32 → Int32 → Int32 → MM → Option (Unit × MM)) (a0 : Nat) (y : (Unit) × MM) (n : Nat) : Option Out := brun false (0, 0) (csT q rc) (lkb tX7_tries) n 75 [none, none, none, none, none, none, none, none] [] (ST0 q, y.2)
theorem pfX7_tries_b48 (q : Nat) (rc : Nat → Int32 → Int32 → Int32 → Int32 → Int32 → MM → Option (Unit × MM)) (hcs : CSm (csT q rc)) (a0 : Nat) (s : Int32) (m : MM) : SimK (fX7_tries_b48 rc a0 s m) (hfX7_tries_b48 q rc a0 s m) (lpK (hfX7_tries_b48 q rc a0) (kxfX7_tries_b48 q rc a0)) :=
  (simk_run hcs 14 [48, 75]
    (simt_ite
      (simt_go hcs (.n _ (.n _ (.n _ (.n _ (.n _ (.n _ (.n _ (.n _ .nil)))))))) (fun _ => rfl))
      (simt_bif
        (simt_bif
          (simt_go hcs (.s _ (.n _ (.n _ (.n _ (.n _ (.n _ (.s _ (.n _ .nil)))))))) (fun _ => rfl)))))
  (fun _ => rfl))
theorem pfX7_tries_b48_l (q : Nat) (rc : Nat → Int32 → Int32 → Int32 → Int32 → Int32 → MM → Option (Unit × MM)) (hcs : CSm (csT q rc)) (a0 : Nat) (s : Int32) (m : MM) : SimK (loopF 1000 (fX7_tries_b48 rc a0) s m) (hfX7_tries_b48 q rc a0 s m) (kxfX7_tries_b48 q rc a0) :=
  simk_loopF (fun s m => pfX7_tries_b48 q rc hcs a0 s m) 1000 s m
theorem pfX7_tries_j34 (q : Nat) (rc : Nat → Int32 → Int32 → Int32 → Int32 → Int32 → MM → Option (Unit × MM)) (hcs : CSm (csT q rc)) (a0 : Nat) (a3 : Int32) (a4 : Int32) (m : MM) : SimK (fX7_tries_j34 rc a0 a3 a4 m) (fun n => brun false (0, 0) (csT q rc) (lkb tX7_tries) n 34 [some (aR 7 a0), none, none, some (aI a3), some (aI a4), none, none, none] [] (ST0 q, m)) (kt_X7_tries q) :=
  (simk_run hcs 9 [48]
    (simt_loop hcs (.s _ (.n _ (.n _ (.n _ (.n _ (.n _ (.s _ (.n _ .nil)))))))) (pfX7_tries_b48_l q rc hcs a0 0 ((upI (upI m.1 7 a0 30 a3) 7 a0 31 a4), m.2)) (fun o4 => 
      (simk_run hcs 2 []
        (simt_ret (some (none, (ST0 q, o4.2))) (fun _ => rfl))
      (fun _ => rfl))))
  (fun _ => rfl))
theorem pfX7_tries (q : Nat) (rc : Nat → Int32 → Int32 → Int32 → Int32 → Int32 → MM → Option (Unit × MM)) (hcs : CSm (csT q rc)) (a0 : Nat) (a1 : Int32) (a2 : Int32) (a3 : Int32) (a4 : Int32) (a5 : Int32) (m : MM) : SimK (fX7_tries_s rc a0 a1 a2 a3 a4 a5 m) (fun n => brun false (0, 0) (csT q rc) (lkb tX7_tries) n 0 (entL 8 [aR 7 a0, aI a1, aI a2, aI a3, aI a4, aI a5]) [] (ST0 q, m)) (kt_X7_tries q) :=
  (simk_run hcs 18 [34, 79]
    (simt_ite
      (simt_loop hcs (.s _ (.s _ (.s _ (.s _ (.s _ (.s _ (.s _ (.n _ .nil)))))))) (pfX7_tries_b79_l q rc hcs a0 a1 a2 a3 a4 a5 0 m) (fun o2 => 
        (simk_run hcs 16 []
          (simt_bif
            (simt_bind fun o3 =>
              (simt_ret (some (none, (ST0 q, o3.2))) (fun _ => rfl))))
        (fun _ => rfl))))
      (simt_ite
        (simt_ret (some (none, (ST0 q, m))) (fun _ => rfl))
        (simt_ite
          (simt_join hcs (.s _ (.n _ (.n _ (.s _ (.s _ (.n _ (.n _ (.n _ .nil)))))))) (pfX7_tries_j34 q rc hcs a0 a3 a4 m))
          (simt_ite
            (simt_join hcs (.s _ (.n _ (.n _ (.s _ (.s _ (.n _ (.n _ (.n _ .nil)))))))) (pfX7_tries_j34 q rc hcs a0 a3 a4 m))
            (simt_ret (some (none, (ST0 q, m))) (fun _ => rfl))))))
  (fun _ => rfl))
noncomputable def kt_X7_pairs (q : Nat) : Int32 × MM → Nat → Option Out := fun x _ => some (some (aI x.1), (ST0 q, x.2))
noncomputable def hfX7_pairs_b49 (q : Nat) (a0 : Nat) (a1 : Int32) (a2 : Int32) (a3 : Int32) (s : Int32) (m : MM) (n : Nat) : Option Out := brun false (0, 0) (csF q) (lkb tX7_pairs) n 49 [some (aR 7 a0), some (aI a1), some (aI a2), some (aI a3), some (aI s)] [] (ST0 q, m)
noncomputable def kxfX7_pairs_b49 (q : Nat) (a0 : Nat) (a1 : Int32) (a2 : Int32) (a3 : Int32) (y : (Unit) × MM) (n : Nat) : Option Out := brun false (0, 0) (csF q) (lkb tX7_pairs) n 83 [some (aR 7 a0), some (aI a1), some (aI a2), some (aI a3), none] [] (ST0 q, y.2)
theorem pfX7_pairs_b49 (q : Nat) (hcs : CSm (csF q)) (a0 : Nat) (a1 : Int32) (a2 : Int32) (a3 : Int32) (s : Int32) (m : MM) : SimK (fX7_pairs_b49 a0 a1 a2 a3 s m) (hfX7_pairs_b49 q a0 a1 a2 a3 s m) (lpK (hfX7_pairs_b49 q a0 a1 a2 a3) (kxfX7_pairs_b49 q a0 a1 a2 a3)) :=
  (simk_run hcs 19 [49, 83]
    (simt_ite
      (simt_go hcs (.s _ (.s _ (.s _ (.s _ (.n _ .nil))))) (fun _ => rfl))
      (simt_bind fun o4 =>
        (simt_bif
          (simt_go hcs (.s _ (.s _ (.s _ (.s _ (.s _ .nil))))) (fun _ => rfl)))))
  (fun _ => rfl))
theorem pfX7_pairs_b49_l (q : Nat) (hcs : CSm (csF q)) (a0 : Nat) (a1 : Int32) (a2 : Int32) (a3 : Int32) (s : Int32) (m : MM) : SimK (loopF 1000 (fX7_pairs_b49 a0 a1 a2 a3) s m) (hfX7_pairs_b49 q a0 a1 a2 a3 s m) (kxfX7_pairs_b49 q a0 a1 a2 a3) :=
  simk_loopF (fun s m => pfX7_pairs_b49 q hcs a0 a1 a2 a3 s m) 1000 s m
noncomputable def hfX7_pairs_b38 (q : Nat) (a0 : Nat) (a1 : Int32) (a2 : Int32) (s : Int32) (m : MM) (n : Nat) : Option Out := brun false (0, 0) (csF q) (lkb tX7_pairs) n 38 [some (aR 7 a0), some (aI a1), some (aI a2), some (aI s), none] [] (ST0 q, m)
noncomputable def kxfX7_pairs_b38 (q : Nat) (a0 : Nat) (a1 : Int32) (a2 : Int32) (y : (Unit) × MM) (n : Nat) : Option Out := brun false (0, 0) (csF q) (lkb tX7_pairs) n 89 [some (aR 7 a0), some (aI a1), some (aI a2), none, none] [] (ST0 q, y.2)
theorem pfX7_pairs_b38 (q : Nat) (hcs : CSm (csF q)) (a0 : Nat) (a1 : Int32) (a2 : Int32) (s : Int32) (m : MM) : SimK (fX7_pairs_b38 a0 a1 a2 s m) (hfX7_pairs_b38 q a0 a1 a2 s m) (lpK (hfX7_pairs_b38 q a0 a1 a2) (kxfX7_pairs_b38 q a0 a1 a2)) :=
  (simk_run hcs 7 [49, 89]
    (simt_ite
      (simt_go hcs (.s _ (.s _ (.s _ (.n _ (.n _ .nil))))) (fun _ => rfl))
      (simt_loop hcs (.s _ (.s _ (.s _ (.s _ (.s _ .nil))))) (pfX7_pairs_b49_l q hcs a0 a1 a2 s 0 m) (fun o5 => 
        (simk_run hcs 3 [38]
          (simt_go hcs (.s _ (.s _ (.s _ (.s _ (.n _ .nil))))) (fun _ => rfl))
        (fun _ => rfl)))))
  (fun _ => rfl))
theorem pfX7_pairs_b38_l (q : Nat) (hcs : CSm (csF q)) (a0 : Nat) (a1 : Int32) (a2 : Int32) (s : Int32) (m : MM) : SimK (loopF 1000 (fX7_pairs_b38 a0 a1 a2) s m) (hfX7_pairs_b38 q a0 a1 a2 s m) (kxfX7_pairs_b38 q a0 a1 a2) :=
  simk_loopF (fun s m => pfX7_pairs_b38 q hcs a0 a1 a2 s m) 1000 s m
theorem pfX7_pairs_j36 (q : Nat) (hcs : CSm (csF q)) (a0 : Nat) (a1 : Int32) (a2 : Int32) (m : MM) : SimK (fX7_pairs_j36 a0 a1 a2 m) (fun n => brun false (0, 0) (csF q) (lkb tX7_pairs) n 36 [some (aR 7 a0), some (aI a1), some (aI a2), none, none] [] (ST0 q, m)) (kt_X7_pairs q) :=
  (simk_run hcs 3 [38]
    (simt_loop hcs (.s _ (.s _ (.s _ (.s _ (.n _ .nil))))) (pfX7_pairs_b38_l q hcs a0 a1 a2 0 m) (fun o6 => 
      (simk_run hcs 25 []
        (simt_bind fun o7 =>
          (simt_ite
            (simt_ite
              (simt_bif
                (simt_ret (some (some (aI (o7.2.1 67 0 a2.toNatClampNeg)), (ST0 q, o7.2))) (fun _ => rfl)))
              (simt_ret (some (some (aI (o7.2.1 7 a0 31)), (ST0 q, o7.2))) (fun _ => rfl)))
            (simt_ret (some (some (aI (o7.2.1 7 a0 30)), (ST0 q, o7.2))) (fun _ => rfl))))
      (fun _ => rfl))))
  (fun _ => rfl))
theorem pfX7_pairs (q : Nat) (hcs : CSm (csF q)) (a0 : Nat) (a1 : Int32) (a2 : Int32) (m : MM) : SimK (fX7_pairs_b a0 a1 a2 m) (fun n => brun false (0, 0) (csF q) (lkb tX7_pairs) n 0 (entL 5 [aR 7 a0, aI a1, aI a2]) [] (ST0 q, m)) (kt_X7_pairs q) :=
  (simk_run hcs 19 [36]
    (simt_bind fun o1 =>
      (simt_ite
        (simt_bind fun o2 =>
          (simt_ret (some (some (aI o2.1), (ST0 q, o2.2))) (fun _ => rfl)))
        (simt_bind fun o3 =>
          (simt_ite
            (simt_join hcs (.s _ (.s _ (.s _ (.n _ (.n _ .nil))))) (pfX7_pairs_j36 q hcs a0 a1 a2 o3.2))
            (simt_bind fun o8 =>
              (simt_ite
                (simt_join hcs (.s _ (.s _ (.s _ (.n _ (.n _ .nil))))) (pfX7_pairs_j36 q hcs a0 a1 a2 o8.2))
                (simt_bind fun o9 =>
                  (simt_ret (some (some (aI o9.1), (ST0 q, o9.2))) (fun _ => rfl)))))))))
  (fun _ => rfl))
