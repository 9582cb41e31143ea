/-! THE FUNCTIONS ARE THE RUNS, 5 -/
set_option maxRecDepth 20000
set_option maxHeartbeats 4000000
noncomputable def kt_X7_set (q : Nat) : Int32 × MM → Nat → Option Out := fun x _ => some (some (aI x.1), (ST0 q, x.2))
theorem pfX7_set (q : Nat) (hcs : CSm (csF q)) (a0 : Nat) (a1 : Int32) (a2 : Int32) (a3 : Int64) (m : MM) : SimK (fX7_set_b a0 a1 a2 a3 m) (fun n => brun false (0, 0) (csF q) (lkb tX7_set) n 0 (entL 5 [aR 7 a0, aI a1, aI a2, aL a3]) [] (ST0 q, m)) (kt_X7_set q) :=
  (simk_run hcs 34 []
    (simt_bind fun o1 =>
      (simt_ite
        (simt_bind fun o2 =>
          (simt_ite
            (simt_bif
              (simt_bind fun o3 =>
                (simt_ite
                  (simt_bif
                    (simt_bind fun o4 =>
                      (simt_bif
                        (simt_ret (some (some (aI 1), (ST0 q, (o4.2.1, (upL o4.2.2 21 0 ((40 * a1) + a2).toNatClampNeg o4.1))))) (fun _ => rfl)))))
                  (simt_bind fun o5 =>
                    (simt_ret (some (some (aI o5.1), (ST0 q, o5.2))) (fun _ => rfl))))))
            (simt_bind fun o6 =>
              (simt_bind fun o7 =>
                (simt_ret (some (some (aI o7.1), (ST0 q, o7.2))) (fun _ => rfl))))))
        (simt_bind fun o8 =>
          (simt_ret (some (some (aI o8.1), (ST0 q, o8.2))) (fun _ => rfl)))))
  (fun _ => rfl))
noncomputable def kt_X7_copy (q : Nat) : Int32 × MM → Nat → Option Out := fun x _ => some (some (aI x.1), (ST0 q, x.2))
noncomputable def hfX7_copy_b229 (q : Nat) (a0 : Nat) (a1 : Int32) (a2 : Int32) (a3 : Int32) (a4 : Int32) (a5 : Int32) (s : Int32) (m : MM) (n : Nat) : Option Out := brun false (0, 0) (csF q) (lkb tX7_copy) n 229 [some (aR 7 a0), some (aI a1), some (aI a2), some (aI a3), some (aI a4), some (aI a5), some (aI s)] [] (ST0 q, m)
noncomputable def kxfX7_copy_b229 (q : Nat) (a0 : Nat) (a1 : Int32) (a2 : Int32) (a3 : Int32) (a4 : Int32) (a5 : Int32) (y : (Unit) × MM) (n : Nat) : Option Out := brun false (0, 0) (csF q) (lkb tX7_copy) n 271 [none, none, none, none, none, some (aI a5), none] [] (ST0 q, y.2)
theorem pfX7_copy_b229 (q : Nat) (hcs : CSm (csF q)) (a0 : Nat) (a1 : Int32) (a2 : Int32) (a3 : Int32) (a4 : Int32) (a5 : Int32) (s : Int32) (m : MM) : SimK (fX7_copy_b229 a0 a1 a2 a3 a4 a5 s m) (hfX7_copy_b229 q a0 a1 a2 a3 a4 a5 s m) (lpK (hfX7_copy_b229 q a0 a1 a2 a3 a4 a5) (kxfX7_copy_b229 q a0 a1 a2 a3 a4 a5)) :=
  (simk_run hcs 26 [229, 271]
    (simt_ite
      (simt_go hcs (.n _ (.n _ (.n _ (.n _ (.n _ (.s _ (.n _ .nil))))))) (fun _ => rfl))
      (simt_bif
        (simt_bif
          (simt_go hcs (.s _ (.s _ (.s _ (.s _ (.s _ (.s _ (.s _ .nil))))))) (fun _ => rfl)))))
  (fun _ => rfl))
theorem pfX7_copy_b229_l (q : Nat) (hcs : CSm (csF q)) (a0 : Nat) (a1 : Int32) (a2 : Int32) (a3 : Int32) (a4 : Int32) (a5 : Int32) (s : Int32) (m : MM) : SimK (loopF 1000 (fX7_copy_b229 a0 a1 a2 a3 a4 a5) s m) (hfX7_copy_b229 q a0 a1 a2 a3 a4 a5 s m) (kxfX7_copy_b229 q a0 a1 a2 a3 a4 a5) :=
  simk_loopF (fun s m => pfX7_copy_b229 q hcs a0 a1 a2 a3 a4 a5 s m) 1000 s m
noncomputable def hfX7_copy_b183 (q : Nat) (a0 : Nat) (a1 : Int32) (a2 : Int32) (a3 : Int32) (a4 : Int32) (a5 : Int32) (s : Int32) (m : MM) (n : Nat) : Option Out := brun false (0, 0) (csF q) (lkb tX7_copy) n 183 [some (aR 7 a0), some (aI a1), some (aI a2), some (aI a3), some (aI a4), some (aI a5), some (aI s)] [] (ST0 q, m)
noncomputable def kxfX7_copy_b183 (q : Nat) (a0 : Nat) (a1 : Int32) (a2 : Int32) (a3 : Int32) (a4 : Int32) (a5 : Int32) (y : (Unit) × MM) (n : Nat) : Option Out := brun false (0, 0) (csF q) (lkb tX7_copy) n 223 [none, none, none, none, none, some (aI a5), none] [] (ST0 q, y.2)
theorem pfX7_copy_b183 (q : Nat) (hcs : CSm (csF q)) (a0 : Nat) (a1 : Int32) (a2 : Int32) (a3 : Int32) (a4 : Int32) (a5 : Int32) (s : Int32) (m : MM) : SimK (fX7_copy_b183 a0 a1 a2 a3 a4 a5 s m) (hfX7_copy_b183 q a0 a1 a2 a3 a4 a5 s m) (lpK (hfX7_copy_b183 q a0 a1 a2 a3 a4 a5) (kxfX7_copy_b183 q a0 a1 a2 a3 a4 a5)) :=
  (simk_run hcs 25 [183, 223]
    (simt_ite
      (simt_go hcs (.n _ (.n _ (.n _ (.n _ (.n _ (.s _ (.n _ .nil))))))) (fun _ => rfl))
      (simt_bif
        (simt_bif
          (simt_go hcs (.s _ (.s _ (.s _ (.s _ (.s _ (.s _ (.s _ .nil))))))) (fun _ => rfl)))))
  (fun _ => rfl))
theorem pfX7_copy_b183_l (q : Nat) (hcs : CSm (csF q)) (a0 : Nat) (a1 : Int32) (a2 : Int32) (a3 : Int32) (a4 : Int32) (a5 : Int32) (s : Int32) (m : MM) : SimK (loopF 1000 (fX7_copy_b183 a0 a1 a2 a3 a4 a5) s m) (hfX7_copy_b183 q a0 a1 a2 a3 a4 a5 s m) (kxfX7_copy_b183 q a0 a1 a2 a3 a4 a5) :=
  simk_loopF (fun s m => pfX7_copy_b183 q hcs a0 a1 a2 a3 a4 a5 s m) 1000 s m
theorem pfX7_copy_j226 (q : Nat) (hcs : CSm (csF q)) (a0 : Nat) (a1 : Int32) (a2 : Int32) (a3 : Int32) (a4 : Int32) (a5 : Int32) (m : MM) : SimK (fX7_copy_j226 a0 a1 a2 a3 a4 a5 m) (fun n => brun false (0, 0) (csF q) (lkb tX7_copy) n 226 [some (aR 7 a0), some (aI a1), some (aI a2), some (aI a3), some (aI a4), some (aI a5), none] [] (ST0 q, m)) (kt_X7_copy q) :=
  (simk_run hcs 3 [229]
    (simt_loop hcs (.s _ (.s _ (.s _ (.s _ (.s _ (.s _ (.s _ .nil))))))) (pfX7_copy_b229_l q hcs a0 a1 a2 a3 a4 a5 0 m) (fun o12 => 
      (simk_run hcs 3 []
        (simt_ret (some (some (aI a5), (ST0 q, o12.2))) (fun _ => rfl))
      (fun _ => rfl))))
  (fun _ => rfl))
theorem pfX7_copy_j83 (q : Nat) (hcs : CSm (csF q)) (a0 : Nat) (a1 : Int32) (a2 : Int32) (a3 : Int32) (a4 : Int32) (a5 : Int32) (m : MM) : SimK (fX7_copy_j83 a0 a1 a2 a3 a4 a5 m) (fun n => brun false (0, 0) (csF q) (lkb tX7_copy) n 83 [some (aR 7 a0), some (aI a1), some (aI a2), some (aI a3), some (aI a4), some (aI a5), none] [] (ST0 q, m)) (kt_X7_copy q) :=
  (simk_run hcs 51 [183, 226]
    (simt_bif
      (simt_ite
        (simt_bind fun o7 =>
          (simt_ret (some (some (aI o7.1), (ST0 q, o7.2))) (fun _ => rfl)))
        (simt_bif
          (simt_ite
            (simt_ite
              (simt_bind fun o8 =>
                (simt_ret (some (some (aI o8.1), (ST0 q, o8.2))) (fun _ => rfl)))
              (simt_ite
                (simt_bind fun o9 =>
                  (simt_ret (some (some (aI o9.1), (ST0 q, o9.2))) (fun _ => rfl)))
                (simt_ite
                  (simt_bind fun o10 =>
                    (simt_ret (some (some (aI o10.1), (ST0 q, o10.2))) (fun _ => rfl)))
                  (simt_bif
                    (simt_ite
                      (simt_bind fun o11 =>
                        (simt_ret (some (some (aI o11.1), (ST0 q, o11.2))) (fun _ => rfl)))
                      (simt_bif
                        (simt_ite
                          (simt_ite
                            (simt_join hcs (.s _ (.s _ (.s _ (.s _ (.s _ (.s _ (.n _ .nil))))))) (pfX7_copy_j226 q hcs a0 a1 a2 a3 a4 a5 m))
                            (simt_ite
                              (simt_join hcs (.s _ (.s _ (.s _ (.s _ (.s _ (.s _ (.n _ .nil))))))) (pfX7_copy_j226 q hcs a0 a1 a2 a3 a4 a5 m))
                              (simt_loop hcs (.s _ (.s _ (.s _ (.s _ (.s _ (.s _ (.s _ .nil))))))) (pfX7_copy_b183_l q hcs a0 a1 a2 a3 a4 a5 (a5 - 1) m) (fun o13 => 
                                (simk_run hcs 4 []
                                  (simt_ret (some (some (aI a5), (ST0 q, o13.2))) (fun _ => rfl))
                                (fun _ => rfl))))))
                          (simt_bind fun o14 =>
                            (simt_ret (some (some (aI o14.1), (ST0 q, o14.2))) (fun _ => rfl))))))))))
            (simt_bind fun o15 =>
              (simt_ret (some (some (aI o15.1), (ST0 q, o15.2))) (fun _ => rfl)))))))
  (fun _ => rfl))
theorem pfX7_copy (q : Nat) (hcs : CSm (csF q)) (a0 : Nat) (a1 : Int32) (a2 : Int32) (a3 : Int32) (a4 : Int32) (a5 : Int32) (m : MM) : SimK (fX7_copy_b a0 a1 a2 a3 a4 a5 m) (fun n => brun false (0, 0) (csF q) (lkb tX7_copy) n 0 (entL 7 [aR 7 a0, aI a1, aI a2, aI a3, aI a4, aI a5]) [] (ST0 q, m)) (kt_X7_copy q) :=
  (simk_run hcs 40 [83]
    (simt_bind fun o1 =>
      (simt_ite
        (simt_bind fun o2 =>
          (simt_ret (some (some (aI o2.1), (ST0 q, o2.2))) (fun _ => rfl)))
        (simt_bind fun o3 =>
          (simt_ite
            (simt_bif
              (simt_ite
                (simt_bind fun o4 =>
                  (simt_ret (some (some (aI o4.1), (ST0 q, o4.2))) (fun _ => rfl)))
                (simt_bif
                  (simt_ite
                    (simt_bind fun o5 =>
                      (simt_ret (some (some (aI o5.1), (ST0 q, o5.2))) (fun _ => rfl)))
                    (simt_bind fun o6 =>
                      (simt_ite
                        (simt_join hcs (.s _ (.s _ (.s _ (.s _ (.s _ (.s _ (.n _ .nil))))))) (pfX7_copy_j83 q hcs a0 a1 a2 a3 a4 a5 o6.2))
                        (simt_bind fun o16 =>
                          (simt_ite
                            (simt_join hcs (.s _ (.s _ (.s _ (.s _ (.s _ (.s _ (.n _ .nil))))))) (pfX7_copy_j83 q hcs a0 a1 a2 a3 a4 a5 o16.2))
                            (simt_bif
                              (simt_bif
                                (simt_ite
                                  (simt_join hcs (.s _ (.s _ (.s _ (.s _ (.s _ (.s _ (.n _ .nil))))))) (pfX7_copy_j83 q hcs a0 a1 a2 a3 a4 a5 o16.2))
                                  (simt_bind fun o17 =>
                                    (simt_ret (some (some (aI o17.1), (ST0 q, o17.2))) (fun _ => rfl))))))))))))))
            (simt_bind fun o18 =>
              (simt_ret (some (some (aI o18.1), (ST0 q, o18.2))) (fun _ => rfl)))))))
  (fun _ => rfl))
noncomputable def kt_X7_element (q : Nat) : Int64 × MM → Nat → Option Out := fun x _ => some (some (aL x.1), (ST0 q, x.2))
theorem pfX7_element (q : Nat) (hcs : CSm (csF q)) (a0 : Nat) (a1 : Int32) (a2 : Int32) (m : MM) : SimK (fX7_element_b a0 a1 a2 m) (fun n => brun false (0, 0) (csF q) (lkb tX7_element) n 0 (entL 3 [aR 7 a0, aI a1, aI a2]) [] (ST0 q, m)) (kt_X7_element q) :=
  (simk_run hcs 28 []
    (simt_bind fun o1 =>
      (simt_ite
        (simt_ret (some (some (aL 0), (ST0 q, o1.2))) (fun _ => rfl))
        (simt_bind fun o2 =>
          (simt_ite
            (simt_ret (some (some (aL 0), (ST0 q, o2.2))) (fun _ => rfl))
            (simt_bif
              (simt_bind fun o3 =>
                (simt_ite
                  (simt_ret (some (some (aL 0), (ST0 q, o3.2))) (fun _ => rfl))
                  (simt_bif
                    (simt_ret (some (some (aL (o3.2.2 21 0 ((40 * a1) + a2).toNatClampNeg)), (ST0 q, o3.2))) (fun _ => rfl))))))))))
  (fun _ => rfl))
noncomputable def kt_X7_holds (q : Nat) : Int32 × MM → Nat → Option Out := fun x _ => some (some (aI x.1), (ST0 q, x.2))
theorem pfX7_holds (q : Nat) (hcs : CSm (csF q)) (a0 : Nat) (a1 : Int32) (m : MM) : SimK (fX7_holds_b a0 a1 m) (fun n => brun false (0, 0) (csF q) (lkb tX7_holds) n 0 (entL 2 [aR 7 a0, aI a1]) [] (ST0 q, m)) (kt_X7_holds q) :=
  (simk_run hcs 10 []
    (simt_bind fun o1 =>
      (simt_ite
        (simt_ret (some (some (aI (-1)), (ST0 q, o1.2))) (fun _ => rfl))
        (simt_bif
          (simt_ret (some (some (aI (o1.2.1 59 0 a1.toNatClampNeg)), (ST0 q, o1.2))) (fun _ => rfl)))))
  (fun _ => rfl))
noncomputable def kt_X7_show (q : Nat) : Int32 × MM → Nat → Option Out := fun x _ => some (some (aI x.1), (ST0 q, x.2))
theorem pfX7_show (q : Nat) (hcs : CSm (csF q)) (a0 : Nat) (a1 : Int32) (a2 : Int32) (m : MM) : SimK (fX7_show_b a0 a1 a2 m) (fun n => brun false (0, 0) (csF q) (lkb tX7_show) n 0 (entL 3 [aR 7 a0, aI a1, aI a2]) [] (ST0 q, m)) (kt_X7_show q) :=
  (simk_run hcs 23 []
    (simt_bind fun o1 =>
      (simt_ite
        (simt_bind fun o2 =>
          (simt_ret (some (some (aI o2.1), (ST0 q, o2.2))) (fun _ => rfl)))
        (simt_ite
          (simt_ite
            (simt_bif
              (simt_ret (some (some (aI 1), (ST0 q, ((upI o1.2.1 59 0 a1.toNatClampNeg (10 + a2)), o1.2.2)))) (fun _ => rfl)))
            (simt_bif
              (simt_ret (some (some (aI 1), (ST0 q, ((upI o1.2.1 59 0 a1.toNatClampNeg (-1)), o1.2.2)))) (fun _ => rfl))))
          (simt_bind fun o3 =>
            (simt_ite
              (simt_ite
                (simt_bif
                  (simt_ret (some (some (aI 1), (ST0 q, ((upI o3.2.1 59 0 a1.toNatClampNeg (10 + a2)), o3.2.2)))) (fun _ => rfl)))
                (simt_bif
                  (simt_ret (some (some (aI 1), (ST0 q, ((upI o3.2.1 59 0 a1.toNatClampNeg (-1)), o3.2.2)))) (fun _ => rfl))))
              (simt_bind fun o4 =>
                (simt_ret (some (some (aI o4.1), (ST0 q, o4.2))) (fun _ => rfl))))))))
  (fun _ => rfl))
noncomputable def kt_X7_isUnder (q : Nat) : Bool × MM → Nat → Option Out := fun x _ => some (some (aI (bI x.1)), (ST0 q, x.2))
theorem pfX7_isUnder (q : Nat) (hcs : CSm (csF q)) (a0 : Int32) (a1 : Int32) (m : MM) : SimK (fX7_isUnder_b a0 a1 m) (fun n => brun false (0, 0) (csF q) (lkb tX7_isUnder) n 0 (entL 2 [aI a0, aI a1]) [] (ST0 q, m)) (kt_X7_isUnder q) :=
  (simk_run hcs 21 []
    (simt_ite
      (simt_ret (some (some (aI 1), (ST0 q, m))) (fun _ => rfl))
      (simt_ite
        (simt_ret (some (some (aI 1), (ST0 q, m))) (fun _ => rfl))
        (simt_ite
          (simt_ite
            (simt_ret (some (some (aI 0), (ST0 q, m))) (fun _ => rfl))
            (simt_ite
              (simt_ret (some (some (aI 0), (ST0 q, m))) (fun _ => rfl))
              (simt_ret (some (some (aI 1), (ST0 q, m))) (fun _ => rfl))))
          (simt_ite
            (simt_ret (some (some (aI 1), (ST0 q, m))) (fun _ => rfl))
            (simt_ite
              (simt_ret (some (some (aI 0), (ST0 q, m))) (fun _ => rfl))
              (simt_ite
                (simt_ret (some (some (aI 0), (ST0 q, m))) (fun _ => rfl))
                (simt_ret (some (some (aI 1), (ST0 q, m))) (fun _ => rfl))))))))
  (fun _ => rfl))
noncomputable def kt_X7_drift (q : Nat) : Int32 × MM → Nat → Option Out := fun x _ => some (some (aI x.1), (ST0 q, x.2))
theorem pfX7_drift (q : Nat) (hcs : CSm (csF q)) (a0 : Nat) (a1 : Int32) (m : MM) : SimK (fX7_drift_b a0 a1 m) (fun n => brun false (0, 0) (csF q) (lkb tX7_drift) n 0 (entL 4 [aR 7 a0, aI a1]) [] (ST0 q, m)) (kt_X7_drift q) :=
  (simk_run hcs 38 []
    (simt_bif
      (simt_bif
        (simt_bif
          (simt_bif
            (simt_ite
              (simt_ret (some (some (aI ((m.1 50 0 (m.1 54 0 a1.toNatClampNeg).toNatClampNeg) - 3)), (ST0 q, m))) (fun _ => rfl))
              (simt_ite
                (simt_ret (some (some (aI (((m.1 50 0 (m.1 54 0 a1.toNatClampNeg).toNatClampNeg) - 3) + (2 * ((m.1 51 0 (0 : Int32).toNatClampNeg) - 2)))), (ST0 q, m))) (fun _ => rfl))
                (simt_ite
                  (simt_bif
                    (simt_ite
                      (simt_ret (some (some (aI 0), (ST0 q, m))) (fun _ => rfl))
                      (simt_ret (some (some (aI ((m.1 50 0 (m.1 54 0 a1.toNatClampNeg).toNatClampNeg) - 3)), (ST0 q, m))) (fun _ => rfl))))
                  (simt_ite
                    (simt_bif
                      (simt_ret (some (some (aI (((((m.1 50 0 (m.1 54 0 a1.toNatClampNeg).toNatClampNeg) - 3) + (2 * ((m.1 51 0 (0 : Int32).toNatClampNeg) - 2))) + ((m.1 53 0 a1.toNatClampNeg) - (m.1 53 0 a1.toNatClampNeg) / 3 * 3)) - 1)), (ST0 q, m))) (fun _ => rfl)))
                    (simt_ret (some (some (aI (((m.1 50 0 (m.1 54 0 a1.toNatClampNeg).toNatClampNeg) - 3) + ((m.1 51 0 (0 : Int32).toNatClampNeg) - 2))), (ST0 q, m))) (fun _ => rfl))))))))))
  (fun _ => rfl))
noncomputable def kt_X7_says (q : Nat) : Int32 × MM → Nat → Option Out := fun x _ => some (some (aI x.1), (ST0 q, x.2))
theorem pfX7_says (q : Nat) (hcs : CSm (csF q)) (a0 : Nat) (a1 : Int32) (a2 : Int32) (m : MM) : SimK (fX7_says_b a0 a1 a2 m) (fun n => brun false (0, 0) (csF q) (lkb tX7_says) n 0 (entL 4 [aR 7 a0, aI a1, aI a2]) [] (ST0 q, m)) (kt_X7_says q) :=
  (simk_run hcs 40 []
    (simt_bind fun o1 =>
      (simt_ite
        (simt_bind fun o2 =>
          (simt_ret (some (some (aI o2.1), (ST0 q, o2.2))) (fun _ => rfl)))
        (simt_bind fun o3 =>
          (simt_ite
            (simt_bind fun o4 =>
              (simt_ite
                (simt_bif
                  (simt_ite
                    (simt_bif
                      (simt_bif
                        (simt_bind fun o5 =>
                          (simt_ite
                            (simt_ite
                              (simt_bind fun o6 =>
                                (simt_ret (some (some (aI o6.1), (ST0 q, o6.2))) (fun _ => rfl)))
                              (simt_bif
                                (simt_ret (some (some (aI (o5.2.1 54 0 ((o4.2.1 59 0 a1.toNatClampNeg) - 10).toNatClampNeg)), (ST0 q, o5.2))) (fun _ => rfl))))
                            (simt_bind fun o7 =>
                              (simt_ret (some (some (aI o7.1), (ST0 q, o7.2))) (fun _ => rfl)))))))
                    (simt_bind fun o8 =>
                      (simt_ret (some (some (aI o8.1), (ST0 q, o8.2))) (fun _ => rfl)))))
                (simt_bind fun o9 =>
                  (simt_ret (some (some (aI o9.1), (ST0 q, o9.2))) (fun _ => rfl)))))
            (simt_bind fun o10 =>
              (simt_ret (some (some (aI o10.1), (ST0 q, o10.2))) (fun _ => rfl)))))))
  (fun _ => rfl))
noncomputable def kt_X7_paves (q : Nat) : Int32 × MM → Nat → Option Out := fun x _ => some (some (aI x.1), (ST0 q, x.2))
theorem pfX7_paves (q : Nat) (hcs : CSm (csF q)) (a0 : Nat) (a1 : Int32) (m : MM) : SimK (fX7_paves_b a0 a1 m) (fun n => brun false (0, 0) (csF q) (lkb tX7_paves) n 0 (entL 3 [aR 7 a0, aI a1]) [] (ST0 q, m)) (kt_X7_paves q) :=
  (simk_run hcs 15 []
    (simt_bind fun o1 =>
      (simt_ite
        (simt_ret (some (some (aI (o1.2.1 7 a0 0)), (ST0 q, ((upI o1.2.1 7 a0 0 a1), o1.2.2)))) (fun _ => rfl))
        (simt_bind fun o2 =>
          (simt_ret (some (some (aI o2.1), (ST0 q, o2.2))) (fun _ => rfl)))))
  (fun _ => rfl))
noncomputable def kt_X7_newWalker (q : Nat) : Int32 × MM → Nat → Option Out := fun x _ => some (some (aI x.1), (ST0 q, x.2))
theorem pfX7_newWalker (q : Nat) (hcs : CSm (csF q)) (a0 : Nat) (a1 : Int32) (a2 : Int32) (a3 : Int32) (m : MM) : SimK (fX7_newWalker_b a0 a1 a2 a3 m) (fun n => brun false (0, 0) (csF q) (lkb tX7_newWalker) n 0 (entL 4 [aR 7 a0, aI a1, aI a2, aI a3]) [] (ST0 q, m)) (kt_X7_newWalker q) :=
  (simk_run hcs 31 []
    (simt_bif
      (simt_bif
        (simt_bif
          (simt_ret (some (some (aI ((upI (upI (upI m.1 57 0 (m.1 7 a0 10).toNatClampNeg a1) 57 0 (6 + ((upI m.1 57 0 (m.1 7 a0 10).toNatClampNeg a1) 7 a0 10)).toNatClampNeg a2) 57 0 (12 + ((upI (upI m.1 57 0 (m.1 7 a0 10).toNatClampNeg a1) 57 0 (6 + ((upI m.1 57 0 (m.1 7 a0 10).toNatClampNeg a1) 7 a0 10)).toNatClampNeg a2) 7 a0 10)).toNatClampNeg a3) 7 a0 10)), (ST0 q, ((upI (upI (upI (upI m.1 57 0 (m.1 7 a0 10).toNatClampNeg a1) 57 0 (6 + ((upI m.1 57 0 (m.1 7 a0 10).toNatClampNeg a1) 7 a0 10)).toNatClampNeg a2) 57 0 (12 + ((upI (upI m.1 57 0 (m.1 7 a0 10).toNatClampNeg a1) 57 0 (6 + ((upI m.1 57 0 (m.1 7 a0 10).toNatClampNeg a1) 7 a0 10)).toNatClampNeg a2) 7 a0 10)).toNatClampNeg a3) 7 a0 10 (((upI (upI (upI m.1 57 0 (m.1 7 a0 10).toNatClampNeg a1) 57 0 (6 + ((upI m.1 57 0 (m.1 7 a0 10).toNatClampNeg a1) 7 a0 10)).toNatClampNeg a2) 57 0 (12 + ((upI (upI m.1 57 0 (m.1 7 a0 10).toNatClampNeg a1) 57 0 (6 + ((upI m.1 57 0 (m.1 7 a0 10).toNatClampNeg a1) 7 a0 10)).toNatClampNeg a2) 7 a0 10)).toNatClampNeg a3) 7 a0 10) + 1)), m.2)))) (fun _ => rfl)))))
  (fun _ => rfl))
noncomputable def kt_X7_walker (q : Nat) : Int32 × MM → Nat → Option Out := fun x _ => some (some (aI x.1), (ST0 q, x.2))
theorem pfX7_walker (q : Nat) (hcs : CSm (csF q)) (a0 : Nat) (a1 : Int32) (a2 : Int32) (a3 : Int32) (m : MM) : SimK (fX7_walker_b a0 a1 a2 a3 m) (fun n => brun false (0, 0) (csF q) (lkb tX7_walker) n 0 (entL 4 [aR 7 a0, aI a1, aI a2, aI a3]) [] (ST0 q, m)) (kt_X7_walker q) :=
  (simk_run hcs 25 []
    (simt_bind fun o1 =>
      (simt_ite
        (simt_bind fun o2 =>
          (simt_ret (some (some (aI o2.1), (ST0 q, o2.2))) (fun _ => rfl)))
        (simt_bind fun o3 =>
          (simt_ite
            (simt_bind fun o4 =>
              (simt_ret (some (some (aI o4.1), (ST0 q, o4.2))) (fun _ => rfl)))
            (simt_bind fun o5 =>
              (simt_ite
                (simt_ite
                  (simt_bind fun o6 =>
                    (simt_ret (some (some (aI o6.1), (ST0 q, o6.2))) (fun _ => rfl)))
                  (simt_bind fun o7 =>
                    (simt_ret (some (some (aI o7.1), (ST0 q, o7.2))) (fun _ => rfl))))
                (simt_bind fun o8 =>
                  (simt_ret (some (some (aI o8.1), (ST0 q, o8.2))) (fun _ => rfl)))))))))
  (fun _ => rfl))
noncomputable def kt_X7_sends (q : Nat) : Int32 × MM → Nat → Option Out := fun x _ => some (some (aI x.1), (ST0 q, x.2))
theorem pfX7_sends_j66 (q : Nat) (hcs : CSm (csF q)) (a0 : Nat) (a1 : Int32) (a2 : Int32) (a3 : Int32) (m : MM) : SimK (fX7_sends_j66 a0 a1 a2 a3 m) (fun n => brun false (0, 0) (csF q) (lkb tX7_sends) n 66 [some (aR 7 a0), some (aI a1), some (aI a2), some (aI a3), none] [] (ST0 q, m)) (kt_X7_sends q) :=
  (simk_run hcs 21 []
    (simt_bif
      (simt_bif
        (simt_ret (some (some (aI (m.1 57 0 ((6 * a2) + a1).toNatClampNeg)), (ST0 q, ((upI m.1 57 0 ((6 * a2) + a1).toNatClampNeg a3), m.2)))) (fun _ => rfl))))
  (fun _ => rfl))
theorem pfX7_sends_j52 (q : Nat) (hcs : CSm (csF q)) (a0 : Nat) (a1 : Int32) (a2 : Int32) (a3 : Int32) (z0 : Int32) (z1 : Int32) (z2 : Int32) (m : MM) : SimK (fX7_sends_j52 a0 a1 a2 a3 z0 z1 z2 m) (fun n => brun false (0, 0) (csF q) (lkb tX7_sends) n 52 [some (aR 7 a0), some (aI a1), some (aI a2), some (aI a3), none] [aI z2, aI z1, aI z0] (ST0 q, m)) (kt_X7_sends q) :=
  (simk_run hcs 7 [66]
    (simt_bind fun o4 =>
      (simt_ite
        (simt_join hcs (.s _ (.s _ (.s _ (.s _ (.n _ .nil))))) (pfX7_sends_j66 q hcs a0 a1 a2 a3 o4.2))
        (simt_bind fun o5 =>
          (simt_ret (some (some (aI o5.1), (ST0 q, o5.2))) (fun _ => rfl)))))
  (fun _ => rfl))
theorem pfX7_sends (q : Nat) (hcs : CSm (csF q)) (a0 : Nat) (a1 : Int32) (a2 : Int32) (a3 : Int32) (m : MM) : SimK (fX7_sends_b a0 a1 a2 a3 m) (fun n => brun false (0, 0) (csF q) (lkb tX7_sends) n 0 (entL 5 [aR 7 a0, aI a1, aI a2, aI a3]) [] (ST0 q, m)) (kt_X7_sends q) :=
  (simk_run hcs 21 [52, 66]
    (simt_bind fun o1 =>
      (simt_ite
        (simt_bind fun o2 =>
          (simt_ret (some (some (aI o2.1), (ST0 q, o2.2))) (fun _ => rfl)))
        (simt_bind fun o3 =>
          (simt_ite
            (simt_ite
              (simt_ite
                (simt_join hcs (.s _ (.s _ (.s _ (.s _ (.n _ .nil))))) (pfX7_sends_j52 q hcs a0 a1 a2 a3 a3 0 1 o3.2))
                (simt_join hcs (.s _ (.s _ (.s _ (.s _ (.n _ .nil))))) (pfX7_sends_j52 q hcs a0 a1 a2 a3 a3 0 3 o3.2)))
              (simt_bind fun o6 =>
                (simt_ite
                  (simt_join hcs (.s _ (.s _ (.s _ (.s _ (.n _ .nil))))) (pfX7_sends_j66 q hcs a0 a1 a2 a3 o6.2))
                  (simt_bind fun o7 =>
                    (simt_ret (some (some (aI o7.1), (ST0 q, o7.2))) (fun _ => rfl))))))
            (simt_bind fun o8 =>
              (simt_ret (some (some (aI o8.1), (ST0 q, o8.2))) (fun _ => rfl)))))))
  (fun _ => rfl))
noncomputable def kt_X7_current (q : Nat) : Int32 × MM → Nat → Option Out := fun x _ => some (some (aI x.1), (ST0 q, x.2))
theorem pfX7_current (q : Nat) (hcs : CSm (csF q)) (a0 : Nat) (a1 : Int32) (a2 : Int32) (m : MM) : SimK (fX7_current_b a0 a1 a2 m) (fun n => brun false (0, 0) (csF q) (lkb tX7_current) n 0 (entL 4 [aR 7 a0, aI a1, aI a2]) [] (ST0 q, m)) (kt_X7_current q) :=
  (simk_run hcs 22 []
    (simt_bind fun o1 =>
      (simt_ite
        (simt_bind fun o2 =>
          (simt_ret (some (some (aI o2.1), (ST0 q, o2.2))) (fun _ => rfl)))
        (simt_bind fun o3 =>
          (simt_ite
            (simt_bif
              (simt_bif
                (simt_ret (some (some (aI (o3.2.1 50 0 a1.toNatClampNeg)), (ST0 q, ((upI o3.2.1 50 0 a1.toNatClampNeg a2), o3.2.2)))) (fun _ => rfl))))
            (simt_bind fun o4 =>
              (simt_ret (some (some (aI o4.1), (ST0 q, o4.2))) (fun _ => rfl)))))))
  (fun _ => rfl))
noncomputable def kt_X7_tell (q : Nat) : Int32 × MM → Nat → Option Out := fun x _ => some (some (aI x.1), (ST0 q, x.2))
theorem pfX7_tell_j22 (q : Nat) (hcs : CSm (csF q)) (a0 : Nat) (a1 : Int32) (a2 : Int32) (z0 : Int32) (z1 : Int32) (z2 : Int32) (m : MM) : SimK (fX7_tell_j22 a0 a1 a2 z0 z1 z2 m) (fun n => brun false (0, 0) (csF q) (lkb tX7_tell) n 22 [some (aR 7 a0), some (aI a1), some (aI a2), none] [aI z2, aI z1, aI z0] (ST0 q, m)) (kt_X7_tell q) :=
  (simk_run hcs 15 []
    (simt_bind fun o3 =>
      (simt_ite
        (simt_bif
          (simt_bif
            (simt_ret (some (some (aI (o3.2.1 51 0 a1.toNatClampNeg)), (ST0 q, ((upI o3.2.1 51 0 a1.toNatClampNeg a2), o3.2.2)))) (fun _ => rfl))))
        (simt_bind fun o4 =>
          (simt_ret (some (some (aI o4.1), (ST0 q, o4.2))) (fun _ => rfl)))))
  (fun _ => rfl))
theorem pfX7_tell (q : Nat) (hcs : CSm (csF q)) (a0 : Nat) (a1 : Int32) (a2 : Int32) (m : MM) : SimK (fX7_tell_b a0 a1 a2 m) (fun n => brun false (0, 0) (csF q) (lkb tX7_tell) n 0 (entL 4 [aR 7 a0, aI a1, aI a2]) [] (ST0 q, m)) (kt_X7_tell q) :=
  (simk_run hcs 12 [22]
    (simt_bind fun o1 =>
      (simt_ite
        (simt_bind fun o2 =>
          (simt_ret (some (some (aI o2.1), (ST0 q, o2.2))) (fun _ => rfl)))
        (simt_ite
          (simt_join hcs (.s _ (.s _ (.s _ (.n _ .nil)))) (pfX7_tell_j22 q hcs a0 a1 a2 a2 0 999 o1.2))
          (simt_join hcs (.s _ (.s _ (.s _ (.n _ .nil)))) (pfX7_tell_j22 q hcs a0 a1 a2 a2 0 4 o1.2)))))
  (fun _ => rfl))
noncomputable def kt_X7_becomes (q : Nat) : Unit × MM → Nat → Option Out := fun x _ => some (none, (ST0 q, x.2))
theorem pfX7_becomes (q : Nat) (hcs : CSm (csF q)) (a0 : Nat) (a1 : Int32) (a2 : Int32) (a3 : Int32) (a4 : Int32) (a5 : Int32) (m : MM) : SimK (fX7_becomes_b a0 a1 a2 a3 a4 a5 m) (fun n => brun false (0, 0) (csF q) (lkb tX7_becomes) n 0 (entL 6 [aR 7 a0, aI a1, aI a2, aI a3, aI a4, aI a5]) [] (ST0 q, m)) (kt_X7_becomes q) :=
  (simk_run hcs 27 []
    (simt_bif
      (simt_bif
        (simt_bif
          (simt_bif
            (simt_bif
              (simt_ret (some (none, (ST0 q, ((upI (upI (upI (upI (upI m.1 52 0 a1.toNatClampNeg a2) 53 0 a1.toNatClampNeg a3) 54 0 a1.toNatClampNeg a4) 55 0 a1.toNatClampNeg a5) 56 0 a1.toNatClampNeg 0), m.2)))) (fun _ => rfl)))))))
  (fun _ => rfl))
noncomputable def kt_X7_thrown (q : Nat) : Int32 × MM → Nat → Option Out := fun x _ => some (some (aI x.1), (ST0 q, x.2))
theorem pfX7_thrown (q : Nat) (hcs : CSm (csF q)) (a0 : Nat) (a1 : Int32) (a2 : Int32) (a3 : Int32) (a4 : Int32) (m : MM) : SimK (fX7_thrown_b a0 a1 a2 a3 a4 m) (fun n => brun false (0, 0) (csF q) (lkb tX7_thrown) n 0 (entL 5 [aR 7 a0, aI a1, aI a2, aI a3, aI a4]) [] (ST0 q, m)) (kt_X7_thrown q) :=
  (simk_run hcs 33 []
    (simt_bind fun o1 =>
      (simt_ite
        (simt_bind fun o2 =>
          (simt_ret (some (some (aI o2.1), (ST0 q, o2.2))) (fun _ => rfl)))
        (simt_bind fun o3 =>
          (simt_ite
            (simt_bind fun o4 =>
              (simt_ret (some (some (aI o4.1), (ST0 q, o4.2))) (fun _ => rfl)))
            (simt_bind fun o5 =>
              (simt_ite
                (simt_ite
                  (simt_bind fun o6 =>
                    (simt_ret (some (some (aI (o6.2.1 7 a0 4)), (ST0 q, ((upI o6.2.1 7 a0 4 ((o6.2.1 7 a0 4) + 1)), o6.2.2)))) (fun _ => rfl)))
                  (simt_bind fun o7 =>
                    (simt_ret (some (some (aI o7.1), (ST0 q, o7.2))) (fun _ => rfl))))
                (simt_bind fun o8 =>
                  (simt_ret (some (some (aI o8.1), (ST0 q, o8.2))) (fun _ => rfl)))))))))
  (fun _ => rfl))
noncomputable def kt_X7_feed (q : Nat) : Int32 × MM → Nat → Option Out := fun x _ => some (some (aI x.1), (ST0 q, x.2))
theorem pfX7_feed (q : Nat) (hcs : CSm (csF q)) (a0 : Nat) (a1 : Int32) (m : MM) : SimK (fX7_feed_b a0 a1 m) (fun n => brun false (0, 0) (csF q) (lkb tX7_feed) n 0 (entL 2 [aR 7 a0, aI a1]) [] (ST0 q, m)) (kt_X7_feed q) :=
  (simk_run hcs 24 []
    (simt_bind fun o1 =>
      (simt_ite
        (simt_ite
          (simt_bif
            (simt_ret (some (some (aI ((upI (upI o1.2.1 7 a0 13 ((o1.2.1 7 a0 13) + 1)) 58 0 (o1.2.1 7 a0 13).toNatClampNeg a1) 7 a0 13)), (ST0 q, ((upI (upI o1.2.1 7 a0 13 ((o1.2.1 7 a0 13) + 1)) 58 0 (o1.2.1 7 a0 13).toNatClampNeg a1), o1.2.2)))) (fun _ => rfl)))
          (simt_bind fun o2 =>
            (simt_ret (some (some (aI o2.1), (ST0 q, o2.2))) (fun _ => rfl))))
        (simt_bind fun o3 =>
          (simt_ret (some (some (aI o3.1), (ST0 q, o3.2))) (fun _ => rfl)))))
  (fun _ => rfl))
noncomputable def kt_X7_wipe (q : Nat) : Int32 × MM → Nat → Option Out := fun x _ => some (some (aI x.1), (ST0 q, x.2))
theorem pfX7_wipe (q : Nat) (hcs : CSm (csF q)) (a0 : Nat) (m : MM) : SimK (fX7_wipe_b a0 m) (fun n => brun false (0, 0) (csF q) (lkb tX7_wipe) n 0 (entL 2 [aR 7 a0]) [] (ST0 q, m)) (kt_X7_wipe q) :=
  (simk_run hcs 9 []
    (simt_ret (some (some (aI (m.1 7 a0 13)), (ST0 q, ((upI m.1 7 a0 13 0), m.2)))) (fun _ => rfl))
  (fun _ => rfl))
noncomputable def kt_X7_isLetter (q : Nat) : Bool × MM → Nat → Option Out := fun x _ => some (some (aI (bI x.1)), (ST0 q, x.2))
theorem pfX7_isLetter (q : Nat) (hcs : CSm (csF q)) (a0 : Int32) (m : MM) : SimK (fX7_isLetter_b a0 m) (fun n => brun false (0, 0) (csF q) (lkb tX7_isLetter) n 0 (entL 1 [aI a0]) [] (ST0 q, m)) (kt_X7_isLetter q) :=
  (simk_run hcs 10 []
    (simt_ite
      (simt_ret (some (some (aI 0), (ST0 q, m))) (fun _ => rfl))
      (simt_ite
        (simt_ret (some (some (aI 0), (ST0 q, m))) (fun _ => rfl))
        (simt_ret (some (some (aI 1), (ST0 q, m))) (fun _ => rfl))))
  (fun _ => rfl))
noncomputable def kt_X7_isDigit (q : Nat) : Bool × MM → Nat → Option Out := fun x _ => some (some (aI (bI x.1)), (ST0 q, x.2))
theorem pfX7_isDigit (q : Nat) (hcs : CSm (csF q)) (a0 : Int32) (m : MM) : SimK (fX7_isDigit_b a0 m) (fun n => brun false (0, 0) (csF q) (lkb tX7_isDigit) n 0 (entL 1 [aI a0]) [] (ST0 q, m)) (kt_X7_isDigit q) :=
  (simk_run hcs 10 []
    (simt_ite
      (simt_ret (some (some (aI 0), (ST0 q, m))) (fun _ => rfl))
      (simt_ite
        (simt_ret (some (some (aI 0), (ST0 q, m))) (fun _ => rfl))
        (simt_ret (some (some (aI 1), (ST0 q, m))) (fun _ => rfl))))
  (fun _ => rfl))
noncomputable def kt_X7_next (q : Nat) : Unit × MM → Nat → Option Out := fun x _ => some (none, (ST0 q, x.2))
noncomputable def hfX7_next_b8 (q : Nat) (a0 : Nat) (s : Unit) (m : MM) (n : Nat) : Option Out := brun false (0, 0) (csF q) (lkb tX7_next) n 8 [some (aR 7 a0), none] [] (ST0 q, m)
noncomputable def kxfX7_next_b8 (q : Nat) (a0 : Nat) (y : (Unit) × MM) (n : Nat) : Option Out := brun false (0, 0) (csF q) (lkb tX7_next) n 46 [some (aR 7 a0), none] [] (ST0 q, y.2)
theorem pfX7_next_b8 (q : Nat) (hcs : CSm (csF q)) (a0 : Nat) (s : Unit) (m : MM) : SimK (fX7_next_b8 a0 s m) (hfX7_next_b8 q a0 s m) (lpK (hfX7_next_b8 q a0) (kxfX7_next_b8 q a0)) :=
  (simk_run hcs 20 [8, 46]
    (simt_ite
      (simt_go hcs (.s _ (.n _ .nil)) (fun _ => rfl))
      (simt_bif
        (simt_ite
          (simt_go hcs (.s _ (.n _ .nil)) (fun _ => rfl))
          (simt_go hcs (.s _ (.n _ .nil)) (fun _ => rfl)))))
  (fun _ => rfl))
theorem pfX7_next_b8_l (q : Nat) (hcs : CSm (csF q)) (a0 : Nat) (s : Unit) (m : MM) : SimK (loopF 1000 (fX7_next_b8 a0) s m) (hfX7_next_b8 q a0 s m) (kxfX7_next_b8 q a0) :=
  simk_loopF (fun s m => pfX7_next_b8 q hcs a0 s m) 1000 s m
noncomputable def hfX7_next_b159 (q : Nat) (a0 : Nat) (s : Unit) (m : MM) (n : Nat) : Option Out := brun false (0, 0) (csF q) (lkb tX7_next) n 159 [some (aR 7 a0), none] [] (ST0 q, m)
noncomputable def kxfX7_next_b159 (q : Nat) (a0 : Nat) (y : (Unit) × MM) (n : Nat) : Option Out := brun false (0, 0) (csF q) (lkb tX7_next) n 235 [some (aR 7 a0), none] [] (ST0 q, y.2)
theorem pfX7_next_b159 (q : Nat) (hcs : CSm (csF q)) (a0 : Nat) (s : Unit) (m : MM) : SimK (fX7_next_b159 a0 s m) (hfX7_next_b159 q a0 s m) (lpK (hfX7_next_b159 q a0) (kxfX7_next_b159 q a0)) :=
  (simk_run hcs 41 [159, 235]
    (simt_ite
      (simt_go hcs (.s _ (.n _ .nil)) (fun _ => rfl))
      (simt_bif
        (simt_bind fun o4 =>
          (simt_ite
            (simt_go hcs (.s _ (.n _ .nil)) (fun _ => rfl))
            (simt_ite
              (simt_go hcs (.s _ (.n _ .nil)) (fun _ => rfl))
              (simt_bif
                (simt_go hcs (.s _ (.n _ .nil)) (fun _ => rfl))))))))
  (fun _ => rfl))
theorem pfX7_next_b159_l (q : Nat) (hcs : CSm (csF q)) (a0 : Nat) (s : Unit) (m : MM) : SimK (loopF 1000 (fX7_next_b159 a0) s m) (hfX7_next_b159 q a0 s m) (kxfX7_next_b159 q a0) :=
  simk_loopF (fun s m => pfX7_next_b159 q hcs a0 s m) 1000 s m
noncomputable def hfX7_next_b96 (q : Nat) (a0 : Nat) (s : Unit) (m : MM) (n : Nat) : Option Out := brun false (0, 0) (csF q) (lkb tX7_next) n 96 [some (aR 7 a0), none] [] (ST0 q, m)
noncomputable def kxfX7_next_b96 (q : Nat) (a0 : Nat) (y : (Unit) × MM) (n : Nat) : Option Out := brun false (0, 0) (csF q) (lkb tX7_next) n 135 [some (aR 7 a0), none] [] (ST0 q, y.2)
theorem pfX7_next_b96 (q : Nat) (hcs : CSm (csF q)) (a0 : Nat) (s : Unit) (m : MM) : SimK (fX7_next_b96 a0 s m) (hfX7_next_b96 q a0 s m) (lpK (hfX7_next_b96 q a0) (kxfX7_next_b96 q a0)) :=
  (simk_run hcs 20 [96, 135]
    (simt_ite
      (simt_go hcs (.s _ (.n _ .nil)) (fun _ => rfl))
      (simt_bif
        (simt_bind fun o6 =>
          (simt_ite
            (simt_go hcs (.s _ (.n _ .nil)) (fun _ => rfl))
            (simt_go hcs (.s _ (.n _ .nil)) (fun _ => rfl))))))
  (fun _ => rfl))
theorem pfX7_next_b96_l (q : Nat) (hcs : CSm (csF q)) (a0 : Nat) (s : Unit) (m : MM) : SimK (loopF 1000 (fX7_next_b96 a0) s m) (hfX7_next_b96 q a0 s m) (kxfX7_next_b96 q a0) :=
  simk_loopF (fun s m => pfX7_next_b96 q hcs a0 s m) 1000 s m
theorem pfX7_next_j46 (q : Nat) (hcs : CSm (csF q)) (a0 : Nat) (m : MM) : SimK (fX7_next_j46 a0 m) (fun n => brun false (0, 0) (csF q) (lkb tX7_next) n 46 [some (aR 7 a0), none] [] (ST0 q, m)) (kt_X7_next q) :=
  (simk_run hcs 35 [96, 159]
    (simt_ite
      (simt_bif
        (simt_bind fun o2 =>
          (simt_ite
            (simt_bind fun o3 =>
              (simt_ite
                (simt_ite
                  (simt_ret (some (none, (ST0 q, ((upI o3.2.1 7 a0 17 120), o3.2.2)))) (fun _ => rfl))
                  (simt_ret (some (none, (ST0 q, ((upI o3.2.1 7 a0 17 59), o3.2.2)))) (fun _ => rfl)))
                (simt_loop hcs (.s _ (.n _ .nil)) (pfX7_next_b159_l q hcs a0 () ((upI o3.2.1 7 a0 18 (((upI (upI m.1 7 a0 16 (m.1 7 a0 15)) 7 a0 16 (((upI m.1 7 a0 16 (m.1 7 a0 15)) 7 a0 16) + 1)) 58 0 ((upI m.1 7 a0 16 (m.1 7 a0 15)) 7 a0 16).toNatClampNeg) - 48)), o3.2.2)) (fun o5 => 
                  (simk_run hcs 14 []
                    (simt_ite
                      (simt_ret (some (none, (ST0 q, ((upI o5.2.1 7 a0 17 48), o5.2.2)))) (fun _ => rfl))
                      (simt_ret (some (none, (ST0 q, ((upI o5.2.1 7 a0 17 120), o5.2.2)))) (fun _ => rfl)))
                  (fun _ => rfl))))))
            (simt_loop hcs (.s _ (.n _ .nil)) (pfX7_next_b96_l q hcs a0 () o2.2) (fun o7 => 
              (simk_run hcs 6 []
                (simt_ret (some (none, (ST0 q, ((upI o7.2.1 7 a0 17 119), o7.2.2)))) (fun _ => rfl))
              (fun _ => rfl)))))))
      (simt_ret (some (none, (ST0 q, ((upI (upI m.1 7 a0 16 (m.1 7 a0 15)) 7 a0 17 101), m.2)))) (fun _ => rfl)))
  (fun _ => rfl))
theorem pfX7_next (q : Nat) (hcs : CSm (csF q)) (a0 : Nat) (m : MM) : SimK (fX7_next_b a0 m) (fun n => brun false (0, 0) (csF q) (lkb tX7_next) n 0 (entL 2 [aR 7 a0]) [] (ST0 q, m)) (kt_X7_next q) :=
  (simk_run hcs 5 [8]
    (simt_loop hcs (.s _ (.n _ .nil)) (pfX7_next_b8_l q hcs a0 () ((upI m.1 7 a0 15 (m.1 7 a0 16)), m.2)) (fun o1 => 
      (simk_here
        (simt_join hcs (.s _ (.n _ .nil)) (pfX7_next_j46 q hcs a0 o1.2)))))
  (fun _ => rfl))
noncomputable def kt_X7_isWord (q : Nat) : Bool × MM → Nat → Option Out := fun x _ => some (some (aI (bI x.1)), (ST0 q, x.2))
noncomputable def hfX7_isWord_b29 (q : Nat) (a0 : Nat) (a1 : Nat) (s : Int32) (m : MM) (n : Nat) : Option Out := brun false (0, 0) (csF q) (lkb tX7_isWord) n 29 [some (aR 7 a0), some (aR 31 a1), some (aI s)] [] (ST0 q, m)
noncomputable def kxfX7_isWord_b29 (q : Nat) (a0 : Nat) (a1 : Nat) (y : ((Unit) ⊕ (Unit)) × MM) (n : Nat) : Option Out := match y.1 with
  | Sum.inl x => brun false (0, 0) (csF q) (lkb tX7_isWord) n 64 [none, none, none] [] (ST0 q, y.2)
  | Sum.inr x => brun false (0, 0) (csF q) (lkb tX7_isWord) n 56 [none, none, none] [] (ST0 q, y.2)
theorem pfX7_isWord_b29 (q : Nat) (hcs : CSm (csF q)) (a0 : Nat) (a1 : Nat) (s : Int32) (m : MM) : SimK (fX7_isWord_b29 a0 a1 s m) (hfX7_isWord_b29 q a0 a1 s m) (lpK (hfX7_isWord_b29 q a0 a1) (kxfX7_isWord_b29 q a0 a1)) :=
  (simk_run hcs 18 [29, 56, 64]
    (simt_bind fun o2 =>
      (simt_ite
        (simt_go hcs (.n _ (.n _ (.n _ .nil))) (fun _ => rfl))
        (simt_bif
          (simt_bind fun o3 =>
            (simt_ite
              (simt_go hcs (.s _ (.s _ (.s _ .nil))) (fun _ => rfl))
              (simt_go hcs (.n _ (.n _ (.n _ .nil))) (fun _ => rfl)))))))
  (fun _ => rfl))
theorem pfX7_isWord_b29_l (q : Nat) (hcs : CSm (csF q)) (a0 : Nat) (a1 : Nat) (s : Int32) (m : MM) : SimK (loopF 1000 (fX7_isWord_b29 a0 a1) s m) (hfX7_isWord_b29 q a0 a1 s m) (kxfX7_isWord_b29 q a0 a1) :=
  simk_loopF (fun s m => pfX7_isWord_b29 q hcs a0 a1 s m) 1000 s m
theorem pfX7_isWord (q : Nat) (hcs : CSm (csF q)) (a0 : Nat) (a1 : Nat) (m : MM) : SimK (fX7_isWord_b a0 a1 m) (fun n => brun false (0, 0) (csF q) (lkb tX7_isWord) n 0 (entL 3 [aR 7 a0, aR 31 a1]) [] (ST0 q, m)) (kt_X7_isWord q) :=
  (simk_run hcs 15 [29]
    (simt_ite
      (simt_ret (some (some (aI 0), (ST0 q, m))) (fun _ => rfl))
      (simt_bind fun o1 =>
        (simt_ite
          (simt_loop hcs (.s _ (.s _ (.s _ .nil))) (pfX7_isWord_b29_l q hcs a0 a1 0 o1.2) (fun o4 => by
            obtain ⟨o4x, o4m⟩ := o4
            rcases o4x with x5 | x6
            · exact
              (simk_run hcs 3 []
                (simt_ret (some (some (aI 1), (ST0 q, o4m))) (fun _ => rfl))
              (fun _ => rfl))
            · exact
              (simk_run hcs 3 []
                (simt_ret (some (some (aI 0), (ST0 q, o4m))) (fun _ => rfl))
              (fun _ => rfl))))
          (simt_ret (some (some (aI 0), (ST0 q, o1.2))) (fun _ => rfl)))))
  (fun _ => rfl))
noncomputable def kt_X7_number (q : Nat) : Int32 × MM → Nat → Option Out := fun x _ => some (some (aI x.1), (ST0 q, x.2))
theorem pfX7_number (q : Nat) (hcs : CSm (csF q)) (a0 : Nat) (a1 : Int32) (a2 : Int32) (m : MM) : SimK (fX7_number_b a0 a1 a2 m) (fun n => brun false (0, 0) (csF q) (lkb tX7_number) n 0 (entL 3 [aR 7 a0, aI a1, aI a2]) [] (ST0 q, m)) (kt_X7_number q) :=
  (simk_run hcs 17 []
    (simt_bind fun o1 =>
      (simt_ite
        (simt_ret (some (some (aI (-1)), (ST0 q, o1.2))) (fun _ => rfl))
        (simt_bind fun o2 =>
          (simt_ite
            (simt_ret (some (some (aI (-1)), (ST0 q, o2.2))) (fun _ => rfl))
            (simt_ret (some (some (aI (o2.2.1 7 a0 18)), (ST0 q, o2.2))) (fun _ => rfl))))))
  (fun _ => rfl))
noncomputable def kt_X7_cellTold (q : Nat) : Int32 × MM → Nat → Option Out := fun x _ => some (some (aI x.1), (ST0 q, x.2))
theorem pfX7_cellTold (q : Nat) (hcs : CSm (csF q)) (a0 : Nat) (m : MM) : SimK (fX7_cellTold_b a0 m) (fun n => brun false (0, 0) (csF q) (lkb tX7_cellTold) n 0 (entL 1 [aR 7 a0]) [] (ST0 q, m)) (kt_X7_cellTold q) :=
  (simk_run hcs 9 []
    (simt_bind fun o1 =>
      (simt_ret (some (some (aI o1.1), (ST0 q, o1.2))) (fun _ => rfl)))
  (fun _ => rfl))
noncomputable def kt_X7_comesOne (q : Nat) : Bool × MM → Nat → Option Out := fun x _ => some (some (aI (bI x.1)), (ST0 q, x.2))
theorem pfX7_comesOne_j31 (q : Nat) (hcs : CSm (csF q)) (a0 : Nat) (a1 : Int32) (z0 : Int32) (m : MM) : SimK (fX7_comesOne_j31 a0 a1 z0 m) (fun n => brun false (0, 0) (csF q) (lkb tX7_comesOne) n 31 [some (aR 7 a0), some (aI a1), none, none] [aI z0] (ST0 q, m)) (kt_X7_comesOne q) :=
  (simk_run hcs 21 []
    (simt_ite
      (simt_bind fun o3 =>
        (simt_ite
          (simt_bind fun o4 =>
            (simt_ret (some (some (aI 1), (ST0 q, o4.2))) (fun _ => rfl)))
          (simt_ret (some (some (aI 0), (ST0 q, o3.2))) (fun _ => rfl))))
      (simt_ret (some (some (aI 0), (ST0 q, m))) (fun _ => rfl)))
  (fun _ => rfl))
theorem pfX7_comesOne (q : Nat) (hcs : CSm (csF q)) (a0 : Nat) (m : MM) : SimK (fX7_comesOne_b a0 m) (fun n => brun false (0, 0) (csF q) (lkb tX7_comesOne) n 0 (entL 4 [aR 7 a0]) [] (ST0 q, m)) (kt_X7_comesOne q) :=
  (simk_run hcs 15 [31]
    (simt_ite
      (simt_bind fun o1 =>
        (simt_ite
          (simt_bind fun o2 =>
            (simt_join hcs (.s _ (.s _ (.n _ (.n _ .nil)))) (pfX7_comesOne_j31 q hcs a0 o1.1 o2.1 o2.2)))
          (simt_join hcs (.s _ (.s _ (.n _ (.n _ .nil)))) (pfX7_comesOne_j31 q hcs a0 o1.1 (-1) o1.2))))
      (simt_ret (some (some (aI 0), (ST0 q, m))) (fun _ => rfl)))
  (fun _ => rfl))
noncomputable def kt_X7_floats (q : Nat) : Bool × MM → Nat → Option Out := fun x _ => some (some (aI (bI x.1)), (ST0 q, x.2))
theorem pfX7_floats_j69 (q : Nat) (hcs : CSm (csF q)) (a0 : Nat) (a1 : Int32) (a2 : Int32) (a3 : Int32) (z0 : Int32) (m : MM) : SimK (fX7_floats_j69 a0 a1 a2 a3 z0 m) (fun n => brun false (0, 0) (csF q) (lkb tX7_floats) n 69 [some (aR 7 a0), some (aI a1), some (aI a2), some (aI a3), none] [aI z0] (ST0 q, m)) (kt_X7_floats q) :=
  (simk_run hcs 20 []
    (simt_ite
      (simt_bind fun o5 =>
        (simt_ret (some (some (aI 1), (ST0 q, o5.2))) (fun _ => rfl)))
      (simt_ret (some (some (aI 0), (ST0 q, m))) (fun _ => rfl)))
  (fun _ => rfl))
theorem pfX7_floats_j48 (q : Nat) (hcs : CSm (csF q)) (a0 : Nat) (a1 : Int32) (a2 : Int32) (z0 : Int32) (m : MM) : SimK (fX7_floats_j48 a0 a1 a2 z0 m) (fun n => brun false (0, 0) (csF q) (lkb tX7_floats) n 48 [some (aR 7 a0), some (aI a1), some (aI a2), none, none] [aI z0] (ST0 q, m)) (kt_X7_floats q) :=
  (simk_run hcs 12 [69]
    (simt_ite
      (simt_bind fun o4 =>
        (simt_join hcs (.s _ (.s _ (.s _ (.s _ (.n _ .nil))))) (pfX7_floats_j69 q hcs a0 a1 a2 z0 o4.1 o4.2)))
      (simt_join hcs (.s _ (.s _ (.s _ (.s _ (.n _ .nil))))) (pfX7_floats_j69 q hcs a0 a1 a2 z0 (-1) m)))
  (fun _ => rfl))
theorem pfX7_floats_j34 (q : Nat) (hcs : CSm (csF q)) (a0 : Nat) (a1 : Int32) (z0 : Int32) (m : MM) : SimK (fX7_floats_j34 a0 a1 z0 m) (fun n => brun false (0, 0) (csF q) (lkb tX7_floats) n 34 [some (aR 7 a0), some (aI a1), none, none, none] [aI z0] (ST0 q, m)) (kt_X7_floats q) :=
  (simk_run hcs 7 [48]
    (simt_ite
      (simt_bind fun o3 =>
        (simt_join hcs (.s _ (.s _ (.s _ (.n _ (.n _ .nil))))) (pfX7_floats_j48 q hcs a0 a1 z0 o3.1 o3.2)))
      (simt_join hcs (.s _ (.s _ (.s _ (.n _ (.n _ .nil))))) (pfX7_floats_j48 q hcs a0 a1 z0 (-1) m)))
  (fun _ => rfl))
theorem pfX7_floats (q : Nat) (hcs : CSm (csF q)) (a0 : Nat) (m : MM) : SimK (fX7_floats_b a0 m) (fun n => brun false (0, 0) (csF q) (lkb tX7_floats) n 0 (entL 5 [aR 7 a0]) [] (ST0 q, m)) (kt_X7_floats q) :=
  (simk_run hcs 17 [34]
    (simt_ite
      (simt_bind fun o1 =>
        (simt_ite
          (simt_bind fun o2 =>
            (simt_join hcs (.s _ (.s _ (.n _ (.n _ (.n _ .nil))))) (pfX7_floats_j34 q hcs a0 o1.1 o2.1 o2.2)))
          (simt_join hcs (.s _ (.s _ (.n _ (.n _ (.n _ .nil))))) (pfX7_floats_j34 q hcs a0 o1.1 (-1) o1.2))))
      (simt_ret (some (some (aI 0), (ST0 q, m))) (fun _ => rfl)))
  (fun _ => rfl))
noncomputable def kt_X7_statement (q : Nat) : Bool × MM → Nat → Option Out := fun x _ => some (some (aI (bI x.1)), (ST0 q, x.2))
theorem pfX7_statement_j136 (q : Nat) (hcs : CSm (csF q)) (a0 : Nat) (z0 : Int32) (m : MM) : SimK (fX7_statement_j136 a0 z0 m) (fun n => brun false (0, 0) (csF q) (lkb tX7_statement) n 136 [some (aR 7 a0), none, none] [aI z0] (ST0 q, m)) (kt_X7_statement q) :=
  (simk_run hcs 23 []
    (simt_ite
      (simt_ite
        (simt_bind fun o7 =>
          (simt_ite
            (simt_bif
              (simt_ret (some (some (aI 1), (ST0 q, ((upI o7.2.1 51 0 z0.toNatClampNeg o7.1), o7.2.2)))) (fun _ => rfl)))
            (simt_ret (some (some (aI 0), (ST0 q, o7.2))) (fun _ => rfl))))
        (simt_bind fun o8 =>
          (simt_ite
            (simt_bif
              (simt_ret (some (some (aI 1), (ST0 q, ((upI o8.2.1 51 0 z0.toNatClampNeg o8.1), o8.2.2)))) (fun _ => rfl)))
            (simt_ret (some (some (aI 0), (ST0 q, o8.2))) (fun _ => rfl)))))
      (simt_ret (some (some (aI 0), (ST0 q, m))) (fun _ => rfl)))
  (fun _ => rfl))
theorem pfX7_statement (q : Nat) (hcs : CSm (csF q)) (a0 : Nat) (m : MM) : SimK (fX7_statement_b a0 m) (fun n => brun false (0, 0) (csF q) (lkb tX7_statement) n 0 (entL 3 [aR 7 a0]) [] (ST0 q, m)) (kt_X7_statement q) :=
  (simk_run hcs 38 [136]
    (simt_bind fun o1 =>
      (simt_ite
        (simt_bind fun o2 =>
          (simt_ite
            (simt_bind fun o3 =>
              (simt_ite
                (simt_bind fun o4 =>
                  (simt_ite
                    (simt_bind fun o5 =>
                      (simt_ite
                        (simt_bind fun o6 =>
                          (simt_ite
                            (simt_join hcs (.s _ (.n _ (.n _ .nil))) (pfX7_statement_j136 q hcs a0 (-1) o6.2))
                            (simt_join hcs (.s _ (.n _ (.n _ .nil))) (pfX7_statement_j136 q hcs a0 1 o6.2))))
                        (simt_join hcs (.s _ (.n _ (.n _ .nil))) (pfX7_statement_j136 q hcs a0 0 o5.2))))
                    (simt_bind fun o9 =>
                      (simt_ite
                        (simt_bind fun o10 =>
                          (simt_ite
                            (simt_bif
                              (simt_ret (some (some (aI 1), (ST0 q, ((upI o10.2.1 50 0 o9.1.toNatClampNeg o10.1), o10.2.2)))) (fun _ => rfl)))
                            (simt_ret (some (some (aI 0), (ST0 q, o10.2))) (fun _ => rfl))))
                        (simt_ret (some (some (aI 0), (ST0 q, o9.2))) (fun _ => rfl))))))
                (simt_bind fun o11 =>
                  (simt_ite
                    (simt_ret (some (some (aI 1), (ST0 q, ((upI o11.2.1 7 a0 0 o11.1), o11.2.2)))) (fun _ => rfl))
                    (simt_ret (some (some (aI 0), (ST0 q, o11.2))) (fun _ => rfl))))))
            (simt_bind fun o12 =>
              (simt_ret (some (some (aI (bI o12.1)), (ST0 q, o12.2))) (fun _ => rfl)))))
        (simt_bind fun o13 =>
          (simt_ret (some (some (aI (bI o13.1)), (ST0 q, o13.2))) (fun _ => rfl)))))
  (fun _ => rfl))
noncomputable def kt_X7_again (q : Nat) : Unit × MM → Nat → Option Out := fun x _ => some (none, (ST0 q, x.2))
noncomputable def hfX7_again_b2 (q : Nat) (a0 : Nat) (a1 : Nat) (s : Int32) (m : MM) (n : Nat) : Option Out := brun false (0, 0) (csF q) (lkb tX7_again) n 2 [some (aR 7 a0), some (aR 62 a1), some (aI s)] [] (ST0 q, m)
noncomputable def kxfX7_again_b2 (q : Nat) (a0 : Nat) (a1 : Nat) (y : (Unit) × MM) (n : Nat) : Option Out := brun false (0, 0) (csF q) (lkb tX7_again) n 23 [some (aR 7 a0), some (aR 62 a1), none] [] (ST0 q, y.2)
theorem pfX7_again_b2 (q : Nat) (hcs : CSm (csF q)) (a0 : Nat) (a1 : Nat) (s : Int32) (m : MM) : SimK (fX7_again_b2 a0 a1 s m) (hfX7_again_b2 q a0 a1 s m) (lpK (hfX7_again_b2 q a0 a1) (kxfX7_again_b2 q a0 a1)) :=
  (simk_run hcs 13 [2, 23]
    (simt_ite
      (simt_go hcs (.s _ (.s _ (.n _ .nil))) (fun _ => rfl))
      (simt_bif
        (simt_bif
          (simt_go hcs (.s _ (.s _ (.s _ .nil))) (fun _ => rfl)))))
  (fun _ => rfl))
theorem pfX7_again_b2_l (q : Nat) (hcs : CSm (csF q)) (a0 : Nat) (a1 : Nat) (s : Int32) (m : MM) : SimK (loopF 1000 (fX7_again_b2 a0 a1) s m) (hfX7_again_b2 q a0 a1 s m) (kxfX7_again_b2 q a0 a1) :=
  simk_loopF (fun s m => pfX7_again_b2 q hcs a0 a1 s m) 1000 s m
noncomputable def hfX7_again_b25 (q : Nat) (a0 : Nat) (a1 : Nat) (s : Int32) (m : MM) (n : Nat) : Option Out := brun false (0, 0) (csF q) (lkb tX7_again) n 25 [some (aR 7 a0), some (aR 62 a1), some (aI s)] [] (ST0 q, m)
noncomputable def kxfX7_again_b25 (q : Nat) (a0 : Nat) (a1 : Nat) (y : (Unit) × MM) (n : Nat) : Option Out := brun false (0, 0) (csF q) (lkb tX7_again) n 97 [some (aR 7 a0), some (aR 62 a1), none] [] (ST0 q, y.2)
theorem pfX7_again_b25 (q : Nat) (hcs : CSm (csF q)) (a0 : Nat) (a1 : Nat) (s : Int32) (m : MM) : SimK (fX7_again_b25 a0 a1 s m) (hfX7_again_b25 q a0 a1 s m) (lpK (hfX7_again_b25 q a0 a1) (kxfX7_again_b25 q a0 a1)) :=
  (simk_run hcs 51 [25, 97]
    (simt_ite
      (simt_go hcs (.s _ (.s _ (.n _ .nil))) (fun _ => rfl))
      (simt_bif
        (simt_bif
          (simt_bif
            (simt_bif
              (simt_bif
                (simt_bif
                  (simt_bif
                    (simt_bif
                      (simt_bif
                        (simt_bif
                          (simt_go hcs (.s _ (.s _ (.s _ .nil))) (fun _ => rfl)))))))))))))
  (fun _ => rfl))
theorem pfX7_again_b25_l (q : Nat) (hcs : CSm (csF q)) (a0 : Nat) (a1 : Nat) (s : Int32) (m : MM) : SimK (loopF 1000 (fX7_again_b25 a0 a1) s m) (hfX7_again_b25 q a0 a1 s m) (kxfX7_again_b25 q a0 a1) :=
  simk_loopF (fun s m => pfX7_again_b25 q hcs a0 a1 s m) 1000 s m
noncomputable def hfX7_again_b99 (q : Nat) (a0 : Nat) (a1 : Nat) (s : Int32) (m : MM) (n : Nat) : Option Out := brun false (0, 0) (csF q) (lkb tX7_again) n 99 [some (aR 7 a0), some (aR 62 a1), some (aI s)] [] (ST0 q, m)
noncomputable def kxfX7_again_b99 (q : Nat) (a0 : Nat) (a1 : Nat) (y : (Unit) × MM) (n : Nat) : Option Out := brun false (0, 0) (csF q) (lkb tX7_again) n 123 [some (aR 7 a0), some (aR 62 a1), none] [] (ST0 q, y.2)
theorem pfX7_again_b99 (q : Nat) (hcs : CSm (csF q)) (a0 : Nat) (a1 : Nat) (s : Int32) (m : MM) : SimK (fX7_again_b99 a0 a1 s m) (hfX7_again_b99 q a0 a1 s m) (lpK (hfX7_again_b99 q a0 a1) (kxfX7_again_b99 q a0 a1)) :=
  (simk_run hcs 15 [99, 123]
    (simt_ite
      (simt_go hcs (.s _ (.s _ (.n _ .nil))) (fun _ => rfl))
      (simt_bif
        (simt_bif
          (simt_go hcs (.s _ (.s _ (.s _ .nil))) (fun _ => rfl)))))
  (fun _ => rfl))
theorem pfX7_again_b99_l (q : Nat) (hcs : CSm (csF q)) (a0 : Nat) (a1 : Nat) (s : Int32) (m : MM) : SimK (loopF 1000 (fX7_again_b99 a0 a1) s m) (hfX7_again_b99 q a0 a1 s m) (kxfX7_again_b99 q a0 a1) :=
  simk_loopF (fun s m => pfX7_again_b99 q hcs a0 a1 s m) 1000 s m
theorem pfX7_again (q : Nat) (hcs : CSm (csF q)) (a0 : Nat) (a1 : Nat) (m : MM) : SimK (fX7_again_b a0 a1 m) (fun n => brun false (0, 0) (csF q) (lkb tX7_again) n 0 (entL 3 [aR 7 a0, aR 62 a1]) [] (ST0 q, m)) (kt_X7_again q) :=
  (simk_run hcs 3 [2]
    (simt_loop hcs (.s _ (.s _ (.s _ .nil))) (pfX7_again_b2_l q hcs a0 a1 0 m) (fun o1 => 
      (simk_run hcs 3 [25]
        (simt_loop hcs (.s _ (.s _ (.s _ .nil))) (pfX7_again_b25_l q hcs a0 a1 0 o1.2) (fun o2 => 
          (simk_run hcs 3 [99]
            (simt_loop hcs (.s _ (.s _ (.s _ .nil))) (pfX7_again_b99_l q hcs a0 a1 0 o2.2) (fun o3 => 
              (simk_run hcs 41 []
                (simt_bif
                  (simt_bif
                    (simt_bif
                      (simt_bif
                        (simt_bif
                          (simt_bif
                            (simt_bif
                              (simt_bif
                                (simt_bif
                                  (simt_ret (some (none, (ST0 q, ((upI (upI (upI (upI (upI (upI (upI o3.2.1 7 a0 0 (o3.2.1 62 a1 (93 : Int32).toNatClampNeg)) 51 0 (0 : Int32).toNatClampNeg ((upI o3.2.1 7 a0 0 (o3.2.1 62 a1 (93 : Int32).toNatClampNeg)) 62 a1 (94 : Int32).toNatClampNeg)) 51 0 (1 : Int32).toNatClampNeg ((upI (upI o3.2.1 7 a0 0 (o3.2.1 62 a1 (93 : Int32).toNatClampNeg)) 51 0 (0 : Int32).toNatClampNeg ((upI o3.2.1 7 a0 0 (o3.2.1 62 a1 (93 : Int32).toNatClampNeg)) 62 a1 (94 : Int32).toNatClampNeg)) 62 a1 (95 : Int32).toNatClampNeg)) 7 a0 3 ((upI (upI (upI o3.2.1 7 a0 0 (o3.2.1 62 a1 (93 : Int32).toNatClampNeg)) 51 0 (0 : Int32).toNatClampNeg ((upI o3.2.1 7 a0 0 (o3.2.1 62 a1 (93 : Int32).toNatClampNeg)) 62 a1 (94 : Int32).toNatClampNeg)) 51 0 (1 : Int32).toNatClampNeg ((upI (upI o3.2.1 7 a0 0 (o3.2.1 62 a1 (93 : Int32).toNatClampNeg)) 51 0 (0 : Int32).toNatClampNeg ((upI o3.2.1 7 a0 0 (o3.2.1 62 a1 (93 : Int32).toNatClampNeg)) 62 a1 (94 : Int32).toNatClampNeg)) 62 a1 (95 : Int32).toNatClampNeg)) 62 a1 (96 : Int32).toNatClampNeg)) 7 a0 4 ((upI (upI (upI (upI o3.2.1 7 a0 0 (o3.2.1 62 a1 (93 : Int32).toNatClampNeg)) 51 0 (0 : Int32).toNatClampNeg ((upI o3.2.1 7 a0 0 (o3.2.1 62 a1 (93 : Int32).toNatClampNeg)) 62 a1 (94 : Int32).toNatClampNeg)) 51 0 (1 : Int32).toNatClampNeg ((upI (upI o3.2.1 7 a0 0 (o3.2.1 62 a1 (93 : Int32).toNatClampNeg)) 51 0 (0 : Int32).toNatClampNeg ((upI o3.2.1 7 a0 0 (o3.2.1 62 a1 (93 : Int32).toNatClampNeg)) 62 a1 (94 : Int32).toNatClampNeg)) 62 a1 (95 : Int32).toNatClampNeg)) 7 a0 3 ((upI (upI (upI o3.2.1 7 a0 0 (o3.2.1 62 a1 (93 : Int32).toNatClampNeg)) 51 0 (0 : Int32).toNatClampNeg ((upI o3.2.1 7 a0 0 (o3.2.1 62 a1 (93 : Int32).toNatClampNeg)) 62 a1 (94 : Int32).toNatClampNeg)) 51 0 (1 : Int32).toNatClampNeg ((upI (upI o3.2.1 7 a0 0 (o3.2.1 62 a1 (93 : Int32).toNatClampNeg)) 51 0 (0 : Int32).toNatClampNeg ((upI o3.2.1 7 a0 0 (o3.2.1 62 a1 (93 : Int32).toNatClampNeg)) 62 a1 (94 : Int32).toNatClampNeg)) 62 a1 (95 : Int32).toNatClampNeg)) 62 a1 (96 : Int32).toNatClampNeg)) 62 a1 (97 : Int32).toNatClampNeg)) 7 a0 10 ((upI (upI (upI (upI (upI o3.2.1 7 a0 0 (o3.2.1 62 a1 (93 : Int32).toNatClampNeg)) 51 0 (0 : Int32).toNatClampNeg ((upI o3.2.1 7 a0 0 (o3.2.1 62 a1 (93 : Int32).toNatClampNeg)) 62 a1 (94 : Int32).toNatClampNeg)) 51 0 (1 : Int32).toNatClampNeg ((upI (upI o3.2.1 7 a0 0 (o3.2.1 62 a1 (93 : Int32).toNatClampNeg)) 51 0 (0 : Int32).toNatClampNeg ((upI o3.2.1 7 a0 0 (o3.2.1 62 a1 (93 : Int32).toNatClampNeg)) 62 a1 (94 : Int32).toNatClampNeg)) 62 a1 (95 : Int32).toNatClampNeg)) 7 a0 3 ((upI (upI (upI o3.2.1 7 a0 0 (o3.2.1 62 a1 (93 : Int32).toNatClampNeg)) 51 0 (0 : Int32).toNatClampNeg ((upI o3.2.1 7 a0 0 (o3.2.1 62 a1 (93 : Int32).toNatClampNeg)) 62 a1 (94 : Int32).toNatClampNeg)) 51 0 (1 : Int32).toNatClampNeg ((upI (upI o3.2.1 7 a0 0 (o3.2.1 62 a1 (93 : Int32).toNatClampNeg)) 51 0 (0 : Int32).toNatClampNeg ((upI o3.2.1 7 a0 0 (o3.2.1 62 a1 (93 : Int32).toNatClampNeg)) 62 a1 (94 : Int32).toNatClampNeg)) 62 a1 (95 : Int32).toNatClampNeg)) 62 a1 (96 : Int32).toNatClampNeg)) 7 a0 4 ((upI (upI (upI (upI o3.2.1 7 a0 0 (o3.2.1 62 a1 (93 : Int32).toNatClampNeg)) 51 0 (0 : Int32).toNatClampNeg ((upI o3.2.1 7 a0 0 (o3.2.1 62 a1 (93 : Int32).toNatClampNeg)) 62 a1 (94 : Int32).toNatClampNeg)) 51 0 (1 : Int32).toNatClampNeg ((upI (upI o3.2.1 7 a0 0 (o3.2.1 62 a1 (93 : Int32).toNatClampNeg)) 51 0 (0 : Int32).toNatClampNeg ((upI o3.2.1 7 a0 0 (o3.2.1 62 a1 (93 : Int32).toNatClampNeg)) 62 a1 (94 : Int32).toNatClampNeg)) 62 a1 (95 : Int32).toNatClampNeg)) 7 a0 3 ((upI (upI (upI o3.2.1 7 a0 0 (o3.2.1 62 a1 (93 : Int32).toNatClampNeg)) 51 0 (0 : Int32).toNatClampNeg ((upI o3.2.1 7 a0 0 (o3.2.1 62 a1 (93 : Int32).toNatClampNeg)) 62 a1 (94 : Int32).toNatClampNeg)) 51 0 (1 : Int32).toNatClampNeg ((upI (upI o3.2.1 7 a0 0 (o3.2.1 62 a1 (93 : Int32).toNatClampNeg)) 51 0 (0 : Int32).toNatClampNeg ((upI o3.2.1 7 a0 0 (o3.2.1 62 a1 (93 : Int32).toNatClampNeg)) 62 a1 (94 : Int32).toNatClampNeg)) 62 a1 (95 : Int32).toNatClampNeg)) 62 a1 (96 : Int32).toNatClampNeg)) 62 a1 (97 : Int32).toNatClampNeg)) 62 a1 (98 : Int32).toNatClampNeg)) 7 a0 12 ((upI (upI (upI (upI (upI (upI o3.2.1 7 a0 0 (o3.2.1 62 a1 (93 : Int32).toNatClampNeg)) 51 0 (0 : Int32).toNatClampNeg ((upI o3.2.1 7 a0 0 (o3.2.1 62 a1 (93 : Int32).toNatClampNeg)) 62 a1 (94 : Int32).toNatClampNeg)) 51 0 (1 : Int32).toNatClampNeg ((upI (upI o3.2.1 7 a0 0 (o3.2.1 62 a1 (93 : Int32).toNatClampNeg)) 51 0 (0 : Int32).toNatClampNeg ((upI o3.2.1 7 a0 0 (o3.2.1 62 a1 (93 : Int32).toNatClampNeg)) 62 a1 (94 : Int32).toNatClampNeg)) 62 a1 (95 : Int32).toNatClampNeg)) 7 a0 3 ((upI (upI (upI o3.2.1 7 a0 0 (o3.2.1 62 a1 (93 : Int32).toNatClampNeg)) 51 0 (0 : Int32).toNatClampNeg ((upI o3.2.1 7 a0 0 (o3.2.1 62 a1 (93 : Int32).toNatClampNeg)) 62 a1 (94 : Int32).toNatClampNeg)) 51 0 (1 : Int32).toNatClampNeg ((upI (upI o3.2.1 7 a0 0 (o3.2.1 62 a1 (93 : Int32).toNatClampNeg)) 51 0 (0 : Int32).toNatClampNeg ((upI o3.2.1 7 a0 0 (o3.2.1 62 a1 (93 : Int32).toNatClampNeg)) 62 a1 (94 : Int32).toNatClampNeg)) 62 a1 (95 : Int32).toNatClampNeg)) 62 a1 (96 : Int32).toNatClampNeg)) 7 a0 4 ((upI (upI (upI (upI o3.2.1 7 a0 0 (o3.2.1 62 a1 (93 : Int32).toNatClampNeg)) 51 0 (0 : Int32).toNatClampNeg ((upI o3.2.1 7 a0 0 (o3.2.1 62 a1 (93 : Int32).toNatClampNeg)) 62 a1 (94 : Int32).toNatClampNeg)) 51 0 (1 : Int32).toNatClampNeg ((upI (upI o3.2.1 7 a0 0 (o3.2.1 62 a1 (93 : Int32).toNatClampNeg)) 51 0 (0 : Int32).toNatClampNeg ((upI o3.2.1 7 a0 0 (o3.2.1 62 a1 (93 : Int32).toNatClampNeg)) 62 a1 (94 : Int32).toNatClampNeg)) 62 a1 (95 : Int32).toNatClampNeg)) 7 a0 3 ((upI (upI (upI o3.2.1 7 a0 0 (o3.2.1 62 a1 (93 : Int32).toNatClampNeg)) 51 0 (0 : Int32).toNatClampNeg ((upI o3.2.1 7 a0 0 (o3.2.1 62 a1 (93 : Int32).toNatClampNeg)) 62 a1 (94 : Int32).toNatClampNeg)) 51 0 (1 : Int32).toNatClampNeg ((upI (upI o3.2.1 7 a0 0 (o3.2.1 62 a1 (93 : Int32).toNatClampNeg)) 51 0 (0 : Int32).toNatClampNeg ((upI o3.2.1 7 a0 0 (o3.2.1 62 a1 (93 : Int32).toNatClampNeg)) 62 a1 (94 : Int32).toNatClampNeg)) 62 a1 (95 : Int32).toNatClampNeg)) 62 a1 (96 : Int32).toNatClampNeg)) 62 a1 (97 : Int32).toNatClampNeg)) 7 a0 10 ((upI (upI (upI (upI (upI o3.2.1 7 a0 0 (o3.2.1 62 a1 (93 : Int32).toNatClampNeg)) 51 0 (0 : Int32).toNatClampNeg ((upI o3.2.1 7 a0 0 (o3.2.1 62 a1 (93 : Int32).toNatClampNeg)) 62 a1 (94 : Int32).toNatClampNeg)) 51 0 (1 : Int32).toNatClampNeg ((upI (upI o3.2.1 7 a0 0 (o3.2.1 62 a1 (93 : Int32).toNatClampNeg)) 51 0 (0 : Int32).toNatClampNeg ((upI o3.2.1 7 a0 0 (o3.2.1 62 a1 (93 : Int32).toNatClampNeg)) 62 a1 (94 : Int32).toNatClampNeg)) 62 a1 (95 : Int32).toNatClampNeg)) 7 a0 3 ((upI (upI (upI o3.2.1 7 a0 0 (o3.2.1 62 a1 (93 : Int32).toNatClampNeg)) 51 0 (0 : Int32).toNatClampNeg ((upI o3.2.1 7 a0 0 (o3.2.1 62 a1 (93 : Int32).toNatClampNeg)) 62 a1 (94 : Int32).toNatClampNeg)) 51 0 (1 : Int32).toNatClampNeg ((upI (upI o3.2.1 7 a0 0 (o3.2.1 62 a1 (93 : Int32).toNatClampNeg)) 51 0 (0 : Int32).toNatClampNeg ((upI o3.2.1 7 a0 0 (o3.2.1 62 a1 (93 : Int32).toNatClampNeg)) 62 a1 (94 : Int32).toNatClampNeg)) 62 a1 (95 : Int32).toNatClampNeg)) 62 a1 (96 : Int32).toNatClampNeg)) 7 a0 4 ((upI (upI (upI (upI o3.2.1 7 a0 0 (o3.2.1 62 a1 (93 : Int32).toNatClampNeg)) 51 0 (0 : Int32).toNatClampNeg ((upI o3.2.1 7 a0 0 (o3.2.1 62 a1 (93 : Int32).toNatClampNeg)) 62 a1 (94 : Int32).toNatClampNeg)) 51 0 (1 : Int32).toNatClampNeg ((upI (upI o3.2.1 7 a0 0 (o3.2.1 62 a1 (93 : Int32).toNatClampNeg)) 51 0 (0 : Int32).toNatClampNeg ((upI o3.2.1 7 a0 0 (o3.2.1 62 a1 (93 : Int32).toNatClampNeg)) 62 a1 (94 : Int32).toNatClampNeg)) 62 a1 (95 : Int32).toNatClampNeg)) 7 a0 3 ((upI (upI (upI o3.2.1 7 a0 0 (o3.2.1 62 a1 (93 : Int32).toNatClampNeg)) 51 0 (0 : Int32).toNatClampNeg ((upI o3.2.1 7 a0 0 (o3.2.1 62 a1 (93 : Int32).toNatClampNeg)) 62 a1 (94 : Int32).toNatClampNeg)) 51 0 (1 : Int32).toNatClampNeg ((upI (upI o3.2.1 7 a0 0 (o3.2.1 62 a1 (93 : Int32).toNatClampNeg)) 51 0 (0 : Int32).toNatClampNeg ((upI o3.2.1 7 a0 0 (o3.2.1 62 a1 (93 : Int32).toNatClampNeg)) 62 a1 (94 : Int32).toNatClampNeg)) 62 a1 (95 : Int32).toNatClampNeg)) 62 a1 (96 : Int32).toNatClampNeg)) 62 a1 (97 : Int32).toNatClampNeg)) 62 a1 (98 : Int32).toNatClampNeg)) 62 a1 (99 : Int32).toNatClampNeg)), o3.2.2)))) (fun _ => rfl)))))))))))
              (fun _ => rfl))))
          (fun _ => rfl))))
      (fun _ => rfl))))
  (fun _ => rfl))
noncomputable def kt_X7_keep (q : Nat) : Unit × MM → Nat → Option Out := fun x _ => some (none, (ST0 q, x.2))
noncomputable def hfX7_keep_b2 (q : Nat) (a0 : Nat) (a1 : Nat) (s : Int32) (m : MM) (n : Nat) : Option Out := brun false (0, 0) (csF q) (lkb tX7_keep) n 2 [some (aR 7 a0), some (aR 62 a1), some (aI s)] [] (ST0 q, m)
noncomputable def kxfX7_keep_b2 (q : Nat) (a0 : Nat) (a1 : Nat) (y : (Unit) × MM) (n : Nat) : Option Out := brun false (0, 0) (csF q) (lkb tX7_keep) n 23 [some (aR 7 a0), some (aR 62 a1), none] [] (ST0 q, y.2)
theorem pfX7_keep_b2 (q : Nat) (hcs : CSm (csF q)) (a0 : Nat) (a1 : Nat) (s : Int32) (m : MM) : SimK (fX7_keep_b2 a0 a1 s m) (hfX7_keep_b2 q a0 a1 s m) (lpK (hfX7_keep_b2 q a0 a1) (kxfX7_keep_b2 q a0 a1)) :=
  (simk_run hcs 13 [2, 23]
    (simt_ite
      (simt_go hcs (.s _ (.s _ (.n _ .nil))) (fun _ => rfl))
      (simt_bif
        (simt_bif
          (simt_go hcs (.s _ (.s _ (.s _ .nil))) (fun _ => rfl)))))
  (fun _ => rfl))
theorem pfX7_keep_b2_l (q : Nat) (hcs : CSm (csF q)) (a0 : Nat) (a1 : Nat) (s : Int32) (m : MM) : SimK (loopF 1000 (fX7_keep_b2 a0 a1) s m) (hfX7_keep_b2 q a0 a1 s m) (kxfX7_keep_b2 q a0 a1) :=
  simk_loopF (fun s m => pfX7_keep_b2 q hcs a0 a1 s m) 1000 s m
noncomputable def hfX7_keep_b25 (q : Nat) (a0 : Nat) (a1 : Nat) (s : Int32) (m : MM) (n : Nat) : Option Out := brun false (0, 0) (csF q) (lkb tX7_keep) n 25 [some (aR 7 a0), some (aR 62 a1), some (aI s)] [] (ST0 q, m)
noncomputable def kxfX7_keep_b25 (q : Nat) (a0 : Nat) (a1 : Nat) (y : (Unit) × MM) (n : Nat) : Option Out := brun false (0, 0) (csF q) (lkb tX7_keep) n 97 [some (aR 7 a0), some (aR 62 a1), none] [] (ST0 q, y.2)
theorem pfX7_keep_b25 (q : Nat) (hcs : CSm (csF q)) (a0 : Nat) (a1 : Nat) (s : Int32) (m : MM) : SimK (fX7_keep_b25 a0 a1 s m) (hfX7_keep_b25 q a0 a1 s m) (lpK (hfX7_keep_b25 q a0 a1) (kxfX7_keep_b25 q a0 a1)) :=
  (simk_run hcs 51 [25, 97]
    (simt_ite
      (simt_go hcs (.s _ (.s _ (.n _ .nil))) (fun _ => rfl))
      (simt_bif
        (simt_bif
          (simt_bif
            (simt_bif
              (simt_bif
                (simt_bif
                  (simt_bif
                    (simt_bif
                      (simt_bif
                        (simt_bif
                          (simt_go hcs (.s _ (.s _ (.s _ .nil))) (fun _ => rfl)))))))))))))
  (fun _ => rfl))
theorem pfX7_keep_b25_l (q : Nat) (hcs : CSm (csF q)) (a0 : Nat) (a1 : Nat) (s : Int32) (m : MM) : SimK (loopF 1000 (fX7_keep_b25 a0 a1) s m) (hfX7_keep_b25 q a0 a1 s m) (kxfX7_keep_b25 q a0 a1) :=
  simk_loopF (fun s m => pfX7_keep_b25 q hcs a0 a1 s m) 1000 s m
noncomputable def hfX7_keep_b99 (q : Nat) (a0 : Nat) (a1 : Nat) (s : Int32) (m : MM) (n : Nat) : Option Out := brun false (0, 0) (csF q) (lkb tX7_keep) n 99 [some (aR 7 a0), some (aR 62 a1), some (aI s)] [] (ST0 q, m)
noncomputable def kxfX7_keep_b99 (q : Nat) (a0 : Nat) (a1 : Nat) (y : (Unit) × MM) (n : Nat) : Option Out := brun false (0, 0) (csF q) (lkb tX7_keep) n 123 [some (aR 7 a0), some (aR 62 a1), none] [] (ST0 q, y.2)
theorem pfX7_keep_b99 (q : Nat) (hcs : CSm (csF q)) (a0 : Nat) (a1 : Nat) (s : Int32) (m : MM) : SimK (fX7_keep_b99 a0 a1 s m) (hfX7_keep_b99 q a0 a1 s m) (lpK (hfX7_keep_b99 q a0 a1) (kxfX7_keep_b99 q a0 a1)) :=
  (simk_run hcs 15 [99, 123]
    (simt_ite
      (simt_go hcs (.s _ (.s _ (.n _ .nil))) (fun _ => rfl))
      (simt_bif
        (simt_bif
          (simt_go hcs (.s _ (.s _ (.s _ .nil))) (fun _ => rfl)))))
  (fun _ => rfl))
theorem pfX7_keep_b99_l (q : Nat) (hcs : CSm (csF q)) (a0 : Nat) (a1 : Nat) (s : Int32) (m : MM) : SimK (loopF 1000 (fX7_keep_b99 a0 a1) s m) (hfX7_keep_b99 q a0 a1 s m) (kxfX7_keep_b99 q a0 a1) :=
  simk_loopF (fun s m => pfX7_keep_b99 q hcs a0 a1 s m) 1000 s m
theorem pfX7_keep (q : Nat) (hcs : CSm (csF q)) (a0 : Nat) (a1 : Nat) (m : MM) : SimK (fX7_keep_b a0 a1 m) (fun n => brun false (0, 0) (csF q) (lkb tX7_keep) n 0 (entL 3 [aR 7 a0, aR 62 a1]) [] (ST0 q, m)) (kt_X7_keep q) :=
  (simk_run hcs 3 [2]
    (simt_loop hcs (.s _ (.s _ (.s _ .nil))) (pfX7_keep_b2_l q hcs a0 a1 0 m) (fun o1 => 
      (simk_run hcs 3 [25]
        (simt_loop hcs (.s _ (.s _ (.s _ .nil))) (pfX7_keep_b25_l q hcs a0 a1 0 o1.2) (fun o2 => 
          (simk_run hcs 3 [99]
            (simt_loop hcs (.s _ (.s _ (.s _ .nil))) (pfX7_keep_b99_l q hcs a0 a1 0 o2.2) (fun o3 => 
              (simk_run hcs 41 []
                (simt_bif
                  (simt_bif
                    (simt_bif
                      (simt_bif
                        (simt_bif
                          (simt_bif
                            (simt_bif
                              (simt_bif
                                (simt_bif
                                  (simt_ret (some (none, (ST0 q, ((upI (upI (upI (upI (upI (upI (upI o3.2.1 62 a1 (93 : Int32).toNatClampNeg (o3.2.1 7 a0 0)) 62 a1 (94 : Int32).toNatClampNeg ((upI o3.2.1 62 a1 (93 : Int32).toNatClampNeg (o3.2.1 7 a0 0)) 51 0 (0 : Int32).toNatClampNeg)) 62 a1 (95 : Int32).toNatClampNeg ((upI (upI o3.2.1 62 a1 (93 : Int32).toNatClampNeg (o3.2.1 7 a0 0)) 62 a1 (94 : Int32).toNatClampNeg ((upI o3.2.1 62 a1 (93 : Int32).toNatClampNeg (o3.2.1 7 a0 0)) 51 0 (0 : Int32).toNatClampNeg)) 51 0 (1 : Int32).toNatClampNeg)) 62 a1 (96 : Int32).toNatClampNeg ((upI (upI (upI o3.2.1 62 a1 (93 : Int32).toNatClampNeg (o3.2.1 7 a0 0)) 62 a1 (94 : Int32).toNatClampNeg ((upI o3.2.1 62 a1 (93 : Int32).toNatClampNeg (o3.2.1 7 a0 0)) 51 0 (0 : Int32).toNatClampNeg)) 62 a1 (95 : Int32).toNatClampNeg ((upI (upI o3.2.1 62 a1 (93 : Int32).toNatClampNeg (o3.2.1 7 a0 0)) 62 a1 (94 : Int32).toNatClampNeg ((upI o3.2.1 62 a1 (93 : Int32).toNatClampNeg (o3.2.1 7 a0 0)) 51 0 (0 : Int32).toNatClampNeg)) 51 0 (1 : Int32).toNatClampNeg)) 7 a0 3)) 62 a1 (97 : Int32).toNatClampNeg ((upI (upI (upI (upI o3.2.1 62 a1 (93 : Int32).toNatClampNeg (o3.2.1 7 a0 0)) 62 a1 (94 : Int32).toNatClampNeg ((upI o3.2.1 62 a1 (93 : Int32).toNatClampNeg (o3.2.1 7 a0 0)) 51 0 (0 : Int32).toNatClampNeg)) 62 a1 (95 : Int32).toNatClampNeg ((upI (upI o3.2.1 62 a1 (93 : Int32).toNatClampNeg (o3.2.1 7 a0 0)) 62 a1 (94 : Int32).toNatClampNeg ((upI o3.2.1 62 a1 (93 : Int32).toNatClampNeg (o3.2.1 7 a0 0)) 51 0 (0 : Int32).toNatClampNeg)) 51 0 (1 : Int32).toNatClampNeg)) 62 a1 (96 : Int32).toNatClampNeg ((upI (upI (upI o3.2.1 62 a1 (93 : Int32).toNatClampNeg (o3.2.1 7 a0 0)) 62 a1 (94 : Int32).toNatClampNeg ((upI o3.2.1 62 a1 (93 : Int32).toNatClampNeg (o3.2.1 7 a0 0)) 51 0 (0 : Int32).toNatClampNeg)) 62 a1 (95 : Int32).toNatClampNeg ((upI (upI o3.2.1 62 a1 (93 : Int32).toNatClampNeg (o3.2.1 7 a0 0)) 62 a1 (94 : Int32).toNatClampNeg ((upI o3.2.1 62 a1 (93 : Int32).toNatClampNeg (o3.2.1 7 a0 0)) 51 0 (0 : Int32).toNatClampNeg)) 51 0 (1 : Int32).toNatClampNeg)) 7 a0 3)) 7 a0 4)) 62 a1 (98 : Int32).toNatClampNeg ((upI (upI (upI (upI (upI o3.2.1 62 a1 (93 : Int32).toNatClampNeg (o3.2.1 7 a0 0)) 62 a1 (94 : Int32).toNatClampNeg ((upI o3.2.1 62 a1 (93 : Int32).toNatClampNeg (o3.2.1 7 a0 0)) 51 0 (0 : Int32).toNatClampNeg)) 62 a1 (95 : Int32).toNatClampNeg ((upI (upI o3.2.1 62 a1 (93 : Int32).toNatClampNeg (o3.2.1 7 a0 0)) 62 a1 (94 : Int32).toNatClampNeg ((upI o3.2.1 62 a1 (93 : Int32).toNatClampNeg (o3.2.1 7 a0 0)) 51 0 (0 : Int32).toNatClampNeg)) 51 0 (1 : Int32).toNatClampNeg)) 62 a1 (96 : Int32).toNatClampNeg ((upI (upI (upI o3.2.1 62 a1 (93 : Int32).toNatClampNeg (o3.2.1 7 a0 0)) 62 a1 (94 : Int32).toNatClampNeg ((upI o3.2.1 62 a1 (93 : Int32).toNatClampNeg (o3.2.1 7 a0 0)) 51 0 (0 : Int32).toNatClampNeg)) 62 a1 (95 : Int32).toNatClampNeg ((upI (upI o3.2.1 62 a1 (93 : Int32).toNatClampNeg (o3.2.1 7 a0 0)) 62 a1 (94 : Int32).toNatClampNeg ((upI o3.2.1 62 a1 (93 : Int32).toNatClampNeg (o3.2.1 7 a0 0)) 51 0 (0 : Int32).toNatClampNeg)) 51 0 (1 : Int32).toNatClampNeg)) 7 a0 3)) 62 a1 (97 : Int32).toNatClampNeg ((upI (upI (upI (upI o3.2.1 62 a1 (93 : Int32).toNatClampNeg (o3.2.1 7 a0 0)) 62 a1 (94 : Int32).toNatClampNeg ((upI o3.2.1 62 a1 (93 : Int32).toNatClampNeg (o3.2.1 7 a0 0)) 51 0 (0 : Int32).toNatClampNeg)) 62 a1 (95 : Int32).toNatClampNeg ((upI (upI o3.2.1 62 a1 (93 : Int32).toNatClampNeg (o3.2.1 7 a0 0)) 62 a1 (94 : Int32).toNatClampNeg ((upI o3.2.1 62 a1 (93 : Int32).toNatClampNeg (o3.2.1 7 a0 0)) 51 0 (0 : Int32).toNatClampNeg)) 51 0 (1 : Int32).toNatClampNeg)) 62 a1 (96 : Int32).toNatClampNeg ((upI (upI (upI o3.2.1 62 a1 (93 : Int32).toNatClampNeg (o3.2.1 7 a0 0)) 62 a1 (94 : Int32).toNatClampNeg ((upI o3.2.1 62 a1 (93 : Int32).toNatClampNeg (o3.2.1 7 a0 0)) 51 0 (0 : Int32).toNatClampNeg)) 62 a1 (95 : Int32).toNatClampNeg ((upI (upI o3.2.1 62 a1 (93 : Int32).toNatClampNeg (o3.2.1 7 a0 0)) 62 a1 (94 : Int32).toNatClampNeg ((upI o3.2.1 62 a1 (93 : Int32).toNatClampNeg (o3.2.1 7 a0 0)) 51 0 (0 : Int32).toNatClampNeg)) 51 0 (1 : Int32).toNatClampNeg)) 7 a0 3)) 7 a0 4)) 7 a0 10)) 62 a1 (99 : Int32).toNatClampNeg ((upI (upI (upI (upI (upI (upI o3.2.1 62 a1 (93 : Int32).toNatClampNeg (o3.2.1 7 a0 0)) 62 a1 (94 : Int32).toNatClampNeg ((upI o3.2.1 62 a1 (93 : Int32).toNatClampNeg (o3.2.1 7 a0 0)) 51 0 (0 : Int32).toNatClampNeg)) 62 a1 (95 : Int32).toNatClampNeg ((upI (upI o3.2.1 62 a1 (93 : Int32).toNatClampNeg (o3.2.1 7 a0 0)) 62 a1 (94 : Int32).toNatClampNeg ((upI o3.2.1 62 a1 (93 : Int32).toNatClampNeg (o3.2.1 7 a0 0)) 51 0 (0 : Int32).toNatClampNeg)) 51 0 (1 : Int32).toNatClampNeg)) 62 a1 (96 : Int32).toNatClampNeg ((upI (upI (upI o3.2.1 62 a1 (93 : Int32).toNatClampNeg (o3.2.1 7 a0 0)) 62 a1 (94 : Int32).toNatClampNeg ((upI o3.2.1 62 a1 (93 : Int32).toNatClampNeg (o3.2.1 7 a0 0)) 51 0 (0 : Int32).toNatClampNeg)) 62 a1 (95 : Int32).toNatClampNeg ((upI (upI o3.2.1 62 a1 (93 : Int32).toNatClampNeg (o3.2.1 7 a0 0)) 62 a1 (94 : Int32).toNatClampNeg ((upI o3.2.1 62 a1 (93 : Int32).toNatClampNeg (o3.2.1 7 a0 0)) 51 0 (0 : Int32).toNatClampNeg)) 51 0 (1 : Int32).toNatClampNeg)) 7 a0 3)) 62 a1 (97 : Int32).toNatClampNeg ((upI (upI (upI (upI o3.2.1 62 a1 (93 : Int32).toNatClampNeg (o3.2.1 7 a0 0)) 62 a1 (94 : Int32).toNatClampNeg ((upI o3.2.1 62 a1 (93 : Int32).toNatClampNeg (o3.2.1 7 a0 0)) 51 0 (0 : Int32).toNatClampNeg)) 62 a1 (95 : Int32).toNatClampNeg ((upI (upI o3.2.1 62 a1 (93 : Int32).toNatClampNeg (o3.2.1 7 a0 0)) 62 a1 (94 : Int32).toNatClampNeg ((upI o3.2.1 62 a1 (93 : Int32).toNatClampNeg (o3.2.1 7 a0 0)) 51 0 (0 : Int32).toNatClampNeg)) 51 0 (1 : Int32).toNatClampNeg)) 62 a1 (96 : Int32).toNatClampNeg ((upI (upI (upI o3.2.1 62 a1 (93 : Int32).toNatClampNeg (o3.2.1 7 a0 0)) 62 a1 (94 : Int32).toNatClampNeg ((upI o3.2.1 62 a1 (93 : Int32).toNatClampNeg (o3.2.1 7 a0 0)) 51 0 (0 : Int32).toNatClampNeg)) 62 a1 (95 : Int32).toNatClampNeg ((upI (upI o3.2.1 62 a1 (93 : Int32).toNatClampNeg (o3.2.1 7 a0 0)) 62 a1 (94 : Int32).toNatClampNeg ((upI o3.2.1 62 a1 (93 : Int32).toNatClampNeg (o3.2.1 7 a0 0)) 51 0 (0 : Int32).toNatClampNeg)) 51 0 (1 : Int32).toNatClampNeg)) 7 a0 3)) 7 a0 4)) 62 a1 (98 : Int32).toNatClampNeg ((upI (upI (upI (upI (upI o3.2.1 62 a1 (93 : Int32).toNatClampNeg (o3.2.1 7 a0 0)) 62 a1 (94 : Int32).toNatClampNeg ((upI o3.2.1 62 a1 (93 : Int32).toNatClampNeg (o3.2.1 7 a0 0)) 51 0 (0 : Int32).toNatClampNeg)) 62 a1 (95 : Int32).toNatClampNeg ((upI (upI o3.2.1 62 a1 (93 : Int32).toNatClampNeg (o3.2.1 7 a0 0)) 62 a1 (94 : Int32).toNatClampNeg ((upI o3.2.1 62 a1 (93 : Int32).toNatClampNeg (o3.2.1 7 a0 0)) 51 0 (0 : Int32).toNatClampNeg)) 51 0 (1 : Int32).toNatClampNeg)) 62 a1 (96 : Int32).toNatClampNeg ((upI (upI (upI o3.2.1 62 a1 (93 : Int32).toNatClampNeg (o3.2.1 7 a0 0)) 62 a1 (94 : Int32).toNatClampNeg ((upI o3.2.1 62 a1 (93 : Int32).toNatClampNeg (o3.2.1 7 a0 0)) 51 0 (0 : Int32).toNatClampNeg)) 62 a1 (95 : Int32).toNatClampNeg ((upI (upI o3.2.1 62 a1 (93 : Int32).toNatClampNeg (o3.2.1 7 a0 0)) 62 a1 (94 : Int32).toNatClampNeg ((upI o3.2.1 62 a1 (93 : Int32).toNatClampNeg (o3.2.1 7 a0 0)) 51 0 (0 : Int32).toNatClampNeg)) 51 0 (1 : Int32).toNatClampNeg)) 7 a0 3)) 62 a1 (97 : Int32).toNatClampNeg ((upI (upI (upI (upI o3.2.1 62 a1 (93 : Int32).toNatClampNeg (o3.2.1 7 a0 0)) 62 a1 (94 : Int32).toNatClampNeg ((upI o3.2.1 62 a1 (93 : Int32).toNatClampNeg (o3.2.1 7 a0 0)) 51 0 (0 : Int32).toNatClampNeg)) 62 a1 (95 : Int32).toNatClampNeg ((upI (upI o3.2.1 62 a1 (93 : Int32).toNatClampNeg (o3.2.1 7 a0 0)) 62 a1 (94 : Int32).toNatClampNeg ((upI o3.2.1 62 a1 (93 : Int32).toNatClampNeg (o3.2.1 7 a0 0)) 51 0 (0 : Int32).toNatClampNeg)) 51 0 (1 : Int32).toNatClampNeg)) 62 a1 (96 : Int32).toNatClampNeg ((upI (upI (upI o3.2.1 62 a1 (93 : Int32).toNatClampNeg (o3.2.1 7 a0 0)) 62 a1 (94 : Int32).toNatClampNeg ((upI o3.2.1 62 a1 (93 : Int32).toNatClampNeg (o3.2.1 7 a0 0)) 51 0 (0 : Int32).toNatClampNeg)) 62 a1 (95 : Int32).toNatClampNeg ((upI (upI o3.2.1 62 a1 (93 : Int32).toNatClampNeg (o3.2.1 7 a0 0)) 62 a1 (94 : Int32).toNatClampNeg ((upI o3.2.1 62 a1 (93 : Int32).toNatClampNeg (o3.2.1 7 a0 0)) 51 0 (0 : Int32).toNatClampNeg)) 51 0 (1 : Int32).toNatClampNeg)) 7 a0 3)) 7 a0 4)) 7 a0 10)) 7 a0 12)), o3.2.2)))) (fun _ => rfl)))))))))))
              (fun _ => rfl))))
          (fun _ => rfl))))
      (fun _ => rfl))))
  (fun _ => rfl))
noncomputable def kt_X7_coast (q : Nat) : Int32 × MM → Nat → Option Out := fun x _ => some (some (aI x.1), (ST0 q, x.2))
noncomputable def hfX7_coast_b17 (q : Nat) (a0 : Nat) (s : Int32 × Int32) (m : MM) (n : Nat) : Option Out := brun false (0, 0) (csF q) (lkb tX7_coast) n 17 [some (aR 7 a0), some (aI s.1), some (aI s.2)] [] (ST0 q, m)
noncomputable def kxfX7_coast_b17 (q : Nat) (a0 : Nat) (y : ((Unit) ⊕ (Int32)) × MM) (n : Nat) : Option Out := match y.1 with
  | Sum.inl x => brun false (0, 0) (csF q) (lkb tX7_coast) n 78 [some (aR 7 a0), none, none] [] (ST0 q, y.2)
  | Sum.inr x => brun false (0, 0) (csF q) (lkb tX7_coast) n 53 [some (aR 7 a0), some (aI x), none] [] (ST0 q, y.2)
theorem pfX7_coast_b17 (q : Nat) (hcs : CSm (csF q)) (a0 : Nat) (s : Int32 × Int32) (m : MM) : SimK (fX7_coast_b17 a0 s m) (hfX7_coast_b17 q a0 s m) (lpK (hfX7_coast_b17 q a0) (kxfX7_coast_b17 q a0)) :=
  (simk_run hcs 25 [17, 53, 78]
    (simt_ite
      (simt_go hcs (.s _ (.n _ (.n _ .nil))) (fun _ => rfl))
      (simt_bind fun o2 =>
        (simt_bind fun o3 =>
          (simt_ite
            (simt_bind fun o4 =>
              (simt_ite
                (simt_ite
                  (simt_go hcs (.s _ (.s _ (.s _ .nil))) (fun _ => rfl))
                  (simt_go hcs (.s _ (.s _ (.s _ .nil))) (fun _ => rfl)))
                (simt_go hcs (.s _ (.s _ (.n _ .nil))) (fun _ => rfl))))
            (simt_go hcs (.s _ (.s _ (.s _ .nil))) (fun _ => rfl))))))
  (fun _ => rfl))
theorem pfX7_coast_b17_l (q : Nat) (hcs : CSm (csF q)) (a0 : Nat) (s : Int32 × Int32) (m : MM) : SimK (loopF 1000 (fX7_coast_b17 a0) s m) (hfX7_coast_b17 q a0 s m) (kxfX7_coast_b17 q a0) :=
  simk_loopF (fun s m => pfX7_coast_b17 q hcs a0 s m) 1000 s m
theorem pfX7_coast (q : Nat) (hcs : CSm (csF q)) (a0 : Nat) (m : MM) : SimK (fX7_coast_b a0 m) (fun n => brun false (0, 0) (csF q) (lkb tX7_coast) n 0 (entL 3 [aR 7 a0]) [] (ST0 q, m)) (kt_X7_coast q) :=
  (simk_run hcs 12 [17]
    (simt_bind fun o1 =>
      (simt_loop hcs (.s _ (.s _ (.s _ .nil))) (pfX7_coast_b17_l q hcs a0 (0, 1) ((upI o1.2.1 7 a0 16 0), o1.2.2)) (fun o5 => by
        obtain ⟨o5x, o5m⟩ := o5
        rcases o5x with x6 | x9
        · exact
          (simk_run hcs 17 []
            (simt_bind fun o7 =>
              (simt_bind fun o8 =>
                (simt_ret (some (some (aI ((-2000) - (o8.2.1 7 a0 15))), (ST0 q, o8.2))) (fun _ => rfl))))
          (fun _ => rfl))
        · exact
          (simk_run hcs 6 []
            (simt_ret (some (some (aI x9), (ST0 q, ((upI o5m.1 7 a0 13 0), o5m.2)))) (fun _ => rfl))
          (fun _ => rfl)))))
  (fun _ => rfl))
