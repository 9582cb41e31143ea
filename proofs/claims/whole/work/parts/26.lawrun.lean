/-! THE LAW'S LOOP IS ITS RUN -/
set_option maxRecDepth 20000
set_option maxHeartbeats 4000000
noncomputable def kt_L_law (q : Nat) : Bool × MM → Nat → Option Out := fun x _ => some (some (aI (bI x.1)), (ST0 q, x.2))
noncomputable def hfL_law_b18 (q : Nat) (s : Int32) (m : MM) (n : Nat) : Option Out := brun false (0, 0) (csF q) (lkb tL_law) n 18 [some (aR 33 0), some (aR 6 0), some (aR 7 0), some (aI s)] [] (ST0 q, m)
noncomputable def kxfL_law_b18 (q : Nat) (y : ((Unit) ⊕ (Bool)) × MM) (n : Nat) : Option Out := match y.1 with
  | Sum.inl x => brun false (0, 0) (csF q) (lkb tL_law) n 2020 [none, none, none, none] [] (ST0 q, y.2)
  | Sum.inr x => some (some (aI (bI x)), (ST0 q, y.2))
theorem pfL_law_j1991 (q : Nat) (hcs : CSm (csF q)) (a3 : Int32) (m : MM) : SimK (fL_law_j1991 q a3 m) (fun n => brun false (0, 0) (csF q) (lkb tL_law) n 1991 [some (aR 33 0), some (aR 6 0), some (aR 7 0), some (aI a3)] [] (ST0 q, m)) (lpK (hfL_law_b18 q) (kxfL_law_b18 q)) :=
  (simk_run hcs 18 [18]
    (simt_bif
      (simt_bind fun o1 =>
        (simt_bif
          (simt_bind fun o2 =>
            (simt_ite
              (simt_go hcs (.s _ (.s _ (.s _ (.s _ .nil)))) (fun _ => rfl))
              (simt_ret (some (some (aI 0), (ST0 q, o2.2))) (fun _ => rfl)))))))
  (fun _ => rfl))
theorem pfL_law_j1978 (q : Nat) (hcs : CSm (csF q)) (a3 : Int32) (m : MM) : SimK (fL_law_j1978 q a3 m) (fun n => brun false (0, 0) (csF q) (lkb tL_law) n 1978 [some (aR 33 0), some (aR 6 0), some (aR 7 0), some (aI a3)] [] (ST0 q, m)) (lpK (hfL_law_b18 q) (kxfL_law_b18 q)) :=
  (simk_run hcs 8 [18]
    (simt_bind fun o3 =>
      (simt_bind fun o4 =>
        (simt_ite
          (simt_go hcs (.s _ (.s _ (.s _ (.s _ .nil)))) (fun _ => rfl))
          (simt_ret (some (some (aI 0), (ST0 q, o4.2))) (fun _ => rfl)))))
  (fun _ => rfl))
theorem pfL_law_j1965 (q : Nat) (hcs : CSm (csF q)) (a3 : Int32) (m : MM) : SimK (fL_law_j1965 q a3 m) (fun n => brun false (0, 0) (csF q) (lkb tL_law) n 1965 [some (aR 33 0), some (aR 6 0), some (aR 7 0), some (aI a3)] [] (ST0 q, m)) (lpK (hfL_law_b18 q) (kxfL_law_b18 q)) :=
  (simk_run hcs 8 [18]
    (simt_bind fun o5 =>
      (simt_bind fun o6 =>
        (simt_ite
          (simt_go hcs (.s _ (.s _ (.s _ (.s _ .nil)))) (fun _ => rfl))
          (simt_ret (some (some (aI 0), (ST0 q, o6.2))) (fun _ => rfl)))))
  (fun _ => rfl))
theorem pfL_law_j1942 (q : Nat) (hcs : CSm (csF q)) (a3 : Int32) (m : MM) : SimK (fL_law_j1942 q a3 m) (fun n => brun false (0, 0) (csF q) (lkb tL_law) n 1942 [some (aR 33 0), some (aR 6 0), some (aR 7 0), some (aI a3)] [] (ST0 q, m)) (lpK (hfL_law_b18 q) (kxfL_law_b18 q)) :=
  (simk_run hcs 18 [18]
    (simt_bif
      (simt_bind fun o7 =>
        (simt_bif
          (simt_bind fun o8 =>
            (simt_ite
              (simt_go hcs (.s _ (.s _ (.s _ (.s _ .nil)))) (fun _ => rfl))
              (simt_ret (some (some (aI 0), (ST0 q, o8.2))) (fun _ => rfl)))))))
  (fun _ => rfl))
theorem pfL_law_j1919 (q : Nat) (hcs : CSm (csF q)) (a3 : Int32) (m : MM) : SimK (fL_law_j1919 q a3 m) (fun n => brun false (0, 0) (csF q) (lkb tL_law) n 1919 [some (aR 33 0), some (aR 6 0), some (aR 7 0), some (aI a3)] [] (ST0 q, m)) (lpK (hfL_law_b18 q) (kxfL_law_b18 q)) :=
  (simk_run hcs 18 [18]
    (simt_bif
      (simt_bind fun o9 =>
        (simt_bif
          (simt_bind fun o10 =>
            (simt_ite
              (simt_go hcs (.s _ (.s _ (.s _ (.s _ .nil)))) (fun _ => rfl))
              (simt_ret (some (some (aI 0), (ST0 q, o10.2))) (fun _ => rfl)))))))
  (fun _ => rfl))
theorem pfL_law_j1896 (q : Nat) (hcs : CSm (csF q)) (a3 : Int32) (m : MM) : SimK (fL_law_j1896 q a3 m) (fun n => brun false (0, 0) (csF q) (lkb tL_law) n 1896 [some (aR 33 0), some (aR 6 0), some (aR 7 0), some (aI a3)] [] (ST0 q, m)) (lpK (hfL_law_b18 q) (kxfL_law_b18 q)) :=
  (simk_run hcs 18 [18]
    (simt_bif
      (simt_bind fun o11 =>
        (simt_bif
          (simt_bind fun o12 =>
            (simt_ite
              (simt_go hcs (.s _ (.s _ (.s _ (.s _ .nil)))) (fun _ => rfl))
              (simt_ret (some (some (aI 0), (ST0 q, o12.2))) (fun _ => rfl)))))))
  (fun _ => rfl))
theorem pfL_law_j1843 (q : Nat) (hcs : CSm (csF q)) (a3 : Int32) (m : MM) : SimK (fL_law_j1843 q a3 m) (fun n => brun false (0, 0) (csF q) (lkb tL_law) n 1843 [some (aR 33 0), some (aR 6 0), some (aR 7 0), some (aI a3)] [] (ST0 q, m)) (lpK (hfL_law_b18 q) (kxfL_law_b18 q)) :=
  (simk_run hcs 48 [18]
    (simt_bif
      (simt_bif
        (simt_bif
          (simt_bif
            (simt_bind fun o13 =>
              (simt_bif
                (simt_bif
                  (simt_bif
                    (simt_bif
                      (simt_bind fun o14 =>
                        (simt_ite
                          (simt_go hcs (.s _ (.s _ (.s _ (.s _ .nil)))) (fun _ => rfl))
                          (simt_ret (some (some (aI 0), (ST0 q, o14.2))) (fun _ => rfl)))))))))))))
  (fun _ => rfl))
theorem pfL_law_j1800 (q : Nat) (hcs : CSm (csF q)) (a3 : Int32) (m : MM) : SimK (fL_law_j1800 q a3 m) (fun n => brun false (0, 0) (csF q) (lkb tL_law) n 1800 [some (aR 33 0), some (aR 6 0), some (aR 7 0), some (aI a3)] [] (ST0 q, m)) (lpK (hfL_law_b18 q) (kxfL_law_b18 q)) :=
  (simk_run hcs 38 [18]
    (simt_bif
      (simt_bif
        (simt_bif
          (simt_bind fun o15 =>
            (simt_bif
              (simt_bif
                (simt_bif
                  (simt_bind fun o16 =>
                    (simt_ite
                      (simt_go hcs (.s _ (.s _ (.s _ (.s _ .nil)))) (fun _ => rfl))
                      (simt_ret (some (some (aI 0), (ST0 q, o16.2))) (fun _ => rfl)))))))))))
  (fun _ => rfl))
theorem pfL_law_j1777 (q : Nat) (hcs : CSm (csF q)) (a3 : Int32) (m : MM) : SimK (fL_law_j1777 q a3 m) (fun n => brun false (0, 0) (csF q) (lkb tL_law) n 1777 [some (aR 33 0), some (aR 6 0), some (aR 7 0), some (aI a3)] [] (ST0 q, m)) (lpK (hfL_law_b18 q) (kxfL_law_b18 q)) :=
  (simk_run hcs 18 [18]
    (simt_bif
      (simt_bind fun o17 =>
        (simt_bif
          (simt_bind fun o18 =>
            (simt_ite
              (simt_go hcs (.s _ (.s _ (.s _ (.s _ .nil)))) (fun _ => rfl))
              (simt_ret (some (some (aI 0), (ST0 q, o18.2))) (fun _ => rfl)))))))
  (fun _ => rfl))
theorem pfL_law_j1764 (q : Nat) (hcs : CSm (csF q)) (a3 : Int32) (m : MM) : SimK (fL_law_j1764 q a3 m) (fun n => brun false (0, 0) (csF q) (lkb tL_law) n 1764 [some (aR 33 0), some (aR 6 0), some (aR 7 0), some (aI a3)] [] (ST0 q, m)) (lpK (hfL_law_b18 q) (kxfL_law_b18 q)) :=
  (simk_run hcs 8 [18]
    (simt_bind fun o19 =>
      (simt_bind fun o20 =>
        (simt_ite
          (simt_go hcs (.s _ (.s _ (.s _ (.s _ .nil)))) (fun _ => rfl))
          (simt_ret (some (some (aI 0), (ST0 q, o20.2))) (fun _ => rfl)))))
  (fun _ => rfl))
theorem pfL_law_j1731 (q : Nat) (hcs : CSm (csF q)) (a3 : Int32) (m : MM) : SimK (fL_law_j1731 q a3 m) (fun n => brun false (0, 0) (csF q) (lkb tL_law) n 1731 [some (aR 33 0), some (aR 6 0), some (aR 7 0), some (aI a3)] [] (ST0 q, m)) (lpK (hfL_law_b18 q) (kxfL_law_b18 q)) :=
  (simk_run hcs 28 [18]
    (simt_bif
      (simt_bif
        (simt_bind fun o21 =>
          (simt_bif
            (simt_bif
              (simt_bind fun o22 =>
                (simt_ite
                  (simt_go hcs (.s _ (.s _ (.s _ (.s _ .nil)))) (fun _ => rfl))
                  (simt_ret (some (some (aI 0), (ST0 q, o22.2))) (fun _ => rfl)))))))))
  (fun _ => rfl))
theorem pfL_law_j1688 (q : Nat) (hcs : CSm (csF q)) (a3 : Int32) (m : MM) : SimK (fL_law_j1688 q a3 m) (fun n => brun false (0, 0) (csF q) (lkb tL_law) n 1688 [some (aR 33 0), some (aR 6 0), some (aR 7 0), some (aI a3)] [] (ST0 q, m)) (lpK (hfL_law_b18 q) (kxfL_law_b18 q)) :=
  (simk_run hcs 38 [18]
    (simt_bif
      (simt_bif
        (simt_bif
          (simt_bind fun o23 =>
            (simt_bif
              (simt_bif
                (simt_bif
                  (simt_bind fun o24 =>
                    (simt_ite
                      (simt_go hcs (.s _ (.s _ (.s _ (.s _ .nil)))) (fun _ => rfl))
                      (simt_ret (some (some (aI 0), (ST0 q, o24.2))) (fun _ => rfl)))))))))))
  (fun _ => rfl))
theorem pfL_law_j1665 (q : Nat) (hcs : CSm (csF q)) (a3 : Int32) (m : MM) : SimK (fL_law_j1665 q a3 m) (fun n => brun false (0, 0) (csF q) (lkb tL_law) n 1665 [some (aR 33 0), some (aR 6 0), some (aR 7 0), some (aI a3)] [] (ST0 q, m)) (lpK (hfL_law_b18 q) (kxfL_law_b18 q)) :=
  (simk_run hcs 18 [18]
    (simt_bif
      (simt_bind fun o25 =>
        (simt_bif
          (simt_bind fun o26 =>
            (simt_ite
              (simt_go hcs (.s _ (.s _ (.s _ (.s _ .nil)))) (fun _ => rfl))
              (simt_ret (some (some (aI 0), (ST0 q, o26.2))) (fun _ => rfl)))))))
  (fun _ => rfl))
theorem pfL_law_j1642 (q : Nat) (hcs : CSm (csF q)) (a3 : Int32) (m : MM) : SimK (fL_law_j1642 q a3 m) (fun n => brun false (0, 0) (csF q) (lkb tL_law) n 1642 [some (aR 33 0), some (aR 6 0), some (aR 7 0), some (aI a3)] [] (ST0 q, m)) (lpK (hfL_law_b18 q) (kxfL_law_b18 q)) :=
  (simk_run hcs 18 [18]
    (simt_bif
      (simt_bind fun o27 =>
        (simt_bif
          (simt_bind fun o28 =>
            (simt_ite
              (simt_go hcs (.s _ (.s _ (.s _ (.s _ .nil)))) (fun _ => rfl))
              (simt_ret (some (some (aI 0), (ST0 q, o28.2))) (fun _ => rfl)))))))
  (fun _ => rfl))
theorem pfL_law_j1609 (q : Nat) (hcs : CSm (csF q)) (a3 : Int32) (m : MM) : SimK (fL_law_j1609 q a3 m) (fun n => brun false (0, 0) (csF q) (lkb tL_law) n 1609 [some (aR 33 0), some (aR 6 0), some (aR 7 0), some (aI a3)] [] (ST0 q, m)) (lpK (hfL_law_b18 q) (kxfL_law_b18 q)) :=
  (simk_run hcs 28 [18]
    (simt_bif
      (simt_bif
        (simt_bind fun o29 =>
          (simt_bif
            (simt_bif
              (simt_bind fun o30 =>
                (simt_ite
                  (simt_go hcs (.s _ (.s _ (.s _ (.s _ .nil)))) (fun _ => rfl))
                  (simt_ret (some (some (aI 0), (ST0 q, o30.2))) (fun _ => rfl)))))))))
  (fun _ => rfl))
theorem pfL_law_j1586 (q : Nat) (hcs : CSm (csF q)) (a3 : Int32) (m : MM) : SimK (fL_law_j1586 q a3 m) (fun n => brun false (0, 0) (csF q) (lkb tL_law) n 1586 [some (aR 33 0), some (aR 6 0), some (aR 7 0), some (aI a3)] [] (ST0 q, m)) (lpK (hfL_law_b18 q) (kxfL_law_b18 q)) :=
  (simk_run hcs 18 [18]
    (simt_bif
      (simt_bind fun o31 =>
        (simt_bif
          (simt_bind fun o32 =>
            (simt_ite
              (simt_go hcs (.s _ (.s _ (.s _ (.s _ .nil)))) (fun _ => rfl))
              (simt_ret (some (some (aI 0), (ST0 q, o32.2))) (fun _ => rfl)))))))
  (fun _ => rfl))
theorem pfL_law_j1563 (q : Nat) (hcs : CSm (csF q)) (a3 : Int32) (m : MM) : SimK (fL_law_j1563 q a3 m) (fun n => brun false (0, 0) (csF q) (lkb tL_law) n 1563 [some (aR 33 0), some (aR 6 0), some (aR 7 0), some (aI a3)] [] (ST0 q, m)) (lpK (hfL_law_b18 q) (kxfL_law_b18 q)) :=
  (simk_run hcs 18 [18]
    (simt_bif
      (simt_bind fun o33 =>
        (simt_bif
          (simt_bind fun o34 =>
            (simt_ite
              (simt_go hcs (.s _ (.s _ (.s _ (.s _ .nil)))) (fun _ => rfl))
              (simt_ret (some (some (aI 0), (ST0 q, o34.2))) (fun _ => rfl)))))))
  (fun _ => rfl))
theorem pfL_law_j1530 (q : Nat) (hcs : CSm (csF q)) (a3 : Int32) (m : MM) : SimK (fL_law_j1530 q a3 m) (fun n => brun false (0, 0) (csF q) (lkb tL_law) n 1530 [some (aR 33 0), some (aR 6 0), some (aR 7 0), some (aI a3)] [] (ST0 q, m)) (lpK (hfL_law_b18 q) (kxfL_law_b18 q)) :=
  (simk_run hcs 28 [18]
    (simt_bif
      (simt_bif
        (simt_bind fun o35 =>
          (simt_bif
            (simt_bif
              (simt_bind fun o36 =>
                (simt_ite
                  (simt_go hcs (.s _ (.s _ (.s _ (.s _ .nil)))) (fun _ => rfl))
                  (simt_ret (some (some (aI 0), (ST0 q, o36.2))) (fun _ => rfl)))))))))
  (fun _ => rfl))
theorem pfL_law_j1507 (q : Nat) (hcs : CSm (csF q)) (a3 : Int32) (m : MM) : SimK (fL_law_j1507 q a3 m) (fun n => brun false (0, 0) (csF q) (lkb tL_law) n 1507 [some (aR 33 0), some (aR 6 0), some (aR 7 0), some (aI a3)] [] (ST0 q, m)) (lpK (hfL_law_b18 q) (kxfL_law_b18 q)) :=
  (simk_run hcs 18 [18]
    (simt_bif
      (simt_bind fun o37 =>
        (simt_bif
          (simt_bind fun o38 =>
            (simt_ite
              (simt_go hcs (.s _ (.s _ (.s _ (.s _ .nil)))) (fun _ => rfl))
              (simt_ret (some (some (aI 0), (ST0 q, o38.2))) (fun _ => rfl)))))))
  (fun _ => rfl))
theorem pfL_law_j1474 (q : Nat) (hcs : CSm (csF q)) (a3 : Int32) (m : MM) : SimK (fL_law_j1474 q a3 m) (fun n => brun false (0, 0) (csF q) (lkb tL_law) n 1474 [some (aR 33 0), some (aR 6 0), some (aR 7 0), some (aI a3)] [] (ST0 q, m)) (lpK (hfL_law_b18 q) (kxfL_law_b18 q)) :=
  (simk_run hcs 28 [18]
    (simt_bif
      (simt_bif
        (simt_bind fun o39 =>
          (simt_bif
            (simt_bif
              (simt_bind fun o40 =>
                (simt_ite
                  (simt_go hcs (.s _ (.s _ (.s _ (.s _ .nil)))) (fun _ => rfl))
                  (simt_ret (some (some (aI 0), (ST0 q, o40.2))) (fun _ => rfl)))))))))
  (fun _ => rfl))
theorem pfL_law_j1451 (q : Nat) (hcs : CSm (csF q)) (a3 : Int32) (m : MM) : SimK (fL_law_j1451 q a3 m) (fun n => brun false (0, 0) (csF q) (lkb tL_law) n 1451 [some (aR 33 0), some (aR 6 0), some (aR 7 0), some (aI a3)] [] (ST0 q, m)) (lpK (hfL_law_b18 q) (kxfL_law_b18 q)) :=
  (simk_run hcs 18 [18]
    (simt_bif
      (simt_bind fun o41 =>
        (simt_bif
          (simt_bind fun o42 =>
            (simt_ite
              (simt_go hcs (.s _ (.s _ (.s _ (.s _ .nil)))) (fun _ => rfl))
              (simt_ret (some (some (aI 0), (ST0 q, o42.2))) (fun _ => rfl)))))))
  (fun _ => rfl))
theorem pfL_law_j1418 (q : Nat) (hcs : CSm (csF q)) (a3 : Int32) (m : MM) : SimK (fL_law_j1418 q a3 m) (fun n => brun false (0, 0) (csF q) (lkb tL_law) n 1418 [some (aR 33 0), some (aR 6 0), some (aR 7 0), some (aI a3)] [] (ST0 q, m)) (lpK (hfL_law_b18 q) (kxfL_law_b18 q)) :=
  (simk_run hcs 28 [18]
    (simt_bif
      (simt_bif
        (simt_bind fun o43 =>
          (simt_bif
            (simt_bif
              (simt_bind fun o44 =>
                (simt_ite
                  (simt_go hcs (.s _ (.s _ (.s _ (.s _ .nil)))) (fun _ => rfl))
                  (simt_ret (some (some (aI 0), (ST0 q, o44.2))) (fun _ => rfl)))))))))
  (fun _ => rfl))
theorem pfL_law_j1395 (q : Nat) (hcs : CSm (csF q)) (a3 : Int32) (m : MM) : SimK (fL_law_j1395 q a3 m) (fun n => brun false (0, 0) (csF q) (lkb tL_law) n 1395 [some (aR 33 0), some (aR 6 0), some (aR 7 0), some (aI a3)] [] (ST0 q, m)) (lpK (hfL_law_b18 q) (kxfL_law_b18 q)) :=
  (simk_run hcs 18 [18]
    (simt_bif
      (simt_bind fun o45 =>
        (simt_bif
          (simt_bind fun o46 =>
            (simt_ite
              (simt_go hcs (.s _ (.s _ (.s _ (.s _ .nil)))) (fun _ => rfl))
              (simt_ret (some (some (aI 0), (ST0 q, o46.2))) (fun _ => rfl)))))))
  (fun _ => rfl))
theorem pfL_law_j1352 (q : Nat) (hcs : CSm (csF q)) (a3 : Int32) (m : MM) : SimK (fL_law_j1352 q a3 m) (fun n => brun false (0, 0) (csF q) (lkb tL_law) n 1352 [some (aR 33 0), some (aR 6 0), some (aR 7 0), some (aI a3)] [] (ST0 q, m)) (lpK (hfL_law_b18 q) (kxfL_law_b18 q)) :=
  (simk_run hcs 38 [18]
    (simt_bif
      (simt_bif
        (simt_bif
          (simt_bind fun o47 =>
            (simt_bif
              (simt_bif
                (simt_bif
                  (simt_bind fun o48 =>
                    (simt_ite
                      (simt_go hcs (.s _ (.s _ (.s _ (.s _ .nil)))) (fun _ => rfl))
                      (simt_ret (some (some (aI 0), (ST0 q, o48.2))) (fun _ => rfl)))))))))))
  (fun _ => rfl))
theorem pfL_law_j1319 (q : Nat) (hcs : CSm (csF q)) (a3 : Int32) (m : MM) : SimK (fL_law_j1319 q a3 m) (fun n => brun false (0, 0) (csF q) (lkb tL_law) n 1319 [some (aR 33 0), some (aR 6 0), some (aR 7 0), some (aI a3)] [] (ST0 q, m)) (lpK (hfL_law_b18 q) (kxfL_law_b18 q)) :=
  (simk_run hcs 28 [18]
    (simt_bif
      (simt_bif
        (simt_bind fun o49 =>
          (simt_bif
            (simt_bif
              (simt_bind fun o50 =>
                (simt_ite
                  (simt_go hcs (.s _ (.s _ (.s _ (.s _ .nil)))) (fun _ => rfl))
                  (simt_ret (some (some (aI 0), (ST0 q, o50.2))) (fun _ => rfl)))))))))
  (fun _ => rfl))
theorem pfL_law_j1286 (q : Nat) (hcs : CSm (csF q)) (a3 : Int32) (m : MM) : SimK (fL_law_j1286 q a3 m) (fun n => brun false (0, 0) (csF q) (lkb tL_law) n 1286 [some (aR 33 0), some (aR 6 0), some (aR 7 0), some (aI a3)] [] (ST0 q, m)) (lpK (hfL_law_b18 q) (kxfL_law_b18 q)) :=
  (simk_run hcs 28 [18]
    (simt_bif
      (simt_bif
        (simt_bind fun o51 =>
          (simt_bif
            (simt_bif
              (simt_bind fun o52 =>
                (simt_ite
                  (simt_go hcs (.s _ (.s _ (.s _ (.s _ .nil)))) (fun _ => rfl))
                  (simt_ret (some (some (aI 0), (ST0 q, o52.2))) (fun _ => rfl)))))))))
  (fun _ => rfl))
theorem pfL_law_j1243 (q : Nat) (hcs : CSm (csF q)) (a3 : Int32) (m : MM) : SimK (fL_law_j1243 q a3 m) (fun n => brun false (0, 0) (csF q) (lkb tL_law) n 1243 [some (aR 33 0), some (aR 6 0), some (aR 7 0), some (aI a3)] [] (ST0 q, m)) (lpK (hfL_law_b18 q) (kxfL_law_b18 q)) :=
  (simk_run hcs 38 [18]
    (simt_bif
      (simt_bif
        (simt_bif
          (simt_bind fun o53 =>
            (simt_bif
              (simt_bif
                (simt_bif
                  (simt_bind fun o54 =>
                    (simt_ite
                      (simt_go hcs (.s _ (.s _ (.s _ (.s _ .nil)))) (fun _ => rfl))
                      (simt_ret (some (some (aI 0), (ST0 q, o54.2))) (fun _ => rfl)))))))))))
  (fun _ => rfl))
theorem pfL_law_j1190 (q : Nat) (hcs : CSm (csF q)) (a3 : Int32) (m : MM) : SimK (fL_law_j1190 q a3 m) (fun n => brun false (0, 0) (csF q) (lkb tL_law) n 1190 [some (aR 33 0), some (aR 6 0), some (aR 7 0), some (aI a3)] [] (ST0 q, m)) (lpK (hfL_law_b18 q) (kxfL_law_b18 q)) :=
  (simk_run hcs 48 [18]
    (simt_bif
      (simt_bif
        (simt_bif
          (simt_bif
            (simt_bind fun o55 =>
              (simt_bif
                (simt_bif
                  (simt_bif
                    (simt_bif
                      (simt_bind fun o56 =>
                        (simt_ite
                          (simt_go hcs (.s _ (.s _ (.s _ (.s _ .nil)))) (fun _ => rfl))
                          (simt_ret (some (some (aI 0), (ST0 q, o56.2))) (fun _ => rfl)))))))))))))
  (fun _ => rfl))
theorem pfL_law_j1147 (q : Nat) (hcs : CSm (csF q)) (a3 : Int32) (m : MM) : SimK (fL_law_j1147 q a3 m) (fun n => brun false (0, 0) (csF q) (lkb tL_law) n 1147 [some (aR 33 0), some (aR 6 0), some (aR 7 0), some (aI a3)] [] (ST0 q, m)) (lpK (hfL_law_b18 q) (kxfL_law_b18 q)) :=
  (simk_run hcs 38 [18]
    (simt_bif
      (simt_bif
        (simt_bif
          (simt_bind fun o57 =>
            (simt_bif
              (simt_bif
                (simt_bif
                  (simt_bind fun o58 =>
                    (simt_ite
                      (simt_go hcs (.s _ (.s _ (.s _ (.s _ .nil)))) (fun _ => rfl))
                      (simt_ret (some (some (aI 0), (ST0 q, o58.2))) (fun _ => rfl)))))))))))
  (fun _ => rfl))
theorem pfL_law_j1094 (q : Nat) (hcs : CSm (csF q)) (a3 : Int32) (m : MM) : SimK (fL_law_j1094 q a3 m) (fun n => brun false (0, 0) (csF q) (lkb tL_law) n 1094 [some (aR 33 0), some (aR 6 0), some (aR 7 0), some (aI a3)] [] (ST0 q, m)) (lpK (hfL_law_b18 q) (kxfL_law_b18 q)) :=
  (simk_run hcs 48 [18]
    (simt_bif
      (simt_bif
        (simt_bif
          (simt_bif
            (simt_bind fun o59 =>
              (simt_bif
                (simt_bif
                  (simt_bif
                    (simt_bif
                      (simt_bind fun o60 =>
                        (simt_ite
                          (simt_go hcs (.s _ (.s _ (.s _ (.s _ .nil)))) (fun _ => rfl))
                          (simt_ret (some (some (aI 0), (ST0 q, o60.2))) (fun _ => rfl)))))))))))))
  (fun _ => rfl))
theorem pfL_law_j1061 (q : Nat) (hcs : CSm (csF q)) (a3 : Int32) (m : MM) : SimK (fL_law_j1061 q a3 m) (fun n => brun false (0, 0) (csF q) (lkb tL_law) n 1061 [some (aR 33 0), some (aR 6 0), some (aR 7 0), some (aI a3)] [] (ST0 q, m)) (lpK (hfL_law_b18 q) (kxfL_law_b18 q)) :=
  (simk_run hcs 28 [18]
    (simt_bif
      (simt_bif
        (simt_bind fun o61 =>
          (simt_bif
            (simt_bif
              (simt_bind fun o62 =>
                (simt_ite
                  (simt_go hcs (.s _ (.s _ (.s _ (.s _ .nil)))) (fun _ => rfl))
                  (simt_ret (some (some (aI 0), (ST0 q, o62.2))) (fun _ => rfl)))))))))
  (fun _ => rfl))
theorem pfL_law_j1038 (q : Nat) (hcs : CSm (csF q)) (a3 : Int32) (m : MM) : SimK (fL_law_j1038 q a3 m) (fun n => brun false (0, 0) (csF q) (lkb tL_law) n 1038 [some (aR 33 0), some (aR 6 0), some (aR 7 0), some (aI a3)] [] (ST0 q, m)) (lpK (hfL_law_b18 q) (kxfL_law_b18 q)) :=
  (simk_run hcs 18 [18]
    (simt_bif
      (simt_bind fun o63 =>
        (simt_bif
          (simt_bind fun o64 =>
            (simt_ite
              (simt_go hcs (.s _ (.s _ (.s _ (.s _ .nil)))) (fun _ => rfl))
              (simt_ret (some (some (aI 0), (ST0 q, o64.2))) (fun _ => rfl)))))))
  (fun _ => rfl))
theorem pfL_law_j1005 (q : Nat) (hcs : CSm (csF q)) (a3 : Int32) (m : MM) : SimK (fL_law_j1005 q a3 m) (fun n => brun false (0, 0) (csF q) (lkb tL_law) n 1005 [some (aR 33 0), some (aR 6 0), some (aR 7 0), some (aI a3)] [] (ST0 q, m)) (lpK (hfL_law_b18 q) (kxfL_law_b18 q)) :=
  (simk_run hcs 28 [18]
    (simt_bif
      (simt_bif
        (simt_bind fun o65 =>
          (simt_bif
            (simt_bif
              (simt_bind fun o66 =>
                (simt_ite
                  (simt_go hcs (.s _ (.s _ (.s _ (.s _ .nil)))) (fun _ => rfl))
                  (simt_ret (some (some (aI 0), (ST0 q, o66.2))) (fun _ => rfl)))))))))
  (fun _ => rfl))
theorem pfL_law_j982 (q : Nat) (hcs : CSm (csF q)) (a3 : Int32) (m : MM) : SimK (fL_law_j982 q a3 m) (fun n => brun false (0, 0) (csF q) (lkb tL_law) n 982 [some (aR 33 0), some (aR 6 0), some (aR 7 0), some (aI a3)] [] (ST0 q, m)) (lpK (hfL_law_b18 q) (kxfL_law_b18 q)) :=
  (simk_run hcs 18 [18]
    (simt_bif
      (simt_bind fun o67 =>
        (simt_bif
          (simt_bind fun o68 =>
            (simt_ite
              (simt_go hcs (.s _ (.s _ (.s _ (.s _ .nil)))) (fun _ => rfl))
              (simt_ret (some (some (aI 0), (ST0 q, o68.2))) (fun _ => rfl)))))))
  (fun _ => rfl))
theorem pfL_law_j959 (q : Nat) (hcs : CSm (csF q)) (a3 : Int32) (m : MM) : SimK (fL_law_j959 q a3 m) (fun n => brun false (0, 0) (csF q) (lkb tL_law) n 959 [some (aR 33 0), some (aR 6 0), some (aR 7 0), some (aI a3)] [] (ST0 q, m)) (lpK (hfL_law_b18 q) (kxfL_law_b18 q)) :=
  (simk_run hcs 18 [18]
    (simt_bif
      (simt_bind fun o69 =>
        (simt_bif
          (simt_bind fun o70 =>
            (simt_ite
              (simt_go hcs (.s _ (.s _ (.s _ (.s _ .nil)))) (fun _ => rfl))
              (simt_ret (some (some (aI 0), (ST0 q, o70.2))) (fun _ => rfl)))))))
  (fun _ => rfl))
theorem pfL_law_j926 (q : Nat) (hcs : CSm (csF q)) (a3 : Int32) (m : MM) : SimK (fL_law_j926 q a3 m) (fun n => brun false (0, 0) (csF q) (lkb tL_law) n 926 [some (aR 33 0), some (aR 6 0), some (aR 7 0), some (aI a3)] [] (ST0 q, m)) (lpK (hfL_law_b18 q) (kxfL_law_b18 q)) :=
  (simk_run hcs 28 [18]
    (simt_bif
      (simt_bif
        (simt_bind fun o71 =>
          (simt_bif
            (simt_bif
              (simt_bind fun o72 =>
                (simt_ite
                  (simt_go hcs (.s _ (.s _ (.s _ (.s _ .nil)))) (fun _ => rfl))
                  (simt_ret (some (some (aI 0), (ST0 q, o72.2))) (fun _ => rfl)))))))))
  (fun _ => rfl))
theorem pfL_law_j883 (q : Nat) (hcs : CSm (csF q)) (a3 : Int32) (m : MM) : SimK (fL_law_j883 q a3 m) (fun n => brun false (0, 0) (csF q) (lkb tL_law) n 883 [some (aR 33 0), some (aR 6 0), some (aR 7 0), some (aI a3)] [] (ST0 q, m)) (lpK (hfL_law_b18 q) (kxfL_law_b18 q)) :=
  (simk_run hcs 38 [18]
    (simt_bif
      (simt_bif
        (simt_bif
          (simt_bind fun o73 =>
            (simt_bif
              (simt_bif
                (simt_bif
                  (simt_bind fun o74 =>
                    (simt_ite
                      (simt_go hcs (.s _ (.s _ (.s _ (.s _ .nil)))) (fun _ => rfl))
                      (simt_ret (some (some (aI 0), (ST0 q, o74.2))) (fun _ => rfl)))))))))))
  (fun _ => rfl))
theorem pfL_law_j860 (q : Nat) (hcs : CSm (csF q)) (a3 : Int32) (m : MM) : SimK (fL_law_j860 q a3 m) (fun n => brun false (0, 0) (csF q) (lkb tL_law) n 860 [some (aR 33 0), some (aR 6 0), some (aR 7 0), some (aI a3)] [] (ST0 q, m)) (lpK (hfL_law_b18 q) (kxfL_law_b18 q)) :=
  (simk_run hcs 18 [18]
    (simt_bif
      (simt_bind fun o75 =>
        (simt_bif
          (simt_bind fun o76 =>
            (simt_ite
              (simt_go hcs (.s _ (.s _ (.s _ (.s _ .nil)))) (fun _ => rfl))
              (simt_ret (some (some (aI 0), (ST0 q, o76.2))) (fun _ => rfl)))))))
  (fun _ => rfl))
theorem pfL_law_j827 (q : Nat) (hcs : CSm (csF q)) (a3 : Int32) (m : MM) : SimK (fL_law_j827 q a3 m) (fun n => brun false (0, 0) (csF q) (lkb tL_law) n 827 [some (aR 33 0), some (aR 6 0), some (aR 7 0), some (aI a3)] [] (ST0 q, m)) (lpK (hfL_law_b18 q) (kxfL_law_b18 q)) :=
  (simk_run hcs 28 [18]
    (simt_bif
      (simt_bif
        (simt_bind fun o77 =>
          (simt_bif
            (simt_bif
              (simt_bind fun o78 =>
                (simt_ite
                  (simt_go hcs (.s _ (.s _ (.s _ (.s _ .nil)))) (fun _ => rfl))
                  (simt_ret (some (some (aI 0), (ST0 q, o78.2))) (fun _ => rfl)))))))))
  (fun _ => rfl))
theorem pfL_law_j794 (q : Nat) (hcs : CSm (csF q)) (a3 : Int32) (m : MM) : SimK (fL_law_j794 q a3 m) (fun n => brun false (0, 0) (csF q) (lkb tL_law) n 794 [some (aR 33 0), some (aR 6 0), some (aR 7 0), some (aI a3)] [] (ST0 q, m)) (lpK (hfL_law_b18 q) (kxfL_law_b18 q)) :=
  (simk_run hcs 28 [18]
    (simt_bif
      (simt_bif
        (simt_bind fun o79 =>
          (simt_bif
            (simt_bif
              (simt_bind fun o80 =>
                (simt_ite
                  (simt_go hcs (.s _ (.s _ (.s _ (.s _ .nil)))) (fun _ => rfl))
                  (simt_ret (some (some (aI 0), (ST0 q, o80.2))) (fun _ => rfl)))))))))
  (fun _ => rfl))
theorem pfL_law_j781 (q : Nat) (hcs : CSm (csF q)) (a3 : Int32) (m : MM) : SimK (fL_law_j781 q a3 m) (fun n => brun false (0, 0) (csF q) (lkb tL_law) n 781 [some (aR 33 0), some (aR 6 0), some (aR 7 0), some (aI a3)] [] (ST0 q, m)) (lpK (hfL_law_b18 q) (kxfL_law_b18 q)) :=
  (simk_run hcs 8 [18]
    (simt_bind fun o81 =>
      (simt_bind fun o82 =>
        (simt_ite
          (simt_go hcs (.s _ (.s _ (.s _ (.s _ .nil)))) (fun _ => rfl))
          (simt_ret (some (some (aI 0), (ST0 q, o82.2))) (fun _ => rfl)))))
  (fun _ => rfl))
theorem pfL_law_j768 (q : Nat) (hcs : CSm (csF q)) (a3 : Int32) (m : MM) : SimK (fL_law_j768 q a3 m) (fun n => brun false (0, 0) (csF q) (lkb tL_law) n 768 [some (aR 33 0), some (aR 6 0), some (aR 7 0), some (aI a3)] [] (ST0 q, m)) (lpK (hfL_law_b18 q) (kxfL_law_b18 q)) :=
  (simk_run hcs 8 [18]
    (simt_bind fun o83 =>
      (simt_bind fun o84 =>
        (simt_ite
          (simt_go hcs (.s _ (.s _ (.s _ (.s _ .nil)))) (fun _ => rfl))
          (simt_ret (some (some (aI 0), (ST0 q, o84.2))) (fun _ => rfl)))))
  (fun _ => rfl))
theorem pfL_law_j745 (q : Nat) (hcs : CSm (csF q)) (a3 : Int32) (m : MM) : SimK (fL_law_j745 q a3 m) (fun n => brun false (0, 0) (csF q) (lkb tL_law) n 745 [some (aR 33 0), some (aR 6 0), some (aR 7 0), some (aI a3)] [] (ST0 q, m)) (lpK (hfL_law_b18 q) (kxfL_law_b18 q)) :=
  (simk_run hcs 18 [18]
    (simt_bif
      (simt_bind fun o85 =>
        (simt_bif
          (simt_bind fun o86 =>
            (simt_ite
              (simt_go hcs (.s _ (.s _ (.s _ (.s _ .nil)))) (fun _ => rfl))
              (simt_ret (some (some (aI 0), (ST0 q, o86.2))) (fun _ => rfl)))))))
  (fun _ => rfl))
theorem pfL_law_j712 (q : Nat) (hcs : CSm (csF q)) (a3 : Int32) (m : MM) : SimK (fL_law_j712 q a3 m) (fun n => brun false (0, 0) (csF q) (lkb tL_law) n 712 [some (aR 33 0), some (aR 6 0), some (aR 7 0), some (aI a3)] [] (ST0 q, m)) (lpK (hfL_law_b18 q) (kxfL_law_b18 q)) :=
  (simk_run hcs 28 [18]
    (simt_bif
      (simt_bif
        (simt_bind fun o87 =>
          (simt_bif
            (simt_bif
              (simt_bind fun o88 =>
                (simt_ite
                  (simt_go hcs (.s _ (.s _ (.s _ (.s _ .nil)))) (fun _ => rfl))
                  (simt_ret (some (some (aI 0), (ST0 q, o88.2))) (fun _ => rfl)))))))))
  (fun _ => rfl))
theorem pfL_law_j679 (q : Nat) (hcs : CSm (csF q)) (a3 : Int32) (m : MM) : SimK (fL_law_j679 q a3 m) (fun n => brun false (0, 0) (csF q) (lkb tL_law) n 679 [some (aR 33 0), some (aR 6 0), some (aR 7 0), some (aI a3)] [] (ST0 q, m)) (lpK (hfL_law_b18 q) (kxfL_law_b18 q)) :=
  (simk_run hcs 28 [18]
    (simt_bif
      (simt_bif
        (simt_bind fun o89 =>
          (simt_bif
            (simt_bif
              (simt_bind fun o90 =>
                (simt_ite
                  (simt_go hcs (.s _ (.s _ (.s _ (.s _ .nil)))) (fun _ => rfl))
                  (simt_ret (some (some (aI 0), (ST0 q, o90.2))) (fun _ => rfl)))))))))
  (fun _ => rfl))
theorem pfL_law_j636 (q : Nat) (hcs : CSm (csF q)) (a3 : Int32) (m : MM) : SimK (fL_law_j636 q a3 m) (fun n => brun false (0, 0) (csF q) (lkb tL_law) n 636 [some (aR 33 0), some (aR 6 0), some (aR 7 0), some (aI a3)] [] (ST0 q, m)) (lpK (hfL_law_b18 q) (kxfL_law_b18 q)) :=
  (simk_run hcs 38 [18]
    (simt_bif
      (simt_bif
        (simt_bif
          (simt_bind fun o91 =>
            (simt_bif
              (simt_bif
                (simt_bif
                  (simt_bind fun o92 =>
                    (simt_ite
                      (simt_go hcs (.s _ (.s _ (.s _ (.s _ .nil)))) (fun _ => rfl))
                      (simt_ret (some (some (aI 0), (ST0 q, o92.2))) (fun _ => rfl)))))))))))
  (fun _ => rfl))
theorem pfL_law_j593 (q : Nat) (hcs : CSm (csF q)) (a3 : Int32) (m : MM) : SimK (fL_law_j593 q a3 m) (fun n => brun false (0, 0) (csF q) (lkb tL_law) n 593 [some (aR 33 0), some (aR 6 0), some (aR 7 0), some (aI a3)] [] (ST0 q, m)) (lpK (hfL_law_b18 q) (kxfL_law_b18 q)) :=
  (simk_run hcs 38 [18]
    (simt_bif
      (simt_bif
        (simt_bif
          (simt_bind fun o93 =>
            (simt_bif
              (simt_bif
                (simt_bif
                  (simt_bind fun o94 =>
                    (simt_ite
                      (simt_go hcs (.s _ (.s _ (.s _ (.s _ .nil)))) (fun _ => rfl))
                      (simt_ret (some (some (aI 0), (ST0 q, o94.2))) (fun _ => rfl)))))))))))
  (fun _ => rfl))
theorem pfL_law_j570 (q : Nat) (hcs : CSm (csF q)) (a3 : Int32) (m : MM) : SimK (fL_law_j570 q a3 m) (fun n => brun false (0, 0) (csF q) (lkb tL_law) n 570 [some (aR 33 0), some (aR 6 0), some (aR 7 0), some (aI a3)] [] (ST0 q, m)) (lpK (hfL_law_b18 q) (kxfL_law_b18 q)) :=
  (simk_run hcs 18 [18]
    (simt_bif
      (simt_bind fun o95 =>
        (simt_bif
          (simt_bind fun o96 =>
            (simt_ite
              (simt_go hcs (.s _ (.s _ (.s _ (.s _ .nil)))) (fun _ => rfl))
              (simt_ret (some (some (aI 0), (ST0 q, o96.2))) (fun _ => rfl)))))))
  (fun _ => rfl))
theorem pfL_law_j537 (q : Nat) (hcs : CSm (csF q)) (a3 : Int32) (m : MM) : SimK (fL_law_j537 q a3 m) (fun n => brun false (0, 0) (csF q) (lkb tL_law) n 537 [some (aR 33 0), some (aR 6 0), some (aR 7 0), some (aI a3)] [] (ST0 q, m)) (lpK (hfL_law_b18 q) (kxfL_law_b18 q)) :=
  (simk_run hcs 28 [18]
    (simt_bif
      (simt_bif
        (simt_bind fun o97 =>
          (simt_bif
            (simt_bif
              (simt_bind fun o98 =>
                (simt_ite
                  (simt_go hcs (.s _ (.s _ (.s _ (.s _ .nil)))) (fun _ => rfl))
                  (simt_ret (some (some (aI 0), (ST0 q, o98.2))) (fun _ => rfl)))))))))
  (fun _ => rfl))
theorem pfL_law_j504 (q : Nat) (hcs : CSm (csF q)) (a3 : Int32) (m : MM) : SimK (fL_law_j504 q a3 m) (fun n => brun false (0, 0) (csF q) (lkb tL_law) n 504 [some (aR 33 0), some (aR 6 0), some (aR 7 0), some (aI a3)] [] (ST0 q, m)) (lpK (hfL_law_b18 q) (kxfL_law_b18 q)) :=
  (simk_run hcs 28 [18]
    (simt_bif
      (simt_bif
        (simt_bind fun o99 =>
          (simt_bif
            (simt_bif
              (simt_bind fun o100 =>
                (simt_ite
                  (simt_go hcs (.s _ (.s _ (.s _ (.s _ .nil)))) (fun _ => rfl))
                  (simt_ret (some (some (aI 0), (ST0 q, o100.2))) (fun _ => rfl)))))))))
  (fun _ => rfl))
theorem pfL_law_j481 (q : Nat) (hcs : CSm (csF q)) (a3 : Int32) (m : MM) : SimK (fL_law_j481 q a3 m) (fun n => brun false (0, 0) (csF q) (lkb tL_law) n 481 [some (aR 33 0), some (aR 6 0), some (aR 7 0), some (aI a3)] [] (ST0 q, m)) (lpK (hfL_law_b18 q) (kxfL_law_b18 q)) :=
  (simk_run hcs 18 [18]
    (simt_bif
      (simt_bind fun o101 =>
        (simt_bif
          (simt_bind fun o102 =>
            (simt_ite
              (simt_go hcs (.s _ (.s _ (.s _ (.s _ .nil)))) (fun _ => rfl))
              (simt_ret (some (some (aI 0), (ST0 q, o102.2))) (fun _ => rfl)))))))
  (fun _ => rfl))
theorem pfL_law_j447 (q : Nat) (hcs : CSm (csF q)) (a3 : Int32) (m : MM) : SimK (fL_law_j447 q a3 m) (fun n => brun false (0, 0) (csF q) (lkb tL_law) n 447 [some (aR 33 0), some (aR 6 0), some (aR 7 0), some (aI a3)] [] (ST0 q, m)) (lpK (hfL_law_b18 q) (kxfL_law_b18 q)) :=
  (simk_run hcs 29 [18]
    (simt_bif
      (simt_bif
        (simt_bind fun o103 =>
          (simt_bif
            (simt_bif
              (simt_bind fun o104 =>
                (simt_ite
                  (simt_go hcs (.s _ (.s _ (.s _ (.s _ .nil)))) (fun _ => rfl))
                  (simt_ret (some (some (aI 0), (ST0 q, o104.2))) (fun _ => rfl)))))))))
  (fun _ => rfl))
theorem pfL_law_j384 (q : Nat) (hcs : CSm (csF q)) (a3 : Int32) (m : MM) : SimK (fL_law_j384 q a3 m) (fun n => brun false (0, 0) (csF q) (lkb tL_law) n 384 [some (aR 33 0), some (aR 6 0), some (aR 7 0), some (aI a3)] [] (ST0 q, m)) (lpK (hfL_law_b18 q) (kxfL_law_b18 q)) :=
  (simk_run hcs 58 [18]
    (simt_bif
      (simt_bif
        (simt_bif
          (simt_bif
            (simt_bif
              (simt_bind fun o105 =>
                (simt_bif
                  (simt_bif
                    (simt_bif
                      (simt_bif
                        (simt_bif
                          (simt_bind fun o106 =>
                            (simt_ite
                              (simt_go hcs (.s _ (.s _ (.s _ (.s _ .nil)))) (fun _ => rfl))
                              (simt_ret (some (some (aI 0), (ST0 q, o106.2))) (fun _ => rfl)))))))))))))))
  (fun _ => rfl))
theorem pfL_law_j311 (q : Nat) (hcs : CSm (csF q)) (a3 : Int32) (m : MM) : SimK (fL_law_j311 q a3 m) (fun n => brun false (0, 0) (csF q) (lkb tL_law) n 311 [some (aR 33 0), some (aR 6 0), some (aR 7 0), some (aI a3)] [] (ST0 q, m)) (lpK (hfL_law_b18 q) (kxfL_law_b18 q)) :=
  (simk_run hcs 62 [18]
    (simt_bif
      (simt_bif
        (simt_bif
          (simt_bif
            (simt_bind fun o107 =>
              (simt_bif
                (simt_bif
                  (simt_bif
                    (simt_bif
                      (simt_bind fun o108 =>
                        (simt_ite
                          (simt_go hcs (.s _ (.s _ (.s _ (.s _ .nil)))) (fun _ => rfl))
                          (simt_ret (some (some (aI 0), (ST0 q, o108.2))) (fun _ => rfl)))))))))))))
  (fun _ => rfl))
theorem pfL_law_j268 (q : Nat) (hcs : CSm (csF q)) (a3 : Int32) (m : MM) : SimK (fL_law_j268 q a3 m) (fun n => brun false (0, 0) (csF q) (lkb tL_law) n 268 [some (aR 33 0), some (aR 6 0), some (aR 7 0), some (aI a3)] [] (ST0 q, m)) (lpK (hfL_law_b18 q) (kxfL_law_b18 q)) :=
  (simk_run hcs 38 [18]
    (simt_bif
      (simt_bif
        (simt_bif
          (simt_bind fun o109 =>
            (simt_bif
              (simt_bif
                (simt_bif
                  (simt_bind fun o110 =>
                    (simt_ite
                      (simt_go hcs (.s _ (.s _ (.s _ (.s _ .nil)))) (fun _ => rfl))
                      (simt_ret (some (some (aI 0), (ST0 q, o110.2))) (fun _ => rfl)))))))))))
  (fun _ => rfl))
theorem pfL_law_b18 (q : Nat) (hcs : CSm (csF q)) (s : Int32) (m : MM) : SimK (fL_law_b18 q s m) (hfL_law_b18 q s m) (lpK (hfL_law_b18 q) (kxfL_law_b18 q)) :=
  (simk_run hcs 15 [18, 268, 311, 384, 447, 481, 504, 537, 570, 593, 636, 679, 712, 745, 768, 781, 794, 827, 860, 883, 926, 959, 982, 1005, 1038, 1061, 1094, 1147, 1190, 1243, 1286, 1319, 1352, 1395, 1418, 1451, 1474, 1507, 1530, 1563, 1586, 1609, 1642, 1665, 1688, 1731, 1764, 1777, 1800, 1843, 1896, 1919, 1942, 1965, 1978, 1991, 2020]
    (simt_ite
      (simt_go hcs (.n _ (.n _ (.n _ (.n _ .nil)))) (fun _ => rfl))
      (simt_bif
        (simt_ite
          (simt_join hcs (.s _ (.s _ (.s _ (.s _ .nil)))) (pfL_law_j268 q hcs s m))
          (simt_ite
            (simt_join hcs (.s _ (.s _ (.s _ (.s _ .nil)))) (pfL_law_j311 q hcs s m))
            (simt_ite
              (simt_join hcs (.s _ (.s _ (.s _ (.s _ .nil)))) (pfL_law_j384 q hcs s m))
              (simt_ite
                (simt_join hcs (.s _ (.s _ (.s _ (.s _ .nil)))) (pfL_law_j447 q hcs s m))
                (simt_ite
                  (simt_join hcs (.s _ (.s _ (.s _ (.s _ .nil)))) (pfL_law_j481 q hcs s m))
                  (simt_ite
                    (simt_join hcs (.s _ (.s _ (.s _ (.s _ .nil)))) (pfL_law_j504 q hcs s m))
                    (simt_ite
                      (simt_join hcs (.s _ (.s _ (.s _ (.s _ .nil)))) (pfL_law_j537 q hcs s m))
                      (simt_ite
                        (simt_join hcs (.s _ (.s _ (.s _ (.s _ .nil)))) (pfL_law_j570 q hcs s m))
                        (simt_ite
                          (simt_join hcs (.s _ (.s _ (.s _ (.s _ .nil)))) (pfL_law_j593 q hcs s m))
                          (simt_ite
                            (simt_join hcs (.s _ (.s _ (.s _ (.s _ .nil)))) (pfL_law_j636 q hcs s m))
                            (simt_ite
                              (simt_join hcs (.s _ (.s _ (.s _ (.s _ .nil)))) (pfL_law_j679 q hcs s m))
                              (simt_ite
                                (simt_join hcs (.s _ (.s _ (.s _ (.s _ .nil)))) (pfL_law_j712 q hcs s m))
                                (simt_ite
                                  (simt_join hcs (.s _ (.s _ (.s _ (.s _ .nil)))) (pfL_law_j745 q hcs s m))
                                  (simt_ite
                                    (simt_join hcs (.s _ (.s _ (.s _ (.s _ .nil)))) (pfL_law_j768 q hcs s m))
                                    (simt_ite
                                      (simt_join hcs (.s _ (.s _ (.s _ (.s _ .nil)))) (pfL_law_j781 q hcs s m))
                                      (simt_ite
                                        (simt_join hcs (.s _ (.s _ (.s _ (.s _ .nil)))) (pfL_law_j794 q hcs s m))
                                        (simt_ite
                                          (simt_join hcs (.s _ (.s _ (.s _ (.s _ .nil)))) (pfL_law_j827 q hcs s m))
                                          (simt_ite
                                            (simt_join hcs (.s _ (.s _ (.s _ (.s _ .nil)))) (pfL_law_j860 q hcs s m))
                                            (simt_ite
                                              (simt_join hcs (.s _ (.s _ (.s _ (.s _ .nil)))) (pfL_law_j883 q hcs s m))
                                              (simt_ite
                                                (simt_join hcs (.s _ (.s _ (.s _ (.s _ .nil)))) (pfL_law_j926 q hcs s m))
                                                (simt_ite
                                                  (simt_join hcs (.s _ (.s _ (.s _ (.s _ .nil)))) (pfL_law_j959 q hcs s m))
                                                  (simt_ite
                                                    (simt_join hcs (.s _ (.s _ (.s _ (.s _ .nil)))) (pfL_law_j982 q hcs s m))
                                                    (simt_ite
                                                      (simt_join hcs (.s _ (.s _ (.s _ (.s _ .nil)))) (pfL_law_j1005 q hcs s m))
                                                      (simt_ite
                                                        (simt_join hcs (.s _ (.s _ (.s _ (.s _ .nil)))) (pfL_law_j1038 q hcs s m))
                                                        (simt_ite
                                                          (simt_join hcs (.s _ (.s _ (.s _ (.s _ .nil)))) (pfL_law_j1061 q hcs s m))
                                                          (simt_ite
                                                            (simt_join hcs (.s _ (.s _ (.s _ (.s _ .nil)))) (pfL_law_j1094 q hcs s m))
                                                            (simt_ite
                                                              (simt_join hcs (.s _ (.s _ (.s _ (.s _ .nil)))) (pfL_law_j1147 q hcs s m))
                                                              (simt_ite
                                                                (simt_join hcs (.s _ (.s _ (.s _ (.s _ .nil)))) (pfL_law_j1190 q hcs s m))
                                                                (simt_ite
                                                                  (simt_join hcs (.s _ (.s _ (.s _ (.s _ .nil)))) (pfL_law_j1243 q hcs s m))
                                                                  (simt_ite
                                                                    (simt_join hcs (.s _ (.s _ (.s _ (.s _ .nil)))) (pfL_law_j1286 q hcs s m))
                                                                    (simt_ite
                                                                      (simt_join hcs (.s _ (.s _ (.s _ (.s _ .nil)))) (pfL_law_j1319 q hcs s m))
                                                                      (simt_ite
                                                                        (simt_join hcs (.s _ (.s _ (.s _ (.s _ .nil)))) (pfL_law_j1352 q hcs s m))
                                                                        (simt_ite
                                                                          (simt_join hcs (.s _ (.s _ (.s _ (.s _ .nil)))) (pfL_law_j1395 q hcs s m))
                                                                          (simt_ite
                                                                            (simt_join hcs (.s _ (.s _ (.s _ (.s _ .nil)))) (pfL_law_j1418 q hcs s m))
                                                                            (simt_ite
                                                                              (simt_join hcs (.s _ (.s _ (.s _ (.s _ .nil)))) (pfL_law_j1451 q hcs s m))
                                                                              (simt_ite
                                                                                (simt_join hcs (.s _ (.s _ (.s _ (.s _ .nil)))) (pfL_law_j1474 q hcs s m))
                                                                                (simt_ite
                                                                                  (simt_join hcs (.s _ (.s _ (.s _ (.s _ .nil)))) (pfL_law_j1507 q hcs s m))
                                                                                  (simt_ite
                                                                                    (simt_join hcs (.s _ (.s _ (.s _ (.s _ .nil)))) (pfL_law_j1530 q hcs s m))
                                                                                    (simt_ite
                                                                                      (simt_join hcs (.s _ (.s _ (.s _ (.s _ .nil)))) (pfL_law_j1563 q hcs s m))
                                                                                      (simt_ite
                                                                                        (simt_join hcs (.s _ (.s _ (.s _ (.s _ .nil)))) (pfL_law_j1586 q hcs s m))
                                                                                        (simt_ite
                                                                                          (simt_join hcs (.s _ (.s _ (.s _ (.s _ .nil)))) (pfL_law_j1609 q hcs s m))
                                                                                          (simt_ite
                                                                                            (simt_join hcs (.s _ (.s _ (.s _ (.s _ .nil)))) (pfL_law_j1642 q hcs s m))
                                                                                            (simt_ite
                                                                                              (simt_join hcs (.s _ (.s _ (.s _ (.s _ .nil)))) (pfL_law_j1665 q hcs s m))
                                                                                              (simt_ite
                                                                                                (simt_join hcs (.s _ (.s _ (.s _ (.s _ .nil)))) (pfL_law_j1688 q hcs s m))
                                                                                                (simt_ite
                                                                                                  (simt_join hcs (.s _ (.s _ (.s _ (.s _ .nil)))) (pfL_law_j1731 q hcs s m))
                                                                                                  (simt_ite
                                                                                                    (simt_join hcs (.s _ (.s _ (.s _ (.s _ .nil)))) (pfL_law_j1764 q hcs s m))
                                                                                                    (simt_ite
                                                                                                      (simt_join hcs (.s _ (.s _ (.s _ (.s _ .nil)))) (pfL_law_j1777 q hcs s m))
                                                                                                      (simt_ite
                                                                                                        (simt_join hcs (.s _ (.s _ (.s _ (.s _ .nil)))) (pfL_law_j1800 q hcs s m))
                                                                                                        (simt_ite
                                                                                                          (simt_join hcs (.s _ (.s _ (.s _ (.s _ .nil)))) (pfL_law_j1843 q hcs s m))
                                                                                                          (simt_ite
                                                                                                            (simt_join hcs (.s _ (.s _ (.s _ (.s _ .nil)))) (pfL_law_j1896 q hcs s m))
                                                                                                            (simt_ite
                                                                                                              (simt_join hcs (.s _ (.s _ (.s _ (.s _ .nil)))) (pfL_law_j1919 q hcs s m))
                                                                                                              (simt_ite
                                                                                                                (simt_join hcs (.s _ (.s _ (.s _ (.s _ .nil)))) (pfL_law_j1942 q hcs s m))
                                                                                                                (simt_ite
                                                                                                                  (simt_join hcs (.s _ (.s _ (.s _ (.s _ .nil)))) (pfL_law_j1965 q hcs s m))
                                                                                                                  (simt_ite
                                                                                                                    (simt_join hcs (.s _ (.s _ (.s _ (.s _ .nil)))) (pfL_law_j1978 q hcs s m))
                                                                                                                    (simt_ite
                                                                                                                      (simt_join hcs (.s _ (.s _ (.s _ (.s _ .nil)))) (pfL_law_j1991 q hcs s m))
                                                                                                                      (simt_go hcs (.s _ (.s _ (.s _ (.s _ .nil)))) (fun _ => rfl)))))))))))))))))))))))))))))))))))))))))))))))))))))))))))
  (fun _ => rfl))
theorem pfL_law_b18_l (q : Nat) (hcs : CSm (csF q)) (s : Int32) (m : MM) : SimK (loopF 1000 (fL_law_b18 q) s m) (hfL_law_b18 q s m) (kxfL_law_b18 q) :=
  simk_loopF (fun s m => pfL_law_b18 q hcs s m) 1000 s m
theorem pfL_law (q : Nat) (hcs : CSm (csF q)) (a3 : Int32) (m : MM) : SimK (fL_law q a3 m) (fun n => brun false (0, 0) (csF q) (lkb tL_law) n 18 [some (aR 33 0), some (aR 6 0), some (aR 7 0), some (aI a3)] [] (ST0 q, m)) (kt_L_law q) :=
  (simk_here
    (simt_loop hcs (.s _ (.s _ (.s _ (.s _ .nil)))) (pfL_law_b18_l q hcs  a3 m) (fun o111 => by
      obtain ⟨o111x, o111m⟩ := o111
      rcases o111x with x112 | rv
      · exact
        (simk_run hcs 3 []
          (simt_ret (some (some (aI 1), (ST0 q, o111m))) (fun _ => rfl))
        (fun _ => rfl))
      · exact
        simk_leaf)))
