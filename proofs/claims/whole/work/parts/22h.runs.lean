/-! THE FUNCTIONS ARE THE RUNS, 7 -/
set_option maxRecDepth 20000
set_option maxHeartbeats 4000000
noncomputable def kt_X7_mended (q : Nat) : Int32 × MM → Nat → Option Out := fun x _ => some (some (aI x.1), (ST0 q, x.2))
noncomputable def hfX7_mended_b55 (q : Nat) (a0 : Nat) (a1 : Int32) (a2 : Int32) (a5 : Int32) (a6 : Int32) (s : Int32 × Int32 × Int32) (m : MM) (n : Nat) : Option Out := brun false (0, 0) (csF q) (lkb tX7_mended) n 55 [some (aR 7 a0), some (aI a1), some (aI a2), some (aI s.1), some (aI s.2.1), some (aI a5), some (aI a6), some (aI s.2.2), none] [] (ST0 q, m)
noncomputable def kxfX7_mended_b55 (q : Nat) (a0 : Nat) (a1 : Int32) (a2 : Int32) (a5 : Int32) (a6 : Int32) (y : (Int32 × Int32) × MM) (n : Nat) : Option Out := brun false (0, 0) (csF q) (lkb tX7_mended) n 129 [some (aR 7 a0), some (aI a1), some (aI a2), some (aI y.1.1), some (aI y.1.2), some (aI a5), some (aI a6), none, none] [] (ST0 q, y.2)
theorem pfX7_mended_j92 (q : Nat) (hcs : CSm (csF q)) (a0 : Nat) (a1 : Int32) (a2 : Int32) (a3 : Int32) (a4 : Int32) (a5 : Int32) (a6 : Int32) (a7 : Int32) (z0 : Int32) (m : MM) : SimK (fX7_mended_j92 a0 a1 a2 a3 a4 a5 a6 a7 z0 m) (fun n => brun false (0, 0) (csF q) (lkb tX7_mended) n 92 [some (aR 7 a0), some (aI a1), some (aI a2), some (aI a3), some (aI a4), some (aI a5), some (aI a6), some (aI a7), none] [aI z0] (ST0 q, m)) (lpK (hfX7_mended_b55 q a0 a1 a2 a5 a6) (kxfX7_mended_b55 q a0 a1 a2 a5 a6)) :=
  (simk_run hcs 18 [55]
    (simt_ite
      (simt_go hcs (.s _ (.s _ (.s _ (.s _ (.s _ (.s _ (.s _ (.s _ (.n _ .nil))))))))) (fun _ => rfl))
      (simt_ite
        (simt_go hcs (.s _ (.s _ (.s _ (.s _ (.s _ (.s _ (.s _ (.s _ (.n _ .nil))))))))) (fun _ => rfl))
        (simt_go hcs (.s _ (.s _ (.s _ (.s _ (.s _ (.s _ (.s _ (.s _ (.n _ .nil))))))))) (fun _ => rfl))))
  (fun _ => rfl))
theorem pfX7_mended_b55 (q : Nat) (hcs : CSm (csF q)) (a0 : Nat) (a1 : Int32) (a2 : Int32) (a5 : Int32) (a6 : Int32) (s : Int32 × Int32 × Int32) (m : MM) : SimK (fX7_mended_b55 a0 a1 a2 a5 a6 s m) (hfX7_mended_b55 q a0 a1 a2 a5 a6 s m) (lpK (hfX7_mended_b55 q a0 a1 a2 a5 a6) (kxfX7_mended_b55 q a0 a1 a2 a5 a6)) :=
  (simk_run hcs 18 [92, 129]
    (simt_ite
      (simt_go hcs (.s _ (.s _ (.s _ (.s _ (.s _ (.s _ (.s _ (.n _ (.n _ .nil))))))))) (fun _ => rfl))
      (simt_bif
        (simt_ite
          (simt_bind fun o4 =>
            (simt_join hcs (.s _ (.s _ (.s _ (.s _ (.s _ (.s _ (.s _ (.s _ (.n _ .nil))))))))) (pfX7_mended_j92 q hcs a0 a1 a2 s.1 s.2.1 a5 a6 s.2.2 o4.1 o4.2)))
          (simt_join hcs (.s _ (.s _ (.s _ (.s _ (.s _ (.s _ (.s _ (.s _ (.n _ .nil))))))))) (pfX7_mended_j92 q hcs a0 a1 a2 s.1 s.2.1 a5 a6 s.2.2 (-1) ((upI m.1 50 0 a5.toNatClampNeg s.2.2), m.2))))))
  (fun _ => rfl))
theorem pfX7_mended_b55_l (q : Nat) (hcs : CSm (csF q)) (a0 : Nat) (a1 : Int32) (a2 : Int32) (a5 : Int32) (a6 : Int32) (s : Int32 × Int32 × Int32) (m : MM) : SimK (loopF 1000 (fX7_mended_b55 a0 a1 a2 a5 a6) s m) (hfX7_mended_b55 q a0 a1 a2 a5 a6 s m) (kxfX7_mended_b55 q a0 a1 a2 a5 a6) :=
  simk_loopF (fun s m => pfX7_mended_b55 q hcs a0 a1 a2 a5 a6 s m) 1000 s m
noncomputable def hfX7_mended_b34 (q : Nat) (a0 : Nat) (a1 : Int32) (a2 : Int32) (s : Int32 × Int32 × Int32) (m : MM) (n : Nat) : Option Out := brun false (0, 0) (csF q) (lkb tX7_mended) n 34 [some (aR 7 a0), some (aI a1), some (aI a2), some (aI s.1), some (aI s.2.1), some (aI s.2.2), none, none, none] [] (ST0 q, m)
noncomputable def kxfX7_mended_b34 (q : Nat) (a0 : Nat) (a1 : Int32) (a2 : Int32) (y : (Int32 × Int32) × MM) (n : Nat) : Option Out := brun false (0, 0) (csF q) (lkb tX7_mended) n 144 [none, none, some (aI a2), some (aI y.1.1), some (aI y.1.2), none, none, none, none] [] (ST0 q, y.2)
theorem pfX7_mended_b34 (q : Nat) (hcs : CSm (csF q)) (a0 : Nat) (a1 : Int32) (a2 : Int32) (s : Int32 × Int32 × Int32) (m : MM) : SimK (fX7_mended_b34 a0 a1 a2 s m) (hfX7_mended_b34 q a0 a1 a2 s m) (lpK (hfX7_mended_b34 q a0 a1 a2) (kxfX7_mended_b34 q a0 a1 a2)) :=
  (simk_run hcs 12 [55, 144]
    (simt_ite
      (simt_go hcs (.n _ (.n _ (.s _ (.s _ (.s _ (.n _ (.n _ (.n _ (.n _ .nil))))))))) (fun _ => rfl))
      (simt_bif
        (simt_loop hcs (.s _ (.s _ (.s _ (.s _ (.s _ (.s _ (.s _ (.s _ (.n _ .nil))))))))) (pfX7_mended_b55_l q hcs a0 a1 a2 s.2.2 (m.1 50 0 s.2.2.toNatClampNeg) (s.1, s.2.1, 0) m) (fun o5 => 
          (simk_run hcs 8 [34]
            (simt_bif
              (simt_go hcs (.s _ (.s _ (.s _ (.s _ (.s _ (.s _ (.n _ (.n _ (.n _ .nil))))))))) (fun _ => rfl)))
          (fun _ => rfl))))))
  (fun _ => rfl))
theorem pfX7_mended_b34_l (q : Nat) (hcs : CSm (csF q)) (a0 : Nat) (a1 : Int32) (a2 : Int32) (s : Int32 × Int32 × Int32) (m : MM) : SimK (loopF 1000 (fX7_mended_b34 a0 a1 a2) s m) (hfX7_mended_b34 q a0 a1 a2 s m) (kxfX7_mended_b34 q a0 a1 a2) :=
  simk_loopF (fun s m => pfX7_mended_b34 q hcs a0 a1 a2 s m) 1000 s m
theorem pfX7_mended (q : Nat) (hcs : CSm (csF q)) (a0 : Nat) (a1 : Int32) (a2 : Int32) (m : MM) : SimK (fX7_mended_b a0 a1 a2 m) (fun n => brun false (0, 0) (csF q) (lkb tX7_mended) n 0 (entL 9 [aR 7 a0, aI a1, aI a2]) [] (ST0 q, m)) (kt_X7_mended q) :=
  (simk_run hcs 16 [34]
    (simt_bind fun o1 =>
      (simt_ite
        (simt_bind fun o2 =>
          (simt_ret (some (some (aI o2.1), (ST0 q, o2.2))) (fun _ => rfl)))
        (simt_bind fun o3 =>
          (simt_ite
            (simt_loop hcs (.s _ (.s _ (.s _ (.s _ (.s _ (.s _ (.n _ (.n _ (.n _ .nil))))))))) (pfX7_mended_b34_l q hcs a0 a1 a2 ((-1), 61, 0) o3.2) (fun o6 => 
              (simk_run hcs 9 []
                (simt_ite
                  (simt_ret (some (some (aI o6.1.1), (ST0 q, o6.2))) (fun _ => rfl))
                  (simt_ite
                    (simt_ret (some (some (aI o6.1.2), (ST0 q, o6.2))) (fun _ => rfl))
                    (simt_ret (some (some (aI o6.1.1), (ST0 q, o6.2))) (fun _ => rfl))))
              (fun _ => rfl))))
            (simt_bind fun o7 =>
              (simt_ret (some (some (aI o7.1), (ST0 q, o7.2))) (fun _ => rfl)))))))
  (fun _ => rfl))
noncomputable def kt_X7_odds (q : Nat) : Int32 × MM → Nat → Option Out := fun x _ => some (some (aI x.1), (ST0 q, x.2))
noncomputable def hfX7_odds_b40 (q : Nat) (a0 : Nat) (a1 : Int32) (a2 : Int32) (a3 : Int32) (s : Int32 × Int32) (m : MM) (n : Nat) : Option Out := brun false (0, 0) (csF q) (lkb tX7_odds) n 40 [some (aR 7 a0), some (aI a1), some (aI a2), some (aI a3), some (aI s.1), some (aI s.2), none, none, none] [] (ST0 q, m)
noncomputable def kxfX7_odds_b40 (q : Nat) (a0 : Nat) (a1 : Int32) (a2 : Int32) (a3 : Int32) (y : (Int32) × MM) (n : Nat) : Option Out := brun false (0, 0) (csF q) (lkb tX7_odds) n 58 [some (aR 7 a0), some (aI a1), some (aI a2), some (aI a3), some (aI y.1), none, none, none, none] [] (ST0 q, y.2)
theorem pfX7_odds_b40 (q : Nat) (hcs : CSm (csF q)) (a0 : Nat) (a1 : Int32) (a2 : Int32) (a3 : Int32) (s : Int32 × Int32) (m : MM) : SimK (fX7_odds_b40 a0 a1 a2 a3 s m) (hfX7_odds_b40 q a0 a1 a2 a3 s m) (lpK (hfX7_odds_b40 q a0 a1 a2 a3) (kxfX7_odds_b40 q a0 a1 a2 a3)) :=
  (simk_run hcs 10 [40, 58]
    (simt_ite
      (simt_go hcs (.s _ (.s _ (.s _ (.s _ (.s _ (.n _ (.n _ (.n _ (.n _ .nil))))))))) (fun _ => rfl))
      (simt_go hcs (.s _ (.s _ (.s _ (.s _ (.s _ (.s _ (.n _ (.n _ (.n _ .nil))))))))) (fun _ => rfl)))
  (fun _ => rfl))
theorem pfX7_odds_b40_l (q : Nat) (hcs : CSm (csF q)) (a0 : Nat) (a1 : Int32) (a2 : Int32) (a3 : Int32) (s : Int32 × Int32) (m : MM) : SimK (loopF 1000 (fX7_odds_b40 a0 a1 a2 a3) s m) (hfX7_odds_b40 q a0 a1 a2 a3 s m) (kxfX7_odds_b40 q a0 a1 a2 a3) :=
  simk_loopF (fun s m => pfX7_odds_b40 q hcs a0 a1 a2 a3 s m) 1000 s m
noncomputable def hfX7_odds_b86 (q : Nat) (a0 : Nat) (a1 : Int32) (a2 : Int32) (a3 : Int32) (a4 : Int32) (a5 : Int32) (a6 : Int32) (s : Int32 × Int32) (m : MM) (n : Nat) : Option Out := brun false (0, 0) (csF q) (lkb tX7_odds) n 86 [some (aR 7 a0), some (aI a1), some (aI a2), some (aI a3), some (aI a4), some (aI a5), some (aI a6), some (aI s.1), some (aI s.2)] [] (ST0 q, m)
noncomputable def kxfX7_odds_b86 (q : Nat) (a0 : Nat) (a1 : Int32) (a2 : Int32) (a3 : Int32) (a4 : Int32) (a5 : Int32) (a6 : Int32) (y : (Unit) × MM) (n : Nat) : Option Out := brun false (0, 0) (csF q) (lkb tX7_odds) n 123 [some (aR 7 a0), some (aI a1), some (aI a2), some (aI a3), some (aI a4), some (aI a5), some (aI a6), none, none] [] (ST0 q, y.2)
theorem pfX7_odds_b86 (q : Nat) (hcs : CSm (csF q)) (a0 : Nat) (a1 : Int32) (a2 : Int32) (a3 : Int32) (a4 : Int32) (a5 : Int32) (a6 : Int32) (s : Int32 × Int32) (m : MM) : SimK (fX7_odds_b86 a0 a1 a2 a3 a4 a5 a6 s m) (hfX7_odds_b86 q a0 a1 a2 a3 a4 a5 a6 s m) (lpK (hfX7_odds_b86 q a0 a1 a2 a3 a4 a5 a6) (kxfX7_odds_b86 q a0 a1 a2 a3 a4 a5 a6)) :=
  (simk_run hcs 22 [86, 123]
    (simt_ite
      (simt_go hcs (.s _ (.s _ (.s _ (.s _ (.s _ (.s _ (.s _ (.n _ (.n _ .nil))))))))) (fun _ => rfl))
      (simt_bif
        (simt_bind fun o8 =>
          (simt_go hcs (.s _ (.s _ (.s _ (.s _ (.s _ (.s _ (.s _ (.s _ (.s _ .nil))))))))) (fun _ => rfl)))))
  (fun _ => rfl))
theorem pfX7_odds_b86_l (q : Nat) (hcs : CSm (csF q)) (a0 : Nat) (a1 : Int32) (a2 : Int32) (a3 : Int32) (a4 : Int32) (a5 : Int32) (a6 : Int32) (s : Int32 × Int32) (m : MM) : SimK (loopF 1000 (fX7_odds_b86 a0 a1 a2 a3 a4 a5 a6) s m) (hfX7_odds_b86 q a0 a1 a2 a3 a4 a5 a6 s m) (kxfX7_odds_b86 q a0 a1 a2 a3 a4 a5 a6) :=
  simk_loopF (fun s m => pfX7_odds_b86 q hcs a0 a1 a2 a3 a4 a5 a6 s m) 1000 s m
noncomputable def hfX7_odds_b64 (q : Nat) (a0 : Nat) (a1 : Int32) (a2 : Int32) (a3 : Int32) (a4 : Int32) (s : Int32 × Int32) (m : MM) (n : Nat) : Option Out := brun false (0, 0) (csF q) (lkb tX7_odds) n 64 [some (aR 7 a0), some (aI a1), some (aI a2), some (aI a3), some (aI a4), some (aI s.1), some (aI s.2), none, none] [] (ST0 q, m)
noncomputable def kxfX7_odds_b64 (q : Nat) (a0 : Nat) (a1 : Int32) (a2 : Int32) (a3 : Int32) (a4 : Int32) (y : (Int32) × MM) (n : Nat) : Option Out := brun false (0, 0) (csF q) (lkb tX7_odds) n 152 [none, none, none, none, some (aI a4), some (aI y.1), none, none, none] [] (ST0 q, y.2)
theorem pfX7_odds_b64 (q : Nat) (hcs : CSm (csF q)) (a0 : Nat) (a1 : Int32) (a2 : Int32) (a3 : Int32) (a4 : Int32) (s : Int32 × Int32) (m : MM) : SimK (fX7_odds_b64 a0 a1 a2 a3 a4 s m) (hfX7_odds_b64 q a0 a1 a2 a3 a4 s m) (lpK (hfX7_odds_b64 q a0 a1 a2 a3 a4) (kxfX7_odds_b64 q a0 a1 a2 a3 a4)) :=
  (simk_run hcs 12 [86, 152]
    (simt_ite
      (simt_go hcs (.n _ (.n _ (.n _ (.n _ (.s _ (.s _ (.n _ (.n _ (.n _ .nil))))))))) (fun _ => rfl))
      (simt_bind fun o7 =>
        (simt_loop hcs (.s _ (.s _ (.s _ (.s _ (.s _ (.s _ (.s _ (.s _ (.s _ .nil))))))))) (pfX7_odds_b86_l q hcs a0 a1 a2 a3 a4 s.1 s.2 (s.2, 0) o7.2) (fun o9 => 
          (simk_run hcs 16 [64]
            (simt_bif
              (simt_ite
                (simt_bind fun o10 =>
                  (simt_go hcs (.s _ (.s _ (.s _ (.s _ (.s _ (.s _ (.s _ (.n _ (.n _ .nil))))))))) (fun _ => rfl)))
                (simt_bind fun o11 =>
                  (simt_go hcs (.s _ (.s _ (.s _ (.s _ (.s _ (.s _ (.s _ (.n _ (.n _ .nil))))))))) (fun _ => rfl)))))
          (fun _ => rfl))))))
  (fun _ => rfl))
theorem pfX7_odds_b64_l (q : Nat) (hcs : CSm (csF q)) (a0 : Nat) (a1 : Int32) (a2 : Int32) (a3 : Int32) (a4 : Int32) (s : Int32 × Int32) (m : MM) : SimK (loopF 1000 (fX7_odds_b64 a0 a1 a2 a3 a4) s m) (hfX7_odds_b64 q a0 a1 a2 a3 a4 s m) (kxfX7_odds_b64 q a0 a1 a2 a3 a4) :=
  simk_loopF (fun s m => pfX7_odds_b64 q hcs a0 a1 a2 a3 a4 s m) 1000 s m
theorem pfX7_odds (q : Nat) (hcs : CSm (csF q)) (a0 : Nat) (a1 : Int32) (a2 : Int32) (a3 : Int32) (m : MM) : SimK (fX7_odds_b a0 a1 a2 a3 m) (fun n => brun false (0, 0) (csF q) (lkb tX7_odds) n 0 (entL 9 [aR 7 a0, aI a1, aI a2, aI a3]) [] (ST0 q, m)) (kt_X7_odds q) :=
  (simk_run hcs 19 [40]
    (simt_bind fun o1 =>
      (simt_ite
        (simt_bind fun o2 =>
          (simt_ret (some (some (aI o2.1), (ST0 q, o2.2))) (fun _ => rfl)))
        (simt_bind fun o3 =>
          (simt_ite
            (simt_bind fun o4 =>
              (simt_ret (some (some (aI o4.1), (ST0 q, o4.2))) (fun _ => rfl)))
            (simt_bind fun o5 =>
              (simt_ite
                (simt_loop hcs (.s _ (.s _ (.s _ (.s _ (.s _ (.s _ (.n _ (.n _ (.n _ .nil))))))))) (pfX7_odds_b40_l q hcs a0 a1 a2 a3 (1, 0) o5.2) (fun o6 => 
                  (simk_run hcs 5 [64]
                    (simt_loop hcs (.s _ (.s _ (.s _ (.s _ (.s _ (.s _ (.s _ (.n _ (.n _ .nil))))))))) (pfX7_odds_b64_l q hcs a0 a1 a2 a3 o6.1 (0, 0) o6.2) (fun o12 => 
                      (simk_run hcs 7 []
                        (simt_ite
                          simt_none
                          (simt_ret (some (some (aI ((1000000 * o12.1) / o6.1)), (ST0 q, o12.2))) (fun _ => rfl)))
                      (fun _ => rfl))))
                  (fun _ => rfl))))
                (simt_bind fun o13 =>
                  (simt_ret (some (some (aI o13.1), (ST0 q, o13.2))) (fun _ => rfl)))))))))
  (fun _ => rfl))
noncomputable def kt_X7_windFor (q : Nat) : Int32 × MM → Nat → Option Out := fun x _ => some (some (aI x.1), (ST0 q, x.2))
noncomputable def hfX7_windFor_b32 (q : Nat) (a0 : Nat) (a1 : Int32) (a2 : Int32) (s : Int32 × Int32 × Int32) (m : MM) (n : Nat) : Option Out := brun false (0, 0) (csF q) (lkb tX7_windFor) n 32 [some (aR 7 a0), some (aI a1), some (aI a2), some (aI s.1), some (aI s.2.1), some (aI s.2.2), none] [] (ST0 q, m)
noncomputable def kxfX7_windFor_b32 (q : Nat) (a0 : Nat) (a1 : Int32) (a2 : Int32) (y : (Int32) × MM) (n : Nat) : Option Out := brun false (0, 0) (csF q) (lkb tX7_windFor) n 87 [some (aR 7 a0), none, some (aI a2), some (aI y.1), none, none, none] [] (ST0 q, y.2)
theorem pfX7_windFor_b32 (q : Nat) (hcs : CSm (csF q)) (a0 : Nat) (a1 : Int32) (a2 : Int32) (s : Int32 × Int32 × Int32) (m : MM) : SimK (fX7_windFor_b32 a0 a1 a2 s m) (hfX7_windFor_b32 q a0 a1 a2 s m) (lpK (hfX7_windFor_b32 q a0 a1 a2) (kxfX7_windFor_b32 q a0 a1 a2)) :=
  (simk_run hcs 28 [32, 87]
    (simt_ite
      (simt_go hcs (.s _ (.n _ (.s _ (.s _ (.n _ (.n _ (.n _ .nil))))))) (fun _ => rfl))
      (simt_bif
        (simt_bind fun o2 =>
          (simt_ite
            (simt_go hcs (.s _ (.s _ (.s _ (.s _ (.s _ (.s _ (.n _ .nil))))))) (fun _ => rfl))
            (simt_ite
              (simt_go hcs (.s _ (.s _ (.s _ (.s _ (.s _ (.s _ (.n _ .nil))))))) (fun _ => rfl))
              (simt_go hcs (.s _ (.s _ (.s _ (.s _ (.s _ (.s _ (.n _ .nil))))))) (fun _ => rfl)))))))
  (fun _ => rfl))
theorem pfX7_windFor_b32_l (q : Nat) (hcs : CSm (csF q)) (a0 : Nat) (a1 : Int32) (a2 : Int32) (s : Int32 × Int32 × Int32) (m : MM) : SimK (loopF 1000 (fX7_windFor_b32 a0 a1 a2) s m) (hfX7_windFor_b32 q a0 a1 a2 s m) (kxfX7_windFor_b32 q a0 a1 a2) :=
  simk_loopF (fun s m => pfX7_windFor_b32 q hcs a0 a1 a2 s m) 1000 s m
theorem pfX7_windFor (q : Nat) (hcs : CSm (csF q)) (a0 : Nat) (a1 : Int32) (m : MM) : SimK (fX7_windFor_b a0 a1 m) (fun n => brun false (0, 0) (csF q) (lkb tX7_windFor) n 0 (entL 7 [aR 7 a0, aI a1]) [] (ST0 q, m)) (kt_X7_windFor q) :=
  (simk_run hcs 16 [32]
    (simt_bind fun o1 =>
      (simt_ite
        (simt_bif
          (simt_loop hcs (.s _ (.s _ (.s _ (.s _ (.s _ (.s _ (.n _ .nil))))))) (pfX7_windFor_b32_l q hcs a0 a1 (o1.2.1 51 0 (0 : Int32).toNatClampNeg) ((-1), 61, 0) o1.2) (fun o3 => 
            (simk_run hcs 8 []
              (simt_bif
                (simt_ret (some (some (aI o3.1), (ST0 q, ((upI o3.2.1 51 0 (0 : Int32).toNatClampNeg (o1.2.1 51 0 (0 : Int32).toNatClampNeg)), o3.2.2)))) (fun _ => rfl)))
            (fun _ => rfl)))))
        (simt_bind fun o4 =>
          (simt_ret (some (some (aI o4.1), (ST0 q, o4.2))) (fun _ => rfl)))))
  (fun _ => rfl))
noncomputable def kt_X7_bestWind (q : Nat) : Int32 × MM → Nat → Option Out := fun x _ => some (some (aI x.1), (ST0 q, x.2))
noncomputable def hfX7_bestWind_b32 (q : Nat) (a0 : Nat) (a1 : Int32) (a2 : Int32) (s : Int32 × Int32 × Int32) (m : MM) (n : Nat) : Option Out := brun false (0, 0) (csF q) (lkb tX7_bestWind) n 32 [some (aR 7 a0), some (aI a1), some (aI a2), some (aI s.1), some (aI s.2.1), some (aI s.2.2), none] [] (ST0 q, m)
noncomputable def kxfX7_bestWind_b32 (q : Nat) (a0 : Nat) (a1 : Int32) (a2 : Int32) (y : (Int32 × Int32) × MM) (n : Nat) : Option Out := brun false (0, 0) (csF q) (lkb tX7_bestWind) n 92 [none, none, some (aI a2), some (aI y.1.1), some (aI y.1.2), none, none] [] (ST0 q, y.2)
theorem pfX7_bestWind_b32 (q : Nat) (hcs : CSm (csF q)) (a0 : Nat) (a1 : Int32) (a2 : Int32) (s : Int32 × Int32 × Int32) (m : MM) : SimK (fX7_bestWind_b32 a0 a1 a2 s m) (hfX7_bestWind_b32 q a0 a1 a2 s m) (lpK (hfX7_bestWind_b32 q a0 a1 a2) (kxfX7_bestWind_b32 q a0 a1 a2)) :=
  (simk_run hcs 30 [32, 92]
    (simt_ite
      (simt_go hcs (.n _ (.n _ (.s _ (.s _ (.s _ (.n _ (.n _ .nil))))))) (fun _ => rfl))
      (simt_bind fun o4 =>
        (simt_bif
          (simt_bind fun o5 =>
            (simt_bind fun o6 =>
              (simt_ite
                (simt_go hcs (.s _ (.s _ (.s _ (.s _ (.s _ (.s _ (.n _ .nil))))))) (fun _ => rfl))
                (simt_go hcs (.s _ (.s _ (.s _ (.s _ (.s _ (.s _ (.n _ .nil))))))) (fun _ => rfl))))))))
  (fun _ => rfl))
theorem pfX7_bestWind_b32_l (q : Nat) (hcs : CSm (csF q)) (a0 : Nat) (a1 : Int32) (a2 : Int32) (s : Int32 × Int32 × Int32) (m : MM) : SimK (loopF 1000 (fX7_bestWind_b32 a0 a1 a2) s m) (hfX7_bestWind_b32 q a0 a1 a2 s m) (kxfX7_bestWind_b32 q a0 a1 a2) :=
  simk_loopF (fun s m => pfX7_bestWind_b32 q hcs a0 a1 a2 s m) 1000 s m
theorem pfX7_bestWind (q : Nat) (hcs : CSm (csF q)) (a0 : Nat) (a1 : Int32) (a2 : Int32) (m : MM) : SimK (fX7_bestWind_b a0 a1 a2 m) (fun n => brun false (0, 0) (csF q) (lkb tX7_bestWind) n 0 (entL 7 [aR 7 a0, aI a1, aI a2]) [] (ST0 q, m)) (kt_X7_bestWind q) :=
  (simk_run hcs 15 [32]
    (simt_bind fun o1 =>
      (simt_ite
        (simt_bind fun o2 =>
          (simt_ret (some (some (aI o2.1), (ST0 q, o2.2))) (fun _ => rfl)))
        (simt_bind fun o3 =>
          (simt_ite
            (simt_loop hcs (.s _ (.s _ (.s _ (.s _ (.s _ (.s _ (.n _ .nil))))))) (pfX7_bestWind_b32_l q hcs a0 a1 a2 (0, (-1), 0) o3.2) (fun o7 => 
              (simk_run hcs 6 []
                (simt_ite
                  (simt_ret (some (some (aI o7.1.2), (ST0 q, o7.2))) (fun _ => rfl))
                  (simt_ret (some (some (aI o7.1.1), (ST0 q, o7.2))) (fun _ => rfl)))
              (fun _ => rfl))))
            (simt_bind fun o8 =>
              (simt_ret (some (some (aI o8.1), (ST0 q, o8.2))) (fun _ => rfl)))))))
  (fun _ => rfl))
noncomputable def kt_X7_areSo (q : Nat) : Int32 × MM → Nat → Option Out := fun x _ => some (some (aI x.1), (ST0 q, x.2))
noncomputable def hfX7_areSo_b4 (q : Nat) (a0 : Nat) (a1 : Int32) (s : Int32 × Int32) (m : MM) (n : Nat) : Option Out := brun false (0, 0) (csF q) (lkb tX7_areSo) n 4 [some (aR 7 a0), some (aI a1), some (aI s.1), some (aI s.2)] [] (ST0 q, m)
noncomputable def kxfX7_areSo_b4 (q : Nat) (a0 : Nat) (a1 : Int32) (y : (Int32) × MM) (n : Nat) : Option Out := brun false (0, 0) (csF q) (lkb tX7_areSo) n 34 [none, none, some (aI y.1), none] [] (ST0 q, y.2)
theorem pfX7_areSo_b4 (q : Nat) (hcs : CSm (csF q)) (a0 : Nat) (a1 : Int32) (s : Int32 × Int32) (m : MM) : SimK (fX7_areSo_b4 a0 a1 s m) (hfX7_areSo_b4 q a0 a1 s m) (lpK (hfX7_areSo_b4 q a0 a1) (kxfX7_areSo_b4 q a0 a1)) :=
  (simk_run hcs 19 [4, 34]
    (simt_ite
      (simt_go hcs (.n _ (.n _ (.s _ (.n _ .nil)))) (fun _ => rfl))
      (simt_bif
        (simt_ite
          (simt_go hcs (.s _ (.s _ (.s _ (.s _ .nil)))) (fun _ => rfl))
          (simt_go hcs (.s _ (.s _ (.s _ (.s _ .nil)))) (fun _ => rfl)))))
  (fun _ => rfl))
theorem pfX7_areSo_b4_l (q : Nat) (hcs : CSm (csF q)) (a0 : Nat) (a1 : Int32) (s : Int32 × Int32) (m : MM) : SimK (loopF 1000 (fX7_areSo_b4 a0 a1) s m) (hfX7_areSo_b4 q a0 a1 s m) (kxfX7_areSo_b4 q a0 a1) :=
  simk_loopF (fun s m => pfX7_areSo_b4 q hcs a0 a1 s m) 1000 s m
theorem pfX7_areSo (q : Nat) (hcs : CSm (csF q)) (a0 : Nat) (a1 : Int32) (m : MM) : SimK (fX7_areSo_b a0 a1 m) (fun n => brun false (0, 0) (csF q) (lkb tX7_areSo) n 0 (entL 4 [aR 7 a0, aI a1]) [] (ST0 q, m)) (kt_X7_areSo q) :=
  (simk_run hcs 5 [4]
    (simt_loop hcs (.s _ (.s _ (.s _ (.s _ .nil)))) (pfX7_areSo_b4_l q hcs a0 a1 (0, 0) m) (fun o1 => 
      (simk_run hcs 3 []
        (simt_ret (some (some (aI o1.1), (ST0 q, o1.2))) (fun _ => rfl))
      (fun _ => rfl))))
  (fun _ => rfl))
noncomputable def kt_X7_afloatThen (q : Nat) : Int32 × MM → Nat → Option Out := fun x _ => some (some (aI x.1), (ST0 q, x.2))
theorem pfX7_afloatThen (q : Nat) (hcs : CSm (csF q)) (a0 : Nat) (a1 : Int32) (m : MM) : SimK (fX7_afloatThen_b a0 a1 m) (fun n => brun false (0, 0) (csF q) (lkb tX7_afloatThen) n 0 (entL 4 [aR 7 a0, aI a1]) [] (ST0 q, m)) (kt_X7_afloatThen q) :=
  (simk_run hcs 25 []
    (simt_bind fun o1 =>
      (simt_bind fun o2 =>
        (simt_bind fun o3 =>
          (simt_bind fun o4 =>
            (simt_bind fun o5 =>
              (simt_ret (some (some (aI (o1.1 &&& o4.1)), (ST0 q, o5.2))) (fun _ => rfl)))))))
  (fun _ => rfl))
noncomputable def kt_X7_who (q : Nat) : Int32 × MM → Nat → Option Out := fun x _ => some (some (aI x.1), (ST0 q, x.2))
theorem pfX7_who (q : Nat) (hcs : CSm (csF q)) (a0 : Nat) (a1 : Int32) (m : MM) : SimK (fX7_who_b a0 a1 m) (fun n => brun false (0, 0) (csF q) (lkb tX7_who) n 0 (entL 2 [aR 7 a0, aI a1]) [] (ST0 q, m)) (kt_X7_who q) :=
  (simk_run hcs 14 []
    (simt_bind fun o1 =>
      (simt_ite
        (simt_ite
          (simt_bind fun o2 =>
            (simt_ret (some (some (aI o2.1), (ST0 q, o2.2))) (fun _ => rfl)))
          (simt_bind fun o3 =>
            (simt_ret (some (some (aI o3.1), (ST0 q, o3.2))) (fun _ => rfl))))
        (simt_bind fun o4 =>
          (simt_ret (some (some (aI o4.1), (ST0 q, o4.2))) (fun _ => rfl)))))
  (fun _ => rfl))
noncomputable def kt_X7_strays (q : Nat) : Int32 × MM → Nat → Option Out := fun x _ => some (some (aI x.1), (ST0 q, x.2))
theorem pfX7_strays (q : Nat) (hcs : CSm (csF q)) (a0 : Nat) (m : MM) : SimK (fX7_strays_b a0 m) (fun n => brun false (0, 0) (csF q) (lkb tX7_strays) n 0 (entL 1 [aR 7 a0]) [] (ST0 q, m)) (kt_X7_strays q) :=
  (simk_run hcs 5 []
    (simt_bind fun o1 =>
      (simt_ret (some (some (aI o1.1), (ST0 q, o1.2))) (fun _ => rfl)))
  (fun _ => rfl))
noncomputable def kt_X7_there (q : Nat) : Int32 × MM → Nat → Option Out := fun x _ => some (some (aI x.1), (ST0 q, x.2))
noncomputable def hfX7_there_b85 (q : Nat) (a0 : Nat) (a1 : Int32) (s : Int32 × Int32) (m : MM) (n : Nat) : Option Out := brun false (0, 0) (csF q) (lkb tX7_there) n 85 [some (aR 7 a0), some (aI a1), none, some (aI s.1), some (aI s.2)] [] (ST0 q, m)
noncomputable def kxfX7_there_b85 (q : Nat) (a0 : Nat) (a1 : Int32) (y : (Int32) × MM) (n : Nat) : Option Out := brun false (0, 0) (csF q) (lkb tX7_there) n 118 [none, none, none, some (aI y.1), none] [] (ST0 q, y.2)
theorem pfX7_there_b85 (q : Nat) (hcs : CSm (csF q)) (a0 : Nat) (a1 : Int32) (s : Int32 × Int32) (m : MM) : SimK (fX7_there_b85 a0 a1 s m) (hfX7_there_b85 q a0 a1 s m) (lpK (hfX7_there_b85 q a0 a1) (kxfX7_there_b85 q a0 a1)) :=
  (simk_run hcs 19 [85, 118]
    (simt_ite
      (simt_go hcs (.n _ (.n _ (.n _ (.s _ (.n _ .nil))))) (fun _ => rfl))
      (simt_bif
        (simt_ite
          (simt_go hcs (.s _ (.s _ (.n _ (.s _ (.s _ .nil))))) (fun _ => rfl))
          (simt_go hcs (.s _ (.s _ (.n _ (.s _ (.s _ .nil))))) (fun _ => rfl)))))
  (fun _ => rfl))
theorem pfX7_there_b85_l (q : Nat) (hcs : CSm (csF q)) (a0 : Nat) (a1 : Int32) (s : Int32 × Int32) (m : MM) : SimK (loopF 1000 (fX7_there_b85 a0 a1) s m) (hfX7_there_b85 q a0 a1 s m) (kxfX7_there_b85 q a0 a1) :=
  simk_loopF (fun s m => pfX7_there_b85 q hcs a0 a1 s m) 1000 s m
noncomputable def hfX7_there_b34 (q : Nat) (a0 : Nat) (a1 : Int32) (a2 : Int32) (s : Int32 × Int32) (m : MM) (n : Nat) : Option Out := brun false (0, 0) (csF q) (lkb tX7_there) n 34 [some (aR 7 a0), some (aI a1), some (aI a2), some (aI s.1), some (aI s.2)] [] (ST0 q, m)
noncomputable def kxfX7_there_b34 (q : Nat) (a0 : Nat) (a1 : Int32) (a2 : Int32) (y : (Int32) × MM) (n : Nat) : Option Out := brun false (0, 0) (csF q) (lkb tX7_there) n 77 [some (aR 7 a0), some (aI a1), some (aI a2), some (aI y.1), none] [] (ST0 q, y.2)
theorem pfX7_there_b34 (q : Nat) (hcs : CSm (csF q)) (a0 : Nat) (a1 : Int32) (a2 : Int32) (s : Int32 × Int32) (m : MM) : SimK (fX7_there_b34 a0 a1 a2 s m) (hfX7_there_b34 q a0 a1 a2 s m) (lpK (hfX7_there_b34 q a0 a1 a2) (kxfX7_there_b34 q a0 a1 a2)) :=
  (simk_run hcs 24 [34, 77]
    (simt_ite
      (simt_go hcs (.s _ (.s _ (.s _ (.s _ (.n _ .nil))))) (fun _ => rfl))
      (simt_bif
        (simt_ite
          (simt_go hcs (.s _ (.s _ (.s _ (.s _ (.s _ .nil))))) (fun _ => rfl))
          (simt_bif
            (simt_ite
              (simt_go hcs (.s _ (.s _ (.s _ (.s _ (.s _ .nil))))) (fun _ => rfl))
              (simt_go hcs (.s _ (.s _ (.s _ (.s _ (.s _ .nil))))) (fun _ => rfl)))))))
  (fun _ => rfl))
theorem pfX7_there_b34_l (q : Nat) (hcs : CSm (csF q)) (a0 : Nat) (a1 : Int32) (a2 : Int32) (s : Int32 × Int32) (m : MM) : SimK (loopF 1000 (fX7_there_b34 a0 a1 a2) s m) (hfX7_there_b34 q a0 a1 a2 s m) (kxfX7_there_b34 q a0 a1 a2) :=
  simk_loopF (fun s m => pfX7_there_b34 q hcs a0 a1 a2 s m) 1000 s m
theorem pfX7_there_j77 (q : Nat) (hcs : CSm (csF q)) (a0 : Nat) (a1 : Int32) (a2 : Int32) (a3 : Int32) (m : MM) : SimK (fX7_there_j77 a0 a1 a2 a3 m) (fun n => brun false (0, 0) (csF q) (lkb tX7_there) n 77 [some (aR 7 a0), some (aI a1), some (aI a2), some (aI a3), none] [] (ST0 q, m)) (kt_X7_there q) :=
  (simk_run hcs 6 [85]
    (simt_ite
      (simt_ret (some (some (aI a3), (ST0 q, m))) (fun _ => rfl))
      (simt_loop hcs (.s _ (.s _ (.n _ (.s _ (.s _ .nil))))) (pfX7_there_b85_l q hcs a0 a1 (a3, 0) m) (fun o4 => 
        (simk_run hcs 3 []
          (simt_ret (some (some (aI o4.1), (ST0 q, o4.2))) (fun _ => rfl))
        (fun _ => rfl)))))
  (fun _ => rfl))
theorem pfX7_there (q : Nat) (hcs : CSm (csF q)) (a0 : Nat) (a1 : Int32) (a2 : Int32) (m : MM) : SimK (fX7_there_b a0 a1 a2 m) (fun n => brun false (0, 0) (csF q) (lkb tX7_there) n 0 (entL 5 [aR 7 a0, aI a1, aI a2]) [] (ST0 q, m)) (kt_X7_there q) :=
  (simk_run hcs 16 [34, 77]
    (simt_bind fun o1 =>
      (simt_ite
        (simt_bind fun o2 =>
          (simt_ret (some (some (aI o2.1), (ST0 q, o2.2))) (fun _ => rfl)))
        (simt_bind fun o3 =>
          (simt_ite
            (simt_ite
              (simt_join hcs (.s _ (.s _ (.s _ (.s _ (.n _ .nil))))) (pfX7_there_j77 q hcs a0 a1 a2 0 o3.2))
              (simt_loop hcs (.s _ (.s _ (.s _ (.s _ (.s _ .nil))))) (pfX7_there_b34_l q hcs a0 a1 a2 (0, 0) o3.2) (fun o5 => 
                (simk_here
                  (simt_join hcs (.s _ (.s _ (.s _ (.s _ (.n _ .nil))))) (pfX7_there_j77 q hcs a0 a1 a2 o5.1 o5.2))))))
            (simt_bind fun o6 =>
              (simt_ret (some (some (aI o6.1), (ST0 q, o6.2))) (fun _ => rfl)))))))
  (fun _ => rfl))
noncomputable def kt_X7_settles (q : Nat) : Int32 × MM → Nat → Option Out := fun x _ => some (some (aI x.1), (ST0 q, x.2))
noncomputable def hfX7_settles_b45 (q : Nat) (a0 : Nat) (a1 : Int32) (s : Int32 × Int32 × Int32) (m : MM) (n : Nat) : Option Out := brun false (0, 0) (csF q) (lkb tX7_settles) n 45 [some (aR 7 a0), some (aI a1), some (aI s.1), some (aI s.2.1), some (aI s.2.2)] [] (ST0 q, m)
noncomputable def kxfX7_settles_b45 (q : Nat) (a0 : Nat) (a1 : Int32) (y : (Int32) × MM) (n : Nat) : Option Out := brun false (0, 0) (csF q) (lkb tX7_settles) n 120 [some (aR 7 a0), none, none, some (aI y.1), none] [] (ST0 q, y.2)
theorem pfX7_settles_b45 (q : Nat) (hcs : CSm (csF q)) (a0 : Nat) (a1 : Int32) (s : Int32 × Int32 × Int32) (m : MM) : SimK (fX7_settles_b45 a0 a1 s m) (hfX7_settles_b45 q a0 a1 s m) (lpK (hfX7_settles_b45 q a0 a1) (kxfX7_settles_b45 q a0 a1)) :=
  (simk_run hcs 47 [45, 120]
    (simt_ite
      (simt_go hcs (.s _ (.n _ (.n _ (.s _ (.n _ .nil))))) (fun _ => rfl))
      (simt_ite
        (simt_go hcs (.s _ (.n _ (.n _ (.s _ (.n _ .nil))))) (fun _ => rfl))
        (simt_bif
          (simt_ite
            (simt_go hcs (.s _ (.n _ (.n _ (.s _ (.n _ .nil))))) (fun _ => rfl))
            (simt_bind fun o3 =>
              (simt_bif
                (simt_ite
                  (simt_bif
                    (simt_go hcs (.s _ (.s _ (.s _ (.s _ (.s _ .nil))))) (fun _ => rfl)))
                  (simt_bif
                    (simt_ite
                      (simt_bif
                        (simt_go hcs (.s _ (.s _ (.s _ (.s _ (.s _ .nil))))) (fun _ => rfl)))
                      (simt_bif
                        (simt_go hcs (.s _ (.s _ (.s _ (.s _ (.s _ .nil))))) (fun _ => rfl))))))))))))
  (fun _ => rfl))
theorem pfX7_settles_b45_l (q : Nat) (hcs : CSm (csF q)) (a0 : Nat) (a1 : Int32) (s : Int32 × Int32 × Int32) (m : MM) : SimK (loopF 1000 (fX7_settles_b45 a0 a1) s m) (hfX7_settles_b45 q a0 a1 s m) (kxfX7_settles_b45 q a0 a1) :=
  simk_loopF (fun s m => pfX7_settles_b45 q hcs a0 a1 s m) 1000 s m
theorem pfX7_settles (q : Nat) (hcs : CSm (csF q)) (a0 : Nat) (a1 : Int32) (m : MM) : SimK (fX7_settles_b a0 a1 m) (fun n => brun false (0, 0) (csF q) (lkb tX7_settles) n 0 (entL 5 [aR 7 a0, aI a1]) [] (ST0 q, m)) (kt_X7_settles q) :=
  (simk_run hcs 25 [45]
    (simt_bind fun o1 =>
      (simt_ite
        (simt_bind fun o2 =>
          (simt_bif
            (simt_bif
              (simt_loop hcs (.s _ (.s _ (.s _ (.s _ (.s _ .nil))))) (pfX7_settles_b45_l q hcs a0 a1 ((1 <<< (((upI o2.2.1 55 0 a1.toNatClampNeg (-1)) 54 0 a1.toNatClampNeg) &&& 31)), (-1), 1) ((upI o2.2.1 55 0 a1.toNatClampNeg (-1)), o2.2.2)) (fun o4 => 
                (simk_run hcs 7 []
                  (simt_bind fun o5 =>
                    (simt_ret (some (some (aI o4.1), (ST0 q, o5.2))) (fun _ => rfl)))
                (fun _ => rfl)))))))
        (simt_bind fun o6 =>
          (simt_ret (some (some (aI o6.1), (ST0 q, o6.2))) (fun _ => rfl)))))
  (fun _ => rfl))
noncomputable def kt_X7_cellsOf (q : Nat) : Int32 × MM → Nat → Option Out := fun x _ => some (some (aI x.1), (ST0 q, x.2))
noncomputable def hfX7_cellsOf_b26 (q : Nat) (a0 : Nat) (a1 : Int32) (s : Int32 × Int32) (m : MM) (n : Nat) : Option Out := brun false (0, 0) (csF q) (lkb tX7_cellsOf) n 26 [some (aR 7 a0), some (aI a1), some (aI s.1), some (aI s.2)] [] (ST0 q, m)
noncomputable def kxfX7_cellsOf_b26 (q : Nat) (a0 : Nat) (a1 : Int32) (y : (Int32) × MM) (n : Nat) : Option Out := brun false (0, 0) (csF q) (lkb tX7_cellsOf) n 58 [some (aR 7 a0), none, some (aI y.1), none] [] (ST0 q, y.2)
theorem pfX7_cellsOf_b26 (q : Nat) (hcs : CSm (csF q)) (a0 : Nat) (a1 : Int32) (s : Int32 × Int32) (m : MM) : SimK (fX7_cellsOf_b26 a0 a1 s m) (hfX7_cellsOf_b26 q a0 a1 s m) (lpK (hfX7_cellsOf_b26 q a0 a1) (kxfX7_cellsOf_b26 q a0 a1)) :=
  (simk_run hcs 20 [26, 58]
    (simt_ite
      (simt_go hcs (.s _ (.n _ (.s _ (.n _ .nil)))) (fun _ => rfl))
      (simt_bind fun o2 =>
        (simt_bif
          (simt_go hcs (.s _ (.s _ (.s _ (.s _ .nil)))) (fun _ => rfl)))))
  (fun _ => rfl))
theorem pfX7_cellsOf_b26_l (q : Nat) (hcs : CSm (csF q)) (a0 : Nat) (a1 : Int32) (s : Int32 × Int32) (m : MM) : SimK (loopF 1000 (fX7_cellsOf_b26 a0 a1) s m) (hfX7_cellsOf_b26 q a0 a1 s m) (kxfX7_cellsOf_b26 q a0 a1) :=
  simk_loopF (fun s m => pfX7_cellsOf_b26 q hcs a0 a1 s m) 1000 s m
theorem pfX7_cellsOf (q : Nat) (hcs : CSm (csF q)) (a0 : Nat) (a1 : Int32) (m : MM) : SimK (fX7_cellsOf_b a0 a1 m) (fun n => brun false (0, 0) (csF q) (lkb tX7_cellsOf) n 0 (entL 4 [aR 7 a0, aI a1]) [] (ST0 q, m)) (kt_X7_cellsOf q) :=
  (simk_run hcs 19 [26]
    (simt_bind fun o1 =>
      (simt_bif
        (simt_bif
          (simt_loop hcs (.s _ (.s _ (.s _ (.s _ .nil)))) (pfX7_cellsOf_b26_l q hcs a0 a1 ((1 <<< (((upI o1.2.1 55 0 a1.toNatClampNeg (-1)) 54 0 a1.toNatClampNeg) &&& 31)), 0) ((upI o1.2.1 55 0 a1.toNatClampNeg (-1)), o1.2.2)) (fun o3 => 
            (simk_run hcs 7 []
              (simt_bind fun o4 =>
                (simt_ret (some (some (aI o3.1), (ST0 q, o4.2))) (fun _ => rfl)))
            (fun _ => rfl)))))))
  (fun _ => rfl))
noncomputable def kt_X7_reach (q : Nat) : Int32 × MM → Nat → Option Out := fun x _ => some (some (aI x.1), (ST0 q, x.2))
noncomputable def hfX7_reach_b47 (q : Nat) (a2 : Int32) (a3 : Int32) (s : Int32) (m : MM) (n : Nat) : Option Out := brun false (0, 0) (csF q) (lkb tX7_reach) n 47 [none, none, some (aI a2), some (aI a3), some (aI s)] [] (ST0 q, m)
noncomputable def kxfX7_reach_b47 (q : Nat) (a2 : Int32) (a3 : Int32) (y : (Int32) × MM) (n : Nat) : Option Out := brun false (0, 0) (csF q) (lkb tX7_reach) n 73 [none, none, none, none, some (aI y.1)] [] (ST0 q, y.2)
theorem pfX7_reach_b47 (q : Nat) (hcs : CSm (csF q)) (a2 : Int32) (a3 : Int32) (s : Int32) (m : MM) : SimK (fX7_reach_b47 a2 a3 s m) (hfX7_reach_b47 q a2 a3 s m) (lpK (hfX7_reach_b47 q a2 a3) (kxfX7_reach_b47 q a2 a3)) :=
  (simk_run hcs 15 [47, 73]
    (simt_ite
      (simt_go hcs (.n _ (.n _ (.n _ (.n _ (.s _ .nil))))) (fun _ => rfl))
      (simt_ite
        (simt_go hcs (.n _ (.n _ (.s _ (.s _ (.s _ .nil))))) (fun _ => rfl))
        (simt_go hcs (.n _ (.n _ (.s _ (.s _ (.s _ .nil))))) (fun _ => rfl))))
  (fun _ => rfl))
theorem pfX7_reach_b47_l (q : Nat) (hcs : CSm (csF q)) (a2 : Int32) (a3 : Int32) (s : Int32) (m : MM) : SimK (loopF 1000 (fX7_reach_b47 a2 a3) s m) (hfX7_reach_b47 q a2 a3 s m) (kxfX7_reach_b47 q a2 a3) :=
  simk_loopF (fun s m => pfX7_reach_b47 q hcs a2 a3 s m) 1000 s m
theorem pfX7_reach_j45 (q : Nat) (hcs : CSm (csF q)) (a2 : Int32) (a3 : Int32) (z0 : Int32) (m : MM) : SimK (fX7_reach_j45 a2 a3 z0 m) (fun n => brun false (0, 0) (csF q) (lkb tX7_reach) n 45 [none, none, some (aI a2), some (aI a3), none] [aI z0] (ST0 q, m)) (kt_X7_reach q) :=
  (simk_run hcs 2 [47]
    (simt_loop hcs (.n _ (.n _ (.s _ (.s _ (.s _ .nil))))) (pfX7_reach_b47_l q hcs a2 a3 z0 m) (fun o5 => 
      (simk_run hcs 3 []
        (simt_ret (some (some (aI o5.1), (ST0 q, o5.2))) (fun _ => rfl))
      (fun _ => rfl))))
  (fun _ => rfl))
theorem pfX7_reach (q : Nat) (hcs : CSm (csF q)) (a0 : Nat) (a1 : Int32) (a2 : Int32) (m : MM) : SimK (fX7_reach_b a0 a1 a2 m) (fun n => brun false (0, 0) (csF q) (lkb tX7_reach) n 0 (entL 5 [aR 7 a0, aI a1, aI a2]) [] (ST0 q, m)) (kt_X7_reach q) :=
  (simk_run hcs 20 [45]
    (simt_bind fun o1 =>
      (simt_ite
        (simt_bind fun o2 =>
          (simt_ret (some (some (aI o2.1), (ST0 q, o2.2))) (fun _ => rfl)))
        (simt_bind fun o3 =>
          (simt_ite
            (simt_bind fun o4 =>
              (simt_ite
                (simt_join hcs (.n _ (.n _ (.s _ (.s _ (.n _ .nil))))) (pfX7_reach_j45 q hcs a2 o4.1 ((o4.2.1 7 a0 0) - 1) o4.2))
                (simt_join hcs (.n _ (.n _ (.s _ (.s _ (.n _ .nil))))) (pfX7_reach_j45 q hcs a2 o4.1 0 o4.2))))
            (simt_bind fun o6 =>
              (simt_ret (some (some (aI o6.1), (ST0 q, o6.2))) (fun _ => rfl)))))))
  (fun _ => rfl))
noncomputable def kt_X7_busiest (q : Nat) : Int32 × MM → Nat → Option Out := fun x _ => some (some (aI x.1), (ST0 q, x.2))
noncomputable def hfX7_busiest_b19 (q : Nat) (a0 : Nat) (a1 : Int32) (s : Int32) (m : MM) (n : Nat) : Option Out := brun false (0, 0) (csF q) (lkb tX7_busiest) n 19 [some (aR 7 a0), some (aI a1), some (aI s), none, none] [] (ST0 q, m)
noncomputable def kxfX7_busiest_b19 (q : Nat) (a0 : Nat) (a1 : Int32) (y : (Unit) × MM) (n : Nat) : Option Out := brun false (0, 0) (csF q) (lkb tX7_busiest) n 40 [some (aR 7 a0), some (aI a1), none, none, none] [] (ST0 q, y.2)
theorem pfX7_busiest_b19 (q : Nat) (hcs : CSm (csF q)) (a0 : Nat) (a1 : Int32) (s : Int32) (m : MM) : SimK (fX7_busiest_b19 a0 a1 s m) (hfX7_busiest_b19 q a0 a1 s m) (lpK (hfX7_busiest_b19 q a0 a1) (kxfX7_busiest_b19 q a0 a1)) :=
  (simk_run hcs 12 [19, 40]
    (simt_ite
      (simt_go hcs (.s _ (.s _ (.n _ (.n _ (.n _ .nil))))) (fun _ => rfl))
      (simt_bif
        (simt_go hcs (.s _ (.s _ (.s _ (.n _ (.n _ .nil))))) (fun _ => rfl))))
  (fun _ => rfl))
theorem pfX7_busiest_b19_l (q : Nat) (hcs : CSm (csF q)) (a0 : Nat) (a1 : Int32) (s : Int32) (m : MM) : SimK (loopF 1000 (fX7_busiest_b19 a0 a1) s m) (hfX7_busiest_b19 q a0 a1 s m) (kxfX7_busiest_b19 q a0 a1) :=
  simk_loopF (fun s m => pfX7_busiest_b19 q hcs a0 a1 s m) 1000 s m
noncomputable def hfX7_busiest_b59 (q : Nat) (a0 : Nat) (a1 : Int32) (a2 : Int32) (a3 : Int32) (s : Int32) (m : MM) (n : Nat) : Option Out := brun false (0, 0) (csF q) (lkb tX7_busiest) n 59 [some (aR 7 a0), some (aI a1), some (aI a2), some (aI a3), some (aI s)] [] (ST0 q, m)
noncomputable def kxfX7_busiest_b59 (q : Nat) (a0 : Nat) (a1 : Int32) (a2 : Int32) (a3 : Int32) (y : (Unit) × MM) (n : Nat) : Option Out := brun false (0, 0) (csF q) (lkb tX7_busiest) n 90 [some (aR 7 a0), some (aI a1), some (aI a2), none, none] [] (ST0 q, y.2)
theorem pfX7_busiest_b59 (q : Nat) (hcs : CSm (csF q)) (a0 : Nat) (a1 : Int32) (a2 : Int32) (a3 : Int32) (s : Int32) (m : MM) : SimK (fX7_busiest_b59 a0 a1 a2 a3 s m) (hfX7_busiest_b59 q a0 a1 a2 a3 s m) (lpK (hfX7_busiest_b59 q a0 a1 a2 a3) (kxfX7_busiest_b59 q a0 a1 a2 a3)) :=
  (simk_run hcs 19 [59, 90]
    (simt_ite
      (simt_go hcs (.s _ (.s _ (.s _ (.n _ (.n _ .nil))))) (fun _ => rfl))
      (simt_bif
        (simt_bif
          (simt_go hcs (.s _ (.s _ (.s _ (.s _ (.s _ .nil))))) (fun _ => rfl)))))
  (fun _ => rfl))
theorem pfX7_busiest_b59_l (q : Nat) (hcs : CSm (csF q)) (a0 : Nat) (a1 : Int32) (a2 : Int32) (a3 : Int32) (s : Int32) (m : MM) : SimK (loopF 1000 (fX7_busiest_b59 a0 a1 a2 a3) s m) (hfX7_busiest_b59 q a0 a1 a2 a3 s m) (kxfX7_busiest_b59 q a0 a1 a2 a3) :=
  simk_loopF (fun s m => pfX7_busiest_b59 q hcs a0 a1 a2 a3 s m) 1000 s m
noncomputable def hfX7_busiest_b42 (q : Nat) (a0 : Nat) (a1 : Int32) (s : Int32) (m : MM) (n : Nat) : Option Out := brun false (0, 0) (csF q) (lkb tX7_busiest) n 42 [some (aR 7 a0), some (aI a1), some (aI s), none, none] [] (ST0 q, m)
noncomputable def kxfX7_busiest_b42 (q : Nat) (a0 : Nat) (a1 : Int32) (y : (Unit) × MM) (n : Nat) : Option Out := brun false (0, 0) (csF q) (lkb tX7_busiest) n 96 [some (aR 7 a0), some (aI a1), none, none, none] [] (ST0 q, y.2)
theorem pfX7_busiest_b42 (q : Nat) (hcs : CSm (csF q)) (a0 : Nat) (a1 : Int32) (s : Int32) (m : MM) : SimK (fX7_busiest_b42 a0 a1 s m) (hfX7_busiest_b42 q a0 a1 s m) (lpK (hfX7_busiest_b42 q a0 a1) (kxfX7_busiest_b42 q a0 a1)) :=
  (simk_run hcs 11 [59, 96]
    (simt_ite
      (simt_go hcs (.s _ (.s _ (.n _ (.n _ (.n _ .nil))))) (fun _ => rfl))
      (simt_bind fun o3 =>
        (simt_loop hcs (.s _ (.s _ (.s _ (.s _ (.s _ .nil))))) (pfX7_busiest_b59_l q hcs a0 a1 s o3.1 0 o3.2) (fun o4 => 
          (simk_run hcs 3 [42]
            (simt_go hcs (.s _ (.s _ (.s _ (.n _ (.n _ .nil))))) (fun _ => rfl))
          (fun _ => rfl))))))
  (fun _ => rfl))
theorem pfX7_busiest_b42_l (q : Nat) (hcs : CSm (csF q)) (a0 : Nat) (a1 : Int32) (s : Int32) (m : MM) : SimK (loopF 1000 (fX7_busiest_b42 a0 a1) s m) (hfX7_busiest_b42 q a0 a1 s m) (kxfX7_busiest_b42 q a0 a1) :=
  simk_loopF (fun s m => pfX7_busiest_b42 q hcs a0 a1 s m) 1000 s m
noncomputable def hfX7_busiest_b100 (q : Nat) (a0 : Nat) (a1 : Int32) (s : Int32 × Int32) (m : MM) (n : Nat) : Option Out := brun false (0, 0) (csF q) (lkb tX7_busiest) n 100 [some (aR 7 a0), some (aI a1), some (aI s.1), some (aI s.2), none] [] (ST0 q, m)
noncomputable def kxfX7_busiest_b100 (q : Nat) (a0 : Nat) (a1 : Int32) (y : (Int32) × MM) (n : Nat) : Option Out := brun false (0, 0) (csF q) (lkb tX7_busiest) n 131 [some (aR 7 a0), some (aI a1), some (aI y.1), none, none] [] (ST0 q, y.2)
theorem pfX7_busiest_b100 (q : Nat) (hcs : CSm (csF q)) (a0 : Nat) (a1 : Int32) (s : Int32 × Int32) (m : MM) : SimK (fX7_busiest_b100 a0 a1 s m) (hfX7_busiest_b100 q a0 a1 s m) (lpK (hfX7_busiest_b100 q a0 a1) (kxfX7_busiest_b100 q a0 a1)) :=
  (simk_run hcs 18 [100, 131]
    (simt_ite
      (simt_go hcs (.s _ (.s _ (.s _ (.n _ (.n _ .nil))))) (fun _ => rfl))
      (simt_bif
        (simt_bif
          (simt_ite
            (simt_go hcs (.s _ (.s _ (.s _ (.s _ (.n _ .nil))))) (fun _ => rfl))
            (simt_go hcs (.s _ (.s _ (.s _ (.s _ (.n _ .nil))))) (fun _ => rfl))))))
  (fun _ => rfl))
theorem pfX7_busiest_b100_l (q : Nat) (hcs : CSm (csF q)) (a0 : Nat) (a1 : Int32) (s : Int32 × Int32) (m : MM) : SimK (loopF 1000 (fX7_busiest_b100 a0 a1) s m) (hfX7_busiest_b100 q a0 a1 s m) (kxfX7_busiest_b100 q a0 a1) :=
  simk_loopF (fun s m => pfX7_busiest_b100 q hcs a0 a1 s m) 1000 s m
theorem pfX7_busiest (q : Nat) (hcs : CSm (csF q)) (a0 : Nat) (a1 : Int32) (m : MM) : SimK (fX7_busiest_b a0 a1 m) (fun n => brun false (0, 0) (csF q) (lkb tX7_busiest) n 0 (entL 5 [aR 7 a0, aI a1]) [] (ST0 q, m)) (kt_X7_busiest q) :=
  (simk_run hcs 10 [19]
    (simt_bind fun o1 =>
      (simt_ite
        (simt_loop hcs (.s _ (.s _ (.s _ (.n _ (.n _ .nil))))) (pfX7_busiest_b19_l q hcs a0 a1 0 o1.2) (fun o2 => 
          (simk_run hcs 3 [42]
            (simt_loop hcs (.s _ (.s _ (.s _ (.n _ (.n _ .nil))))) (pfX7_busiest_b42_l q hcs a0 a1 0 o2.2) (fun o5 => 
              (simk_run hcs 5 [100]
                (simt_loop hcs (.s _ (.s _ (.s _ (.s _ (.n _ .nil))))) (pfX7_busiest_b100_l q hcs a0 a1 (0, 1) o5.2) (fun o6 => 
                  (simk_run hcs 8 []
                    (simt_ite
                      (simt_bif
                        (simt_ret (some (some (aI (o6.2.1 68 0 o6.1.toNatClampNeg)), (ST0 q, o6.2))) (fun _ => rfl)))
                      (simt_ret (some (some (aI o6.1), (ST0 q, o6.2))) (fun _ => rfl)))
                  (fun _ => rfl))))
              (fun _ => rfl))))
          (fun _ => rfl))))
        (simt_bind fun o7 =>
          (simt_ret (some (some (aI o7.1), (ST0 q, o7.2))) (fun _ => rfl)))))
  (fun _ => rfl))
noncomputable def kt_X7_round (q : Nat) : Int32 × MM → Nat → Option Out := fun x _ => some (some (aI x.1), (ST0 q, x.2))
noncomputable def hfX7_round_b47 (q : Nat) (a0 : Nat) (a1 : Int32) (a2 : Int32) (a3 : Int32) (s : Int32 × Int32) (m : MM) (n : Nat) : Option Out := brun false (0, 0) (csF q) (lkb tX7_round) n 47 [some (aR 7 a0), some (aI a1), some (aI a2), some (aI a3), some (aI s.1), some (aI s.2)] [] (ST0 q, m)
noncomputable def kxfX7_round_b47 (q : Nat) (a0 : Nat) (a1 : Int32) (a2 : Int32) (a3 : Int32) (y : (Int32) × MM) (n : Nat) : Option Out := brun false (0, 0) (csF q) (lkb tX7_round) n 98 [some (aR 7 a0), none, none, none, some (aI y.1), none] [] (ST0 q, y.2)
theorem pfX7_round_b47 (q : Nat) (hcs : CSm (csF q)) (a0 : Nat) (a1 : Int32) (a2 : Int32) (a3 : Int32) (s : Int32 × Int32) (m : MM) : SimK (fX7_round_b47 a0 a1 a2 a3 s m) (hfX7_round_b47 q a0 a1 a2 a3 s m) (lpK (hfX7_round_b47 q a0 a1 a2 a3) (kxfX7_round_b47 q a0 a1 a2 a3)) :=
  (simk_run hcs 28 [47, 98]
    (simt_ite
      (simt_go hcs (.s _ (.n _ (.n _ (.n _ (.s _ (.n _ .nil)))))) (fun _ => rfl))
      (simt_ite
        (simt_go hcs (.s _ (.n _ (.n _ (.n _ (.s _ (.n _ .nil)))))) (fun _ => rfl))
        (simt_bind fun o3 =>
          (simt_bif
            (simt_ite
              (simt_go hcs (.s _ (.s _ (.s _ (.s _ (.s _ (.s _ .nil)))))) (fun _ => rfl))
              (simt_bif
                (simt_ite
                  (simt_go hcs (.s _ (.s _ (.s _ (.s _ (.s _ (.s _ .nil)))))) (fun _ => rfl))
                  (simt_go hcs (.s _ (.s _ (.s _ (.s _ (.s _ (.s _ .nil)))))) (fun _ => rfl)))))))))
  (fun _ => rfl))
theorem pfX7_round_b47_l (q : Nat) (hcs : CSm (csF q)) (a0 : Nat) (a1 : Int32) (a2 : Int32) (a3 : Int32) (s : Int32 × Int32) (m : MM) : SimK (loopF 1000 (fX7_round_b47 a0 a1 a2 a3) s m) (hfX7_round_b47 q a0 a1 a2 a3 s m) (kxfX7_round_b47 q a0 a1 a2 a3) :=
  simk_loopF (fun s m => pfX7_round_b47 q hcs a0 a1 a2 a3 s m) 1000 s m
theorem pfX7_round (q : Nat) (hcs : CSm (csF q)) (a0 : Nat) (a1 : Int32) (m : MM) : SimK (fX7_round_b a0 a1 m) (fun n => brun false (0, 0) (csF q) (lkb tX7_round) n 0 (entL 6 [aR 7 a0, aI a1]) [] (ST0 q, m)) (kt_X7_round q) :=
  (simk_run hcs 25 [47]
    (simt_bind fun o1 =>
      (simt_ite
        (simt_bind fun o2 =>
          (simt_bif
            (simt_bif
              (simt_loop hcs (.s _ (.s _ (.s _ (.s _ (.s _ (.s _ .nil)))))) (pfX7_round_b47_l q hcs a0 a1 (o2.2.1 57 0 a1.toNatClampNeg) (o2.2.1 57 0 (12 + a1).toNatClampNeg) ((-1), 1) o2.2) (fun o4 => 
                (simk_run hcs 7 []
                  (simt_bind fun o5 =>
                    (simt_ret (some (some (aI o4.1), (ST0 q, o5.2))) (fun _ => rfl)))
                (fun _ => rfl)))))))
        (simt_bind fun o6 =>
          (simt_ret (some (some (aI o6.1), (ST0 q, o6.2))) (fun _ => rfl)))))
  (fun _ => rfl))
noncomputable def kt_X7_join (q : Nat) : Int32 × MM → Nat → Option Out := fun x _ => some (some (aI x.1), (ST0 q, x.2))
noncomputable def hfX7_join_b56 (q : Nat) (a0 : Nat) (a1 : Int32) (a2 : Int32) (s : Int32 × Int32) (m : MM) (n : Nat) : Option Out := brun false (0, 0) (csF q) (lkb tX7_join) n 56 [some (aR 7 a0), some (aI a1), some (aI a2), some (aI s.1), some (aI s.2)] [] (ST0 q, m)
noncomputable def kxfX7_join_b56 (q : Nat) (a0 : Nat) (a1 : Int32) (a2 : Int32) (y : (Int32) × MM) (n : Nat) : Option Out := brun false (0, 0) (csF q) (lkb tX7_join) n 124 [some (aR 7 a0), none, none, some (aI y.1), none] [] (ST0 q, y.2)
theorem pfX7_join_j82 (q : Nat) (hcs : CSm (csF q)) (a0 : Nat) (a1 : Int32) (a2 : Int32) (a3 : Int32) (a4 : Int32) (m : MM) : SimK (fX7_join_j82 a0 a1 a2 a3 a4 m) (fun n => brun false (0, 0) (csF q) (lkb tX7_join) n 82 [some (aR 7 a0), some (aI a1), some (aI a2), some (aI a3), some (aI a4)] [] (ST0 q, m)) (lpK (hfX7_join_b56 q a0 a1 a2) (kxfX7_join_b56 q a0 a1 a2)) :=
  (simk_run hcs 24 [56]
    (simt_bif
      (simt_ite
        (simt_go hcs (.s _ (.s _ (.s _ (.s _ (.s _ .nil))))) (fun _ => rfl))
        (simt_bif
          (simt_ite
            (simt_go hcs (.s _ (.s _ (.s _ (.s _ (.s _ .nil))))) (fun _ => rfl))
            (simt_bif
              (simt_bif
                (simt_ite
                  (simt_go hcs (.s _ (.s _ (.s _ (.s _ (.s _ .nil))))) (fun _ => rfl))
                  (simt_go hcs (.s _ (.s _ (.s _ (.s _ (.s _ .nil))))) (fun _ => rfl)))))))))
  (fun _ => rfl))
theorem pfX7_join_b56 (q : Nat) (hcs : CSm (csF q)) (a0 : Nat) (a1 : Int32) (a2 : Int32) (s : Int32 × Int32) (m : MM) : SimK (fX7_join_b56 a0 a1 a2 s m) (hfX7_join_b56 q a0 a1 a2 s m) (lpK (hfX7_join_b56 q a0 a1 a2) (kxfX7_join_b56 q a0 a1 a2)) :=
  (simk_run hcs 14 [82, 124]
    (simt_ite
      (simt_go hcs (.s _ (.n _ (.n _ (.s _ (.n _ .nil))))) (fun _ => rfl))
      (simt_ite
        (simt_go hcs (.s _ (.n _ (.n _ (.s _ (.n _ .nil))))) (fun _ => rfl))
        (simt_ite
          (simt_join hcs (.s _ (.s _ (.s _ (.s _ (.s _ .nil))))) (pfX7_join_j82 q hcs a0 a1 a2 s.1 s.2 m))
          (simt_bind fun o6 =>
            (simt_join hcs (.s _ (.s _ (.s _ (.s _ (.s _ .nil))))) (pfX7_join_j82 q hcs a0 a1 a2 s.1 s.2 o6.2))))))
  (fun _ => rfl))
theorem pfX7_join_b56_l (q : Nat) (hcs : CSm (csF q)) (a0 : Nat) (a1 : Int32) (a2 : Int32) (s : Int32 × Int32) (m : MM) : SimK (loopF 1000 (fX7_join_b56 a0 a1 a2) s m) (hfX7_join_b56 q a0 a1 a2 s m) (kxfX7_join_b56 q a0 a1 a2) :=
  simk_loopF (fun s m => pfX7_join_b56 q hcs a0 a1 a2 s m) 1000 s m
theorem pfX7_join (q : Nat) (hcs : CSm (csF q)) (a0 : Nat) (a1 : Int32) (a2 : Int32) (m : MM) : SimK (fX7_join_b a0 a1 a2 m) (fun n => brun false (0, 0) (csF q) (lkb tX7_join) n 0 (entL 5 [aR 7 a0, aI a1, aI a2]) [] (ST0 q, m)) (kt_X7_join q) :=
  (simk_run hcs 30 [56]
    (simt_bind fun o1 =>
      (simt_ite
        (simt_bind fun o2 =>
          (simt_ret (some (some (aI o2.1), (ST0 q, o2.2))) (fun _ => rfl)))
        (simt_bind fun o3 =>
          (simt_ite
            (simt_bind fun o4 =>
              (simt_ret (some (some (aI o4.1), (ST0 q, o4.2))) (fun _ => rfl)))
            (simt_ite
              (simt_bind fun o5 =>
                (simt_bif
                  (simt_bif
                    (simt_loop hcs (.s _ (.s _ (.s _ (.s _ (.s _ .nil))))) (pfX7_join_b56_l q hcs a0 a1 a2 ((-1), 0) ((upI (upI o5.2.1 55 0 a1.toNatClampNeg (-1)) 55 0 a2.toNatClampNeg (-1)), o5.2.2)) (fun o7 => 
                      (simk_run hcs 7 []
                        (simt_bind fun o8 =>
                          (simt_ret (some (some (aI o7.1), (ST0 q, o8.2))) (fun _ => rfl)))
                      (fun _ => rfl)))))))
              (simt_bind fun o9 =>
                (simt_ret (some (some (aI o9.1), (ST0 q, o9.2))) (fun _ => rfl))))))))
  (fun _ => rfl))
noncomputable def kt_X7_first (q : Nat) : Int32 × MM → Nat → Option Out := fun x _ => some (some (aI x.1), (ST0 q, x.2))
noncomputable def hfX7_first_b24 (q : Nat) (a0 : Nat) (a1 : Int32) (s : Int32 × Int32 × Int32) (m : MM) (n : Nat) : Option Out := brun false (0, 0) (csF q) (lkb tX7_first) n 24 [some (aR 7 a0), some (aI a1), some (aI s.1), some (aI s.2.1), some (aI s.2.2), none] [] (ST0 q, m)
noncomputable def kxfX7_first_b24 (q : Nat) (a0 : Nat) (a1 : Int32) (y : (Int32) × MM) (n : Nat) : Option Out := brun false (0, 0) (csF q) (lkb tX7_first) n 98 [none, none, some (aI y.1), none, none, none] [] (ST0 q, y.2)
theorem pfX7_first_j68 (q : Nat) (hcs : CSm (csF q)) (a0 : Nat) (a1 : Int32) (a2 : Int32) (a3 : Int32) (a4 : Int32) (m : MM) : SimK (fX7_first_j68 a0 a1 a2 a3 a4 m) (fun n => brun false (0, 0) (csF q) (lkb tX7_first) n 68 [some (aR 7 a0), some (aI a1), some (aI a2), some (aI a3), some (aI a4), none] [] (ST0 q, m)) (lpK (hfX7_first_b24 q a0 a1) (kxfX7_first_b24 q a0 a1)) :=
  (simk_run hcs 8 [24]
    (simt_go hcs (.s _ (.s _ (.s _ (.s _ (.s _ (.n _ .nil)))))) (fun _ => rfl))
  (fun _ => rfl))
theorem pfX7_first_b24 (q : Nat) (hcs : CSm (csF q)) (a0 : Nat) (a1 : Int32) (s : Int32 × Int32 × Int32) (m : MM) : SimK (fX7_first_b24 a0 a1 s m) (hfX7_first_b24 q a0 a1 s m) (lpK (hfX7_first_b24 q a0 a1) (kxfX7_first_b24 q a0 a1)) :=
  (simk_run hcs 36 [24, 68, 98]
    (simt_ite
      (simt_go hcs (.n _ (.n _ (.s _ (.n _ (.n _ (.n _ .nil)))))) (fun _ => rfl))
      (simt_bif
        (simt_ite
          (simt_join hcs (.s _ (.s _ (.s _ (.s _ (.s _ (.n _ .nil)))))) (pfX7_first_j68 q hcs a0 a1 s.1 s.2.1 s.2.2 m))
          (simt_bif
            (simt_ite
              (simt_join hcs (.s _ (.s _ (.s _ (.s _ (.s _ (.n _ .nil)))))) (pfX7_first_j68 q hcs a0 a1 s.1 s.2.1 s.2.2 m))
              (simt_bind fun o2 =>
                (simt_ite
                  (simt_go hcs (.s _ (.s _ (.s _ (.s _ (.s _ (.n _ .nil)))))) (fun _ => rfl))
                  (simt_ite
                    (simt_go hcs (.s _ (.s _ (.s _ (.s _ (.s _ (.n _ .nil)))))) (fun _ => rfl))
                    (simt_go hcs (.s _ (.s _ (.s _ (.s _ (.s _ (.n _ .nil)))))) (fun _ => rfl))))))))))
  (fun _ => rfl))
theorem pfX7_first_b24_l (q : Nat) (hcs : CSm (csF q)) (a0 : Nat) (a1 : Int32) (s : Int32 × Int32 × Int32) (m : MM) : SimK (loopF 1000 (fX7_first_b24 a0 a1) s m) (hfX7_first_b24 q a0 a1 s m) (kxfX7_first_b24 q a0 a1) :=
  simk_loopF (fun s m => pfX7_first_b24 q hcs a0 a1 s m) 1000 s m
theorem pfX7_first (q : Nat) (hcs : CSm (csF q)) (a0 : Nat) (a1 : Int32) (m : MM) : SimK (fX7_first_b a0 a1 m) (fun n => brun false (0, 0) (csF q) (lkb tX7_first) n 0 (entL 6 [aR 7 a0, aI a1]) [] (ST0 q, m)) (kt_X7_first q) :=
  (simk_run hcs 11 [24]
    (simt_bind fun o1 =>
      (simt_ite
        (simt_loop hcs (.s _ (.s _ (.s _ (.s _ (.s _ (.n _ .nil)))))) (pfX7_first_b24_l q hcs a0 a1 ((-1), 61, 0) o1.2) (fun o3 => 
          (simk_run hcs 3 []
            (simt_ret (some (some (aI o3.1), (ST0 q, o3.2))) (fun _ => rfl))
          (fun _ => rfl))))
        (simt_bind fun o4 =>
          (simt_ret (some (some (aI o4.1), (ST0 q, o4.2))) (fun _ => rfl)))))
  (fun _ => rfl))
noncomputable def kt_X7_next_ (q : Nat) : Int32 × MM → Nat → Option Out := fun x _ => some (some (aI x.1), (ST0 q, x.2))
theorem pfX7_next_ (q : Nat) (hcs : CSm (csF q)) (a0 : Nat) (a1 : Int32) (a2 : Int32) (a3 : Int32) (m : MM) : SimK (fX7_next__b a0 a1 a2 a3 m) (fun n => brun false (0, 0) (csF q) (lkb tX7_next_) n 0 (entL 4 [aR 7 a0, aI a1, aI a2, aI a3]) [] (ST0 q, m)) (kt_X7_next_ q) :=
  (simk_run hcs 30 []
    (simt_bind fun o1 =>
      (simt_ite
        (simt_bind fun o2 =>
          (simt_ret (some (some (aI o2.1), (ST0 q, o2.2))) (fun _ => rfl)))
        (simt_bind fun o3 =>
          (simt_ite
            (simt_bind fun o4 =>
              (simt_bind fun o5 =>
                (simt_bif
                  (simt_ite
                    (simt_ret (some (some (aI (-1)), (ST0 q, o5.2))) (fun _ => rfl))
                    (simt_bif
                      (simt_ret (some (some (aI (o5.2.1 54 0 (8 : Int32).toNatClampNeg)), (ST0 q, o5.2))) (fun _ => rfl)))))))
            (simt_bind fun o6 =>
              (simt_ret (some (some (aI o6.1), (ST0 q, o6.2))) (fun _ => rfl)))))))
  (fun _ => rfl))
noncomputable def kt_X7_stays (q : Nat) : Int32 × MM → Nat → Option Out := fun x _ => some (some (aI x.1), (ST0 q, x.2))
noncomputable def hfX7_stays_b21 (q : Nat) (a0 : Nat) (a1 : Int32) (a2 : Int32) (s : Int32 × Int32) (m : MM) (n : Nat) : Option Out := brun false (0, 0) (csF q) (lkb tX7_stays) n 21 [some (aR 7 a0), some (aI a1), some (aI a2), some (aI s.1), some (aI s.2)] [] (ST0 q, m)
noncomputable def kxfX7_stays_b21 (q : Nat) (a0 : Nat) (a1 : Int32) (a2 : Int32) (y : (Int32) × MM) (n : Nat) : Option Out := brun false (0, 0) (csF q) (lkb tX7_stays) n 72 [none, none, none, some (aI y.1), none] [] (ST0 q, y.2)
theorem pfX7_stays_b21 (q : Nat) (hcs : CSm (csF q)) (a0 : Nat) (a1 : Int32) (a2 : Int32) (s : Int32 × Int32) (m : MM) : SimK (fX7_stays_b21 a0 a1 a2 s m) (hfX7_stays_b21 q a0 a1 a2 s m) (lpK (hfX7_stays_b21 q a0 a1 a2) (kxfX7_stays_b21 q a0 a1 a2)) :=
  (simk_run hcs 29 [21, 72]
    (simt_ite
      (simt_go hcs (.n _ (.n _ (.n _ (.s _ (.n _ .nil))))) (fun _ => rfl))
      (simt_bind fun o2 =>
        (simt_bind fun o3 =>
          (simt_bif
            (simt_ite
              (simt_go hcs (.s _ (.s _ (.s _ (.s _ (.s _ .nil))))) (fun _ => rfl))
              (simt_go hcs (.s _ (.s _ (.s _ (.s _ (.s _ .nil))))) (fun _ => rfl)))))))
  (fun _ => rfl))
theorem pfX7_stays_b21_l (q : Nat) (hcs : CSm (csF q)) (a0 : Nat) (a1 : Int32) (a2 : Int32) (s : Int32 × Int32) (m : MM) : SimK (loopF 1000 (fX7_stays_b21 a0 a1 a2) s m) (hfX7_stays_b21 q a0 a1 a2 s m) (kxfX7_stays_b21 q a0 a1 a2) :=
  simk_loopF (fun s m => pfX7_stays_b21 q hcs a0 a1 a2 s m) 1000 s m
theorem pfX7_stays (q : Nat) (hcs : CSm (csF q)) (a0 : Nat) (a1 : Int32) (a2 : Int32) (m : MM) : SimK (fX7_stays_b a0 a1 a2 m) (fun n => brun false (0, 0) (csF q) (lkb tX7_stays) n 0 (entL 5 [aR 7 a0, aI a1, aI a2]) [] (ST0 q, m)) (kt_X7_stays q) :=
  (simk_run hcs 9 [21]
    (simt_bind fun o1 =>
      (simt_ite
        (simt_loop hcs (.s _ (.s _ (.s _ (.s _ (.s _ .nil))))) (pfX7_stays_b21_l q hcs a0 a1 a2 (0, 0) o1.2) (fun o4 => 
          (simk_run hcs 3 []
            (simt_ret (some (some (aI o4.1), (ST0 q, o4.2))) (fun _ => rfl))
          (fun _ => rfl))))
        (simt_bind fun o5 =>
          (simt_ret (some (some (aI o5.1), (ST0 q, o5.2))) (fun _ => rfl)))))
  (fun _ => rfl))
noncomputable def kt_X7_ofKind (q : Nat) : Int32 × MM → Nat → Option Out := fun x _ => some (some (aI x.1), (ST0 q, x.2))
noncomputable def hfX7_ofKind_b21 (q : Nat) (a0 : Nat) (a1 : Int32) (s : Int32 × Int32) (m : MM) (n : Nat) : Option Out := brun false (0, 0) (csF q) (lkb tX7_ofKind) n 21 [some (aR 7 a0), some (aI a1), some (aI s.1), some (aI s.2)] [] (ST0 q, m)
noncomputable def kxfX7_ofKind_b21 (q : Nat) (a0 : Nat) (a1 : Int32) (y : (Int32) × MM) (n : Nat) : Option Out := brun false (0, 0) (csF q) (lkb tX7_ofKind) n 48 [none, none, some (aI y.1), none] [] (ST0 q, y.2)
theorem pfX7_ofKind_b21 (q : Nat) (hcs : CSm (csF q)) (a0 : Nat) (a1 : Int32) (s : Int32 × Int32) (m : MM) : SimK (fX7_ofKind_b21 a0 a1 s m) (hfX7_ofKind_b21 q a0 a1 s m) (lpK (hfX7_ofKind_b21 q a0 a1) (kxfX7_ofKind_b21 q a0 a1)) :=
  (simk_run hcs 14 [21, 48]
    (simt_ite
      (simt_go hcs (.n _ (.n _ (.s _ (.n _ .nil)))) (fun _ => rfl))
      (simt_bif
        (simt_ite
          (simt_go hcs (.s _ (.s _ (.s _ (.s _ .nil)))) (fun _ => rfl))
          (simt_go hcs (.s _ (.s _ (.s _ (.s _ .nil)))) (fun _ => rfl)))))
  (fun _ => rfl))
theorem pfX7_ofKind_b21_l (q : Nat) (hcs : CSm (csF q)) (a0 : Nat) (a1 : Int32) (s : Int32 × Int32) (m : MM) : SimK (loopF 1000 (fX7_ofKind_b21 a0 a1) s m) (hfX7_ofKind_b21 q a0 a1 s m) (kxfX7_ofKind_b21 q a0 a1) :=
  simk_loopF (fun s m => pfX7_ofKind_b21 q hcs a0 a1 s m) 1000 s m
theorem pfX7_ofKind (q : Nat) (hcs : CSm (csF q)) (a0 : Nat) (a1 : Int32) (m : MM) : SimK (fX7_ofKind_b a0 a1 m) (fun n => brun false (0, 0) (csF q) (lkb tX7_ofKind) n 0 (entL 4 [aR 7 a0, aI a1]) [] (ST0 q, m)) (kt_X7_ofKind q) :=
  (simk_run hcs 10 [21]
    (simt_bind fun o1 =>
      (simt_ite
        (simt_loop hcs (.s _ (.s _ (.s _ (.s _ .nil)))) (pfX7_ofKind_b21_l q hcs a0 a1 (0, 0) o1.2) (fun o2 => 
          (simk_run hcs 3 []
            (simt_ret (some (some (aI o2.1), (ST0 q, o2.2))) (fun _ => rfl))
          (fun _ => rfl))))
        (simt_bind fun o3 =>
          (simt_ret (some (some (aI o3.1), (ST0 q, o3.2))) (fun _ => rfl)))))
  (fun _ => rfl))
noncomputable def kt_X7_judge (q : Nat) : Int32 × MM → Nat → Option Out := fun x _ => some (some (aI x.1), (ST0 q, x.2))
noncomputable def hfX7_judge_b67 (q : Nat) (a0 : Nat) (a1 : Int32) (a2 : Int32) (a3 : Int32) (s : Int32 × Int32) (m : MM) (n : Nat) : Option Out := brun false (0, 0) (csF q) (lkb tX7_judge) n 67 [some (aR 7 a0), some (aI a1), some (aI a2), some (aI a3), none, some (aI s.1), some (aI s.2)] [] (ST0 q, m)
noncomputable def kxfX7_judge_b67 (q : Nat) (a0 : Nat) (a1 : Int32) (a2 : Int32) (a3 : Int32) (y : (Int32) × MM) (n : Nat) : Option Out := brun false (0, 0) (csF q) (lkb tX7_judge) n 116 [some (aR 7 a0), none, none, none, none, some (aI y.1), none] [] (ST0 q, y.2)
theorem pfX7_judge_b67 (q : Nat) (hcs : CSm (csF q)) (a0 : Nat) (a1 : Int32) (a2 : Int32) (a3 : Int32) (s : Int32 × Int32) (m : MM) : SimK (fX7_judge_b67 a0 a1 a2 a3 s m) (hfX7_judge_b67 q a0 a1 a2 a3 s m) (lpK (hfX7_judge_b67 q a0 a1 a2 a3) (kxfX7_judge_b67 q a0 a1 a2 a3)) :=
  (simk_run hcs 27 [67, 116]
    (simt_ite
      (simt_go hcs (.s _ (.n _ (.n _ (.n _ (.n _ (.s _ (.n _ .nil))))))) (fun _ => rfl))
      (simt_ite
        (simt_go hcs (.s _ (.n _ (.n _ (.n _ (.n _ (.s _ (.n _ .nil))))))) (fun _ => rfl))
        (simt_bind fun o8 =>
          (simt_bif
            (simt_bind fun o9 =>
              (simt_ite
                (simt_go hcs (.s _ (.s _ (.s _ (.s _ (.n _ (.s _ (.s _ .nil))))))) (fun _ => rfl))
                (simt_go hcs (.s _ (.s _ (.s _ (.s _ (.n _ (.s _ (.s _ .nil))))))) (fun _ => rfl))))))))
  (fun _ => rfl))
theorem pfX7_judge_b67_l (q : Nat) (hcs : CSm (csF q)) (a0 : Nat) (a1 : Int32) (a2 : Int32) (a3 : Int32) (s : Int32 × Int32) (m : MM) : SimK (loopF 1000 (fX7_judge_b67 a0 a1 a2 a3) s m) (hfX7_judge_b67 q a0 a1 a2 a3 s m) (kxfX7_judge_b67 q a0 a1 a2 a3) :=
  simk_loopF (fun s m => pfX7_judge_b67 q hcs a0 a1 a2 a3 s m) 1000 s m
theorem pfX7_judge (q : Nat) (hcs : CSm (csF q)) (a0 : Nat) (a1 : Int32) (a2 : Int32) (a3 : Int32) (m : MM) : SimK (fX7_judge_b a0 a1 a2 a3 m) (fun n => brun false (0, 0) (csF q) (lkb tX7_judge) n 0 (entL 7 [aR 7 a0, aI a1, aI a2, aI a3]) [] (ST0 q, m)) (kt_X7_judge q) :=
  (simk_run hcs 28 [67]
    (simt_bind fun o1 =>
      (simt_ite
        (simt_bind fun o2 =>
          (simt_ret (some (some (aI o2.1), (ST0 q, o2.2))) (fun _ => rfl)))
        (simt_bind fun o3 =>
          (simt_ite
            (simt_bind fun o4 =>
              (simt_ret (some (some (aI o4.1), (ST0 q, o4.2))) (fun _ => rfl)))
            (simt_bind fun o5 =>
              (simt_ite
                (simt_bind fun o6 =>
                  (simt_ite
                    (simt_bind fun o7 =>
                      (simt_loop hcs (.s _ (.s _ (.s _ (.s _ (.n _ (.s _ (.s _ .nil))))))) (pfX7_judge_b67_l q hcs a0 a1 a2 a3 ((-1), 0) o7.2) (fun o10 => 
                        (simk_run hcs 7 []
                          (simt_bind fun o11 =>
                            (simt_ret (some (some (aI o10.1), (ST0 q, o11.2))) (fun _ => rfl)))
                        (fun _ => rfl)))))
                    (simt_bind fun o12 =>
                      (simt_ret (some (some (aI o12.1), (ST0 q, o12.2))) (fun _ => rfl)))))
                (simt_bind fun o13 =>
                  (simt_ret (some (some (aI o13.1), (ST0 q, o13.2))) (fun _ => rfl)))))))))
  (fun _ => rfl))
noncomputable def kt_X7_days (q : Nat) : Int32 × MM → Nat → Option Out := fun x _ => some (some (aI x.1), (ST0 q, x.2))
theorem pfX7_days (q : Nat) (hcs : CSm (csF q)) (a0 : Nat) (a1 : Int32) (m : MM) : SimK (fX7_days_b a0 a1 m) (fun n => brun false (0, 0) (csF q) (lkb tX7_days) n 0 (entL 2 [aR 7 a0, aI a1]) [] (ST0 q, m)) (kt_X7_days q) :=
  (simk_run hcs 17 []
    (simt_bind fun o1 =>
      (simt_ite
        (simt_bind fun o2 =>
          (simt_ret (some (some (aI ((upI o2.2.1 7 a0 3 ((o1.2.1 7 a0 3) + o2.1)) 7 a0 3)), (ST0 q, ((upI o2.2.1 7 a0 3 ((o1.2.1 7 a0 3) + o2.1)), o2.2.2)))) (fun _ => rfl)))
        (simt_bind fun o3 =>
          (simt_ret (some (some (aI o3.1), (ST0 q, o3.2))) (fun _ => rfl)))))
  (fun _ => rfl))
noncomputable def kt_X7_draw (q : Nat) : Int32 × MM → Nat → Option Out := fun x _ => some (some (aI x.1), (ST0 q, x.2))
theorem pfX7_draw (q : Nat) (hcs : CSm (csF q)) (a0 : Nat) (a1 : Int32) (m : MM) : SimK (fX7_draw_b a0 a1 m) (fun n => brun false (0, 0) (csF q) (lkb tX7_draw) n 0 (entL 2 [aR 7 a0, aI a1]) [] (ST0 q, m)) (kt_X7_draw q) :=
  (simk_run hcs 16 []
    (simt_ite
      simt_none
      (simt_ret (some (some (aI ((usr ((upI m.1 7 a0 12 (((m.1 7 a0 12) * 1103515245) + 12345)) 7 a0 12) 16) - (usr ((upI m.1 7 a0 12 (((m.1 7 a0 12) * 1103515245) + 12345)) 7 a0 12) 16) / a1 * a1)), (ST0 q, ((upI m.1 7 a0 12 (((m.1 7 a0 12) * 1103515245) + 12345)), m.2)))) (fun _ => rfl)))
  (fun _ => rfl))
noncomputable def kt_X7_drawn (q : Nat) : Int32 × MM → Nat → Option Out := fun x _ => some (some (aI x.1), (ST0 q, x.2))
noncomputable def hfX7_drawn_b37 (q : Nat) (a0 : Nat) (a1 : Int32) (s : Int32 × Int32) (m : MM) (n : Nat) : Option Out := brun false (0, 0) (csF q) (lkb tX7_drawn) n 37 [some (aR 7 a0), some (aI a1), some (aI s.1), some (aI s.2), none, none] [] (ST0 q, m)
noncomputable def kxfX7_drawn_b37 (q : Nat) (a0 : Nat) (a1 : Int32) (y : (Int32) × MM) (n : Nat) : Option Out := brun false (0, 0) (csF q) (lkb tX7_drawn) n 129 [some (aR 7 a0), none, some (aI y.1), none, none, none] [] (ST0 q, y.2)
theorem pfX7_drawn_b37 (q : Nat) (hcs : CSm (csF q)) (a0 : Nat) (a1 : Int32) (s : Int32 × Int32) (m : MM) : SimK (fX7_drawn_b37 a0 a1 s m) (hfX7_drawn_b37 q a0 a1 s m) (lpK (hfX7_drawn_b37 q a0 a1) (kxfX7_drawn_b37 q a0 a1)) :=
  (simk_run hcs 51 [37, 129]
    (simt_ite
      (simt_go hcs (.s _ (.n _ (.s _ (.n _ (.n _ (.n _ .nil)))))) (fun _ => rfl))
      (simt_bind fun o2 =>
        (simt_bif
          (simt_bind fun o3 =>
            (simt_bind fun o4 =>
              (simt_bif
                (simt_ite
                  (simt_bind fun o5 =>
                    (simt_go hcs (.s _ (.s _ (.s _ (.s _ (.n _ (.n _ .nil)))))) (fun _ => rfl)))
                  (simt_bif
                    (simt_bif
                      (simt_bif
                        (simt_bind fun o6 =>
                          (simt_bind fun o7 =>
                            (simt_go hcs (.s _ (.s _ (.s _ (.s _ (.n _ (.n _ .nil)))))) (fun _ => rfl))))))))))))))
  (fun _ => rfl))
theorem pfX7_drawn_b37_l (q : Nat) (hcs : CSm (csF q)) (a0 : Nat) (a1 : Int32) (s : Int32 × Int32) (m : MM) : SimK (loopF 1000 (fX7_drawn_b37 a0 a1) s m) (hfX7_drawn_b37 q a0 a1 s m) (kxfX7_drawn_b37 q a0 a1) :=
  simk_loopF (fun s m => pfX7_drawn_b37 q hcs a0 a1 s m) 1000 s m
theorem pfX7_drawn (q : Nat) (hcs : CSm (csF q)) (a0 : Nat) (a1 : Int32) (m : MM) : SimK (fX7_drawn_b a0 a1 m) (fun n => brun false (0, 0) (csF q) (lkb tX7_drawn) n 0 (entL 6 [aR 7 a0, aI a1]) [] (ST0 q, m)) (kt_X7_drawn q) :=
  (simk_run hcs 13 [37]
    (simt_bind fun o1 =>
      (simt_ite
        (simt_ite
          (simt_loop hcs (.s _ (.s _ (.s _ (.s _ (.n _ (.n _ .nil)))))) (pfX7_drawn_b37_l q hcs a0 a1 (0, 0) o1.2) (fun o8 => 
            (simk_run hcs 9 []
              (simt_ret (some (some (aI o8.1), (ST0 q, ((upI o8.2.1 7 a0 3 ((o8.2.1 7 a0 3) + o8.1)), o8.2.2)))) (fun _ => rfl))
            (fun _ => rfl))))
          (simt_bind fun o9 =>
            (simt_ret (some (some (aI o9.1), (ST0 q, o9.2))) (fun _ => rfl))))
        (simt_bind fun o10 =>
          (simt_ret (some (some (aI o10.1), (ST0 q, o10.2))) (fun _ => rfl)))))
  (fun _ => rfl))
noncomputable def kt_X7_seed (q : Nat) : Int32 × MM → Nat → Option Out := fun x _ => some (some (aI x.1), (ST0 q, x.2))
theorem pfX7_seed (q : Nat) (hcs : CSm (csF q)) (a0 : Nat) (a1 : Int32) (m : MM) : SimK (fX7_seed_b a0 a1 m) (fun n => brun false (0, 0) (csF q) (lkb tX7_seed) n 0 (entL 3 [aR 7 a0, aI a1]) [] (ST0 q, m)) (kt_X7_seed q) :=
  (simk_run hcs 9 []
    (simt_ret (some (some (aI (m.1 7 a0 12)), (ST0 q, ((upI m.1 7 a0 12 a1), m.2)))) (fun _ => rfl))
  (fun _ => rfl))
noncomputable def kt_X7_image (q : Nat) : Int32 × MM → Nat → Option Out := fun x _ => some (some (aI x.1), (ST0 q, x.2))
theorem pfX7_image (q : Nat) (hcs : CSm (csF q)) (a0 : Nat) (m : MM) : SimK (fX7_image_b a0 m) (fun n => brun false (0, 0) (csF q) (lkb tX7_image) n 0 (entL 1 [aR 7 a0]) [] (ST0 q, m)) (kt_X7_image q) :=
  (simk_run hcs 10 []
    (simt_bind fun o1 =>
      (simt_ret (some (some (aI 1), (ST0 q, o1.2))) (fun _ => rfl)))
  (fun _ => rfl))
noncomputable def kt_X7_back (q : Nat) : Int32 × MM → Nat → Option Out := fun x _ => some (some (aI x.1), (ST0 q, x.2))
noncomputable def hfX7_back_b25 (q : Nat) (a0 : Nat) (s : Int32) (m : MM) (n : Nat) : Option Out := brun false (0, 0) (csF q) (lkb tX7_back) n 25 [some (aR 7 a0), some (aI s)] [] (ST0 q, m)
noncomputable def kxfX7_back_b25 (q : Nat) (a0 : Nat) (y : (Unit) × MM) (n : Nat) : Option Out := brun false (0, 0) (csF q) (lkb tX7_back) n 60 [none, none] [] (ST0 q, y.2)
theorem pfX7_back_b25 (q : Nat) (hcs : CSm (csF q)) (a0 : Nat) (s : Int32) (m : MM) : SimK (fX7_back_b25 a0 s m) (hfX7_back_b25 q a0 s m) (lpK (hfX7_back_b25 q a0) (kxfX7_back_b25 q a0)) :=
  (simk_run hcs 20 [25, 60]
    (simt_ite
      (simt_go hcs (.n _ (.n _ .nil)) (fun _ => rfl))
      (simt_bif
        (simt_ite
          (simt_go hcs (.s _ (.s _ .nil)) (fun _ => rfl))
          (simt_bif
            (simt_go hcs (.s _ (.s _ .nil)) (fun _ => rfl))))))
  (fun _ => rfl))
theorem pfX7_back_b25_l (q : Nat) (hcs : CSm (csF q)) (a0 : Nat) (s : Int32) (m : MM) : SimK (loopF 1000 (fX7_back_b25 a0) s m) (hfX7_back_b25 q a0 s m) (kxfX7_back_b25 q a0) :=
  simk_loopF (fun s m => pfX7_back_b25 q hcs a0 s m) 1000 s m
theorem pfX7_back (q : Nat) (hcs : CSm (csF q)) (a0 : Nat) (m : MM) : SimK (fX7_back_b a0 m) (fun n => brun false (0, 0) (csF q) (lkb tX7_back) n 0 (entL 2 [aR 7 a0]) [] (ST0 q, m)) (kt_X7_back q) :=
  (simk_run hcs 10 [25]
    (simt_ite
      (simt_bind fun o1 =>
        (simt_loop hcs (.s _ (.s _ .nil)) (pfX7_back_b25_l q hcs a0 0 o1.2) (fun o2 => 
          (simk_run hcs 3 []
            (simt_ret (some (some (aI 1), (ST0 q, o2.2))) (fun _ => rfl))
          (fun _ => rfl)))))
      (simt_bind fun o3 =>
        (simt_ret (some (some (aI o3.1), (ST0 q, o3.2))) (fun _ => rfl))))
  (fun _ => rfl))
noncomputable def kt_X7_status (q : Nat) : Int32 × MM → Nat → Option Out := fun x _ => some (some (aI x.1), (ST0 q, x.2))
noncomputable def hfX7_status_b106 (q : Nat) (a0 : Nat) (s : Int32 × Int32) (m : MM) (n : Nat) : Option Out := brun false (0, 0) (csF q) (lkb tX7_status) n 106 [some (aR 7 a0), none, some (aI s.1), some (aI s.2)] [] (ST0 q, m)
noncomputable def kxfX7_status_b106 (q : Nat) (a0 : Nat) (y : (Int32) × MM) (n : Nat) : Option Out := brun false (0, 0) (csF q) (lkb tX7_status) n 131 [none, none, some (aI y.1), none] [] (ST0 q, y.2)
theorem pfX7_status_b106 (q : Nat) (hcs : CSm (csF q)) (a0 : Nat) (s : Int32 × Int32) (m : MM) : SimK (fX7_status_b106 a0 s m) (hfX7_status_b106 q a0 s m) (lpK (hfX7_status_b106 q a0) (kxfX7_status_b106 q a0)) :=
  (simk_run hcs 13 [106, 131]
    (simt_ite
      (simt_go hcs (.n _ (.n _ (.s _ (.n _ .nil)))) (fun _ => rfl))
      (simt_bif
        (simt_ite
          (simt_go hcs (.s _ (.n _ (.s _ (.s _ .nil)))) (fun _ => rfl))
          (simt_go hcs (.s _ (.n _ (.s _ (.s _ .nil)))) (fun _ => rfl)))))
  (fun _ => rfl))
theorem pfX7_status_b106_l (q : Nat) (hcs : CSm (csF q)) (a0 : Nat) (s : Int32 × Int32) (m : MM) : SimK (loopF 1000 (fX7_status_b106 a0) s m) (hfX7_status_b106 q a0 s m) (kxfX7_status_b106 q a0) :=
  simk_loopF (fun s m => pfX7_status_b106 q hcs a0 s m) 1000 s m
theorem pfX7_status (q : Nat) (hcs : CSm (csF q)) (a0 : Nat) (a1 : Int32) (m : MM) : SimK (fX7_status_b a0 a1 m) (fun n => brun false (0, 0) (csF q) (lkb tX7_status) n 0 (entL 4 [aR 7 a0, aI a1]) [] (ST0 q, m)) (kt_X7_status q) :=
  (simk_run hcs 18 [106]
    (simt_ite
      (simt_ret (some (some (aI (m.1 7 a0 4)), (ST0 q, m))) (fun _ => rfl))
      (simt_ite
        (simt_ret (some (some (aI (m.1 7 a0 10)), (ST0 q, m))) (fun _ => rfl))
        (simt_ite
          (simt_ret (some (some (aI (m.1 7 a0 0)), (ST0 q, m))) (fun _ => rfl))
          (simt_ite
            (simt_bif
              (simt_ret (some (some (aI (m.1 51 0 (a1 - 3).toNatClampNeg)), (ST0 q, m))) (fun _ => rfl)))
            (simt_ite
              (simt_bif
                (simt_ret (some (some (aI (m.1 51 0 (a1 - 3).toNatClampNeg)), (ST0 q, m))) (fun _ => rfl)))
              (simt_ite
                (simt_ret (some (some (aI (m.1 7 a0 3)), (ST0 q, m))) (fun _ => rfl))
                (simt_ite
                  (simt_bind fun o3 =>
                    (simt_bind fun o4 =>
                      (simt_ret (some (some (aI o4.1), (ST0 q, o4.2))) (fun _ => rfl))))
                  (simt_ite
                    (simt_ret (some (some (aI (m.1 7 a0 13)), (ST0 q, m))) (fun _ => rfl))
                    (simt_ite
                      (simt_ret (some (some (aI (m.1 7 a0 12)), (ST0 q, m))) (fun _ => rfl))
                      (simt_ite
                        (simt_loop hcs (.s _ (.n _ (.s _ (.s _ .nil)))) (pfX7_status_b106_l q hcs a0 (0, 0) m) (fun o2 => 
                          (simk_run hcs 3 []
                            (simt_ret (some (some (aI o2.1), (ST0 q, o2.2))) (fun _ => rfl))
                          (fun _ => rfl))))
                        (simt_bind fun o1 =>
                          (simt_ite
                            (simt_ret (some (some (aI (-1)), (ST0 q, o1.2))) (fun _ => rfl))
                            (simt_bif
                              (simt_ret (some (some (aI (o1.2.1 61 0 (a1 - 10).toNatClampNeg)), (ST0 q, o1.2))) (fun _ => rfl)))))))))))))))
  (fun _ => rfl))
