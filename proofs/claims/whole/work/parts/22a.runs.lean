/-! THE FUNCTIONS ARE THE RUNS, 0 -/
set_option maxRecDepth 20000
set_option maxHeartbeats 4000000
noncomputable def kt_X0_start (q : Nat) : Unit × MM → Nat → Option Out := fun x _ => some (none, (ST0 q, x.2))
theorem pfX0_start (q : Nat) (hcs : CSm (csF q)) (a0 : Nat) (a1 : Int32) (a2 : Int32) (a3 : Int32) (a4 : Int32) (m : MM) : SimK (fX0_start_b a0 a1 a2 a3 a4 m) (fun n => brun false (0, 0) (csF q) (lkb tX0_start) n 0 (entL 5 [aR 0 a0, aI a1, aI a2, aI a3, aI a4]) [] (ST0 q, m)) (kt_X0_start q) :=
  (simk_run hcs 17 []
    (simt_ret (some (none, (ST0 q, ((upI (upI (upI (upI (upI m.1 0 a0 0 a1) 0 a0 1 a2) 0 a0 2 a3) 0 a0 3 a4) 0 a0 4 0), m.2)))) (fun _ => rfl))
  (fun _ => rfl))
noncomputable def kt_X0_become (q : Nat) : Unit × MM → Nat → Option Out := fun x _ => some (none, (ST0 q, x.2))
theorem pfX0_become (q : Nat) (hcs : CSm (csF q)) (a0 : Nat) (a1 : Nat) (m : MM) : SimK (fX0_become_b a0 a1 m) (fun n => brun false (0, 0) (csF q) (lkb tX0_become) n 0 (entL 2 [aR 0 a0, aR 0 a1]) [] (ST0 q, m)) (kt_X0_become q) :=
  (simk_run hcs 22 []
    (simt_ret (some (none, (ST0 q, ((upI (upI (upI (upI (upI m.1 0 a0 0 (m.1 0 a1 0)) 0 a0 1 ((upI m.1 0 a0 0 (m.1 0 a1 0)) 0 a1 1)) 0 a0 2 ((upI (upI m.1 0 a0 0 (m.1 0 a1 0)) 0 a0 1 ((upI m.1 0 a0 0 (m.1 0 a1 0)) 0 a1 1)) 0 a1 2)) 0 a0 3 ((upI (upI (upI m.1 0 a0 0 (m.1 0 a1 0)) 0 a0 1 ((upI m.1 0 a0 0 (m.1 0 a1 0)) 0 a1 1)) 0 a0 2 ((upI (upI m.1 0 a0 0 (m.1 0 a1 0)) 0 a0 1 ((upI m.1 0 a0 0 (m.1 0 a1 0)) 0 a1 1)) 0 a1 2)) 0 a1 3)) 0 a0 4 ((upI (upI (upI (upI m.1 0 a0 0 (m.1 0 a1 0)) 0 a0 1 ((upI m.1 0 a0 0 (m.1 0 a1 0)) 0 a1 1)) 0 a0 2 ((upI (upI m.1 0 a0 0 (m.1 0 a1 0)) 0 a0 1 ((upI m.1 0 a0 0 (m.1 0 a1 0)) 0 a1 1)) 0 a1 2)) 0 a0 3 ((upI (upI (upI m.1 0 a0 0 (m.1 0 a1 0)) 0 a0 1 ((upI m.1 0 a0 0 (m.1 0 a1 0)) 0 a1 1)) 0 a0 2 ((upI (upI m.1 0 a0 0 (m.1 0 a1 0)) 0 a0 1 ((upI m.1 0 a0 0 (m.1 0 a1 0)) 0 a1 1)) 0 a1 2)) 0 a1 3)) 0 a1 4)), m.2)))) (fun _ => rfl))
  (fun _ => rfl))
noncomputable def kt_X6_toughnessOf (q : Nat) : Int32 × MM → Nat → Option Out := fun x _ => some (some (aI x.1), (ST0 q, x.2))
theorem pfX6_toughnessOf (q : Nat) (hcs : CSm (csF q)) (a0 : Int32) (a1 : Int32) (m : MM) : SimK (fX6_toughnessOf_b a0 a1 m) (fun n => brun false (0, 0) (csF q) (lkb tX6_toughnessOf) n 0 (entL 2 [aI a0, aI a1]) [] (ST0 q, m)) (kt_X6_toughnessOf q) :=
  (simk_run hcs 9 []
    (simt_ite
      (simt_ret (some (some (aI 5), (ST0 q, m))) (fun _ => rfl))
      (simt_ite
        (simt_ret (some (some (aI 4), (ST0 q, m))) (fun _ => rfl))
        (simt_ite
          (simt_ret (some (some (aI 5), (ST0 q, m))) (fun _ => rfl))
          (simt_ite
            (simt_ret (some (some (aI (4 + (a1 / 3))), (ST0 q, m))) (fun _ => rfl))
            (simt_ite
              (simt_ret (some (some (aI 99), (ST0 q, m))) (fun _ => rfl))
              (simt_ret (some (some (aI 3), (ST0 q, m))) (fun _ => rfl)))))))
  (fun _ => rfl))
noncomputable def kt_X0_tellOf (q : Nat) : Int32 × MM → Nat → Option Out := fun x _ => some (some (aI x.1), (ST0 q, x.2))
theorem pfX0_tellOf (q : Nat) (hcs : CSm (csF q)) (a0 : Nat) (a1 : Int32) (m : MM) : SimK (fX0_tellOf_b a0 a1 m) (fun n => brun false (0, 0) (csF q) (lkb tX0_tellOf) n 0 (entL 2 [aR 0 a0, aI a1]) [] (ST0 q, m)) (kt_X0_tellOf q) :=
  (simk_run hcs 9 []
    (simt_ite
      (simt_ret (some (some (aI (m.1 0 a0 0)), (ST0 q, m))) (fun _ => rfl))
      (simt_ite
        (simt_ret (some (some (aI (m.1 0 a0 1)), (ST0 q, m))) (fun _ => rfl))
        (simt_ite
          (simt_ret (some (some (aI (m.1 0 a0 2)), (ST0 q, m))) (fun _ => rfl))
          (simt_ite
            (simt_ret (some (some (aI (m.1 0 a0 3)), (ST0 q, m))) (fun _ => rfl))
            (simt_ite
              (simt_ret (some (some (aI (m.1 0 a0 4)), (ST0 q, m))) (fun _ => rfl))
              (simt_bind fun o1 =>
                (simt_ret (some (some (aI o1.1), (ST0 q, o1.2))) (fun _ => rfl))))))))
  (fun _ => rfl))
noncomputable def kt_X1_isEmpty (q : Nat) : Bool × MM → Nat → Option Out := fun x _ => some (some (aI (bI x.1)), (ST0 q, x.2))
theorem pfX1_isEmpty (q : Nat) (hcs : CSm (csF q)) (a0 : Nat) (m : MM) : SimK (fX1_isEmpty_b a0 m) (fun n => brun false (0, 0) (csF q) (lkb tX1_isEmpty) n 0 (entL 1 [aR 1 a0]) [] (ST0 q, m)) (kt_X1_isEmpty q) :=
  (simk_run hcs 8 []
    (simt_ite
      (simt_ret (some (some (aI 0), (ST0 q, m))) (fun _ => rfl))
      (simt_ret (some (some (aI 1), (ST0 q, m))) (fun _ => rfl)))
  (fun _ => rfl))
noncomputable def kt_X1_isRow (q : Nat) : Bool × MM → Nat → Option Out := fun x _ => some (some (aI (bI x.1)), (ST0 q, x.2))
theorem pfX1_isRow (q : Nat) (hcs : CSm (csF q)) (a0 : Nat) (m : MM) : SimK (fX1_isRow_b a0 m) (fun n => brun false (0, 0) (csF q) (lkb tX1_isRow) n 0 (entL 1 [aR 1 a0]) [] (ST0 q, m)) (kt_X1_isRow q) :=
  (simk_run hcs 11 []
    (simt_ite
      (simt_ret (some (some (aI 0), (ST0 q, m))) (fun _ => rfl))
      (simt_ite
        (simt_ret (some (some (aI 0), (ST0 q, m))) (fun _ => rfl))
        (simt_ret (some (some (aI 1), (ST0 q, m))) (fun _ => rfl))))
  (fun _ => rfl))
noncomputable def kt_X1_isBottle (q : Nat) : Bool × MM → Nat → Option Out := fun x _ => some (some (aI (bI x.1)), (ST0 q, x.2))
theorem pfX1_isBottle (q : Nat) (hcs : CSm (csF q)) (a0 : Nat) (m : MM) : SimK (fX1_isBottle_b a0 m) (fun n => brun false (0, 0) (csF q) (lkb tX1_isBottle) n 0 (entL 1 [aR 1 a0]) [] (ST0 q, m)) (kt_X1_isBottle q) :=
  (simk_run hcs 8 []
    (simt_ite
      (simt_ret (some (some (aI 0), (ST0 q, m))) (fun _ => rfl))
      (simt_ret (some (some (aI 1), (ST0 q, m))) (fun _ => rfl)))
  (fun _ => rfl))
noncomputable def kt_X1_whyNoRow (q : Nat) : Int32 × MM → Nat → Option Out := fun x _ => some (some (aI x.1), (ST0 q, x.2))
theorem pfX1_whyNoRow (q : Nat) (hcs : CSm (csF q)) (a0 : Nat) (m : MM) : SimK (fX1_whyNoRow_b a0 m) (fun n => brun false (0, 0) (csF q) (lkb tX1_whyNoRow) n 0 (entL 1 [aR 1 a0]) [] (ST0 q, m)) (kt_X1_whyNoRow q) :=
  (simk_run hcs 7 []
    (simt_bind fun o1 =>
      (simt_ite
        (simt_ret (some (some (aI (-1004)), (ST0 q, o1.2))) (fun _ => rfl))
        (simt_ret (some (some (aI (-1003)), (ST0 q, o1.2))) (fun _ => rfl))))
  (fun _ => rfl))
noncomputable def kt_X1_hasPlace (q : Nat) : Bool × MM → Nat → Option Out := fun x _ => some (some (aI (bI x.1)), (ST0 q, x.2))
theorem pfX1_hasPlace (q : Nat) (hcs : CSm (csF q)) (a0 : Nat) (a1 : Int32) (m : MM) : SimK (fX1_hasPlace_b a0 a1 m) (fun n => brun false (0, 0) (csF q) (lkb tX1_hasPlace) n 0 (entL 2 [aR 1 a0, aI a1]) [] (ST0 q, m)) (kt_X1_hasPlace q) :=
  (simk_run hcs 15 []
    (simt_ite
      (simt_ret (some (some (aI 0), (ST0 q, m))) (fun _ => rfl))
      (simt_ite
        (simt_ret (some (some (aI 0), (ST0 q, m))) (fun _ => rfl))
        (simt_ite
          (simt_ret (some (some (aI 0), (ST0 q, m))) (fun _ => rfl))
          (simt_ret (some (some (aI 1), (ST0 q, m))) (fun _ => rfl)))))
  (fun _ => rfl))
noncomputable def kt_X1_hasSpan (q : Nat) : Bool × MM → Nat → Option Out := fun x _ => some (some (aI (bI x.1)), (ST0 q, x.2))
theorem pfX1_hasSpan (q : Nat) (hcs : CSm (csF q)) (a0 : Nat) (a1 : Int32) (a2 : Int32) (m : MM) : SimK (fX1_hasSpan_b a0 a1 a2 m) (fun n => brun false (0, 0) (csF q) (lkb tX1_hasSpan) n 0 (entL 3 [aR 1 a0, aI a1, aI a2]) [] (ST0 q, m)) (kt_X1_hasSpan q) :=
  (simk_run hcs 20 []
    (simt_ite
      (simt_ret (some (some (aI 0), (ST0 q, m))) (fun _ => rfl))
      (simt_ite
        (simt_ret (some (some (aI 0), (ST0 q, m))) (fun _ => rfl))
        (simt_ite
          (simt_ret (some (some (aI 0), (ST0 q, m))) (fun _ => rfl))
          (simt_ite
            (simt_ret (some (some (aI 0), (ST0 q, m))) (fun _ => rfl))
            (simt_ret (some (some (aI 1), (ST0 q, m))) (fun _ => rfl))))))
  (fun _ => rfl))
noncomputable def kt_X1_startRow (q : Nat) : Unit × MM → Nat → Option Out := fun x _ => some (none, (ST0 q, x.2))
noncomputable def hfX1_startRow_b24 (q : Nat) (a0 : Nat) (s : Int32) (m : MM) (n : Nat) : Option Out := brun false (0, 0) (csF q) (lkb tX1_startRow) n 24 [some (aR 1 a0), none, none, some (aI s)] [] (ST0 q, m)
noncomputable def kxfX1_startRow_b24 (q : Nat) (a0 : Nat) (y : (Unit) × MM) (n : Nat) : Option Out := brun false (0, 0) (csF q) (lkb tX1_startRow) n 46 [none, none, none, none] [] (ST0 q, y.2)
theorem pfX1_startRow_b24 (q : Nat) (hcs : CSm (csF q)) (a0 : Nat) (s : Int32) (m : MM) : SimK (fX1_startRow_b24 a0 s m) (hfX1_startRow_b24 q a0 s m) (lpK (hfX1_startRow_b24 q a0) (kxfX1_startRow_b24 q a0)) :=
  (simk_run hcs 13 [24, 46]
    (simt_ite
      (simt_go hcs (.n _ (.n _ (.n _ (.n _ .nil)))) (fun _ => rfl))
      (simt_bif
        (simt_go hcs (.s _ (.n _ (.n _ (.s _ .nil)))) (fun _ => rfl))))
  (fun _ => rfl))
theorem pfX1_startRow_b24_l (q : Nat) (hcs : CSm (csF q)) (a0 : Nat) (s : Int32) (m : MM) : SimK (loopF 1000 (fX1_startRow_b24 a0) s m) (hfX1_startRow_b24 q a0 s m) (kxfX1_startRow_b24 q a0) :=
  simk_loopF (fun s m => pfX1_startRow_b24 q hcs a0 s m) 1000 s m
theorem pfX1_startRow (q : Nat) (hcs : CSm (csF q)) (a0 : Nat) (a1 : Int32) (a2 : Int32) (m : MM) : SimK (fX1_startRow_b a0 a1 a2 m) (fun n => brun false (0, 0) (csF q) (lkb tX1_startRow) n 0 (entL 4 [aR 1 a0, aI a1, aI a2]) [] (ST0 q, m)) (kt_X1_startRow q) :=
  (simk_run hcs 15 [24]
    (simt_loop hcs (.s _ (.n _ (.n _ (.s _ .nil)))) (pfX1_startRow_b24_l q hcs a0 0 ((upI (upI m.1 1 a0 0 a1) 1 a0 1 (mxI 0 (mnI a2 (nI 40)))), m.2)) (fun o1 => 
      (simk_run hcs 2 []
        (simt_ret (some (none, (ST0 q, o1.2))) (fun _ => rfl))
      (fun _ => rfl))))
  (fun _ => rfl))
noncomputable def kt_X1_narrowed (q : Nat) : Int64 × MM → Nat → Option Out := fun x _ => some (some (aL x.1), (ST0 q, x.2))
theorem pfX1_narrowed (q : Nat) (hcs : CSm (csF q)) (a0 : Nat) (a1 : Int64) (m : MM) : SimK (fX1_narrowed_b a0 a1 m) (fun n => brun false (0, 0) (csF q) (lkb tX1_narrowed) n 0 (entL 3 [aR 1 a0, aL a1]) [] (ST0 q, m)) (kt_X1_narrowed q) :=
  (simk_run hcs 11 []
    (simt_ite
      (simt_ret (some (some (aL a1.toInt32.toInt8.toInt32.toInt64), (ST0 q, m))) (fun _ => rfl))
      (simt_ite
        (simt_ret (some (some (aL a1.toInt32.toInt16.toInt32.toInt64), (ST0 q, m))) (fun _ => rfl))
        (simt_ite
          (simt_ret (some (some (aL a1.toInt32.toInt64), (ST0 q, m))) (fun _ => rfl))
          (simt_ite
            (simt_ret (some (some (aL a1), (ST0 q, m))) (fun _ => rfl))
            (simt_ite
              (simt_ite
                (simt_ret (some (some (aL 0), (ST0 q, m))) (fun _ => rfl))
                (simt_ret (some (some (aL 1), (ST0 q, m))) (fun _ => rfl)))
              (simt_ret (some (some (aL a1), (ST0 q, m))) (fun _ => rfl)))))))
  (fun _ => rfl))
noncomputable def kt_X1_put (q : Nat) : Unit × MM → Nat → Option Out := fun x _ => some (none, (ST0 q, x.2))
theorem pfX1_put (q : Nat) (hcs : CSm (csF q)) (a0 : Nat) (a1 : Int32) (a2 : Int64) (m : MM) : SimK (fX1_put_b a0 a1 a2 m) (fun n => brun false (0, 0) (csF q) (lkb tX1_put) n 0 (entL 4 [aR 1 a0, aI a1, aL a2]) [] (ST0 q, m)) (kt_X1_put q) :=
  (simk_run hcs 16 []
    (simt_bind fun o1 =>
      (simt_ite
        (simt_ret (some (none, (ST0 q, o1.2))) (fun _ => rfl))
        (simt_bind fun o2 =>
          (simt_ite
            (simt_ret (some (none, (ST0 q, o2.2))) (fun _ => rfl))
            (simt_bind fun o3 =>
              (simt_bif
                (simt_ret (some (none, (ST0 q, (o3.2.1, (upL o3.2.2 20 a0 a1.toNatClampNeg o3.1))))) (fun _ => rfl))))))))
  (fun _ => rfl))
noncomputable def kt_X1_take (q : Nat) : Int64 × MM → Nat → Option Out := fun x _ => some (some (aL x.1), (ST0 q, x.2))
theorem pfX1_take (q : Nat) (hcs : CSm (csF q)) (a0 : Nat) (a1 : Int32) (m : MM) : SimK (fX1_take_b a0 a1 m) (fun n => brun false (0, 0) (csF q) (lkb tX1_take) n 0 (entL 2 [aR 1 a0, aI a1]) [] (ST0 q, m)) (kt_X1_take q) :=
  (simk_run hcs 14 []
    (simt_bind fun o1 =>
      (simt_ite
        (simt_ret (some (some (aL 0), (ST0 q, o1.2))) (fun _ => rfl))
        (simt_bind fun o2 =>
          (simt_ite
            (simt_ret (some (some (aL 0), (ST0 q, o2.2))) (fun _ => rfl))
            (simt_bif
              (simt_ret (some (some (aL (o2.2.2 20 a0 a1.toNatClampNeg)), (ST0 q, o2.2))) (fun _ => rfl)))))))
  (fun _ => rfl))
noncomputable def kt_X2_hasRoom (q : Nat) : Bool × MM → Nat → Option Out := fun x _ => some (some (aI (bI x.1)), (ST0 q, x.2))
theorem pfX2_hasRoom (q : Nat) (hcs : CSm (csF q)) (a0 : Nat) (m : MM) : SimK (fX2_hasRoom_b a0 m) (fun n => brun false (0, 0) (csF q) (lkb tX2_hasRoom) n 0 (entL 1 [aR 2 a0]) [] (ST0 q, m)) (kt_X2_hasRoom q) :=
  (simk_run hcs 10 []
    (simt_ite
      (simt_ret (some (some (aI 0), (ST0 q, m))) (fun _ => rfl))
      (simt_ret (some (some (aI 1), (ST0 q, m))) (fun _ => rfl)))
  (fun _ => rfl))
noncomputable def kt_X2_append (q : Nat) : Int32 × MM → Nat → Option Out := fun x _ => some (some (aI x.1), (ST0 q, x.2))
theorem pfX2_append (q : Nat) (hcs : CSm (csF q)) (a0 : Nat) (a1 : Int32) (m : MM) : SimK (fX2_append_b a0 a1 m) (fun n => brun false (0, 0) (csF q) (lkb tX2_append) n 0 (entL 2 [aR 2 a0, aI a1]) [] (ST0 q, m)) (kt_X2_append q) :=
  (simk_run hcs 25 []
    (simt_ite
      (simt_ret (some (some (aI (m.1 2 a0 0)), (ST0 q, m))) (fun _ => rfl))
      (simt_ite
        (simt_ret (some (some (aI (m.1 2 a0 0)), (ST0 q, m))) (fun _ => rfl))
        (simt_bif
          (simt_ret (some (some (aI ((upI (upI m.1 45 0 (m.1 2 a0 0).toNatClampNeg a1) 2 a0 0 (((upI m.1 45 0 (m.1 2 a0 0).toNatClampNeg a1) 2 a0 0) + 1)) 2 a0 0)), (ST0 q, ((upI (upI m.1 45 0 (m.1 2 a0 0).toNatClampNeg a1) 2 a0 0 (((upI m.1 45 0 (m.1 2 a0 0).toNatClampNeg a1) 2 a0 0) + 1)), m.2)))) (fun _ => rfl)))))
  (fun _ => rfl))
noncomputable def kt_X2_mostOf (q : Nat) : Int32 × MM → Nat → Option Out := fun x _ => some (some (aI x.1), (ST0 q, x.2))
theorem pfX2_mostOf (q : Nat) (hcs : CSm (csF q)) (a0 : Nat) (a1 : Int32) (a2 : Int32) (m : MM) : SimK (fX2_mostOf_b a0 a1 a2 m) (fun n => brun false (0, 0) (csF q) (lkb tX2_mostOf) n 0 (entL 3 [aR 5 a0, aI a1, aI a2]) [] (ST0 q, m)) (kt_X2_mostOf q) :=
  (simk_run hcs 17 []
    (simt_ite
      (simt_ret (some (some (aI 30), (ST0 q, m))) (fun _ => rfl))
      (simt_ite
        (simt_ite
          (simt_ite
            (simt_ret (some (some (aI 1), (ST0 q, m))) (fun _ => rfl))
            (simt_ret (some (some (aI 3), (ST0 q, m))) (fun _ => rfl)))
          (simt_ret (some (some (aI ((m.1 5 a0 0) - 1)), (ST0 q, m))) (fun _ => rfl)))
        (simt_ite
          (simt_ite
            (simt_ite
              (simt_ite
                (simt_ret (some (some (aI ((m.1 5 a0 6) - 1)), (ST0 q, m))) (fun _ => rfl))
                (simt_ret (some (some (aI ((m.1 5 a0 0) - 1)), (ST0 q, m))) (fun _ => rfl)))
              (simt_ret (some (some (aI 9), (ST0 q, m))) (fun _ => rfl)))
            (simt_ret (some (some (aI 5), (ST0 q, m))) (fun _ => rfl)))
          (simt_ite
            (simt_ite
              (simt_ret (some (some (aI 6), (ST0 q, m))) (fun _ => rfl))
              (simt_ret (some (some (aI ((m.1 5 a0 0) - 1)), (ST0 q, m))) (fun _ => rfl)))
            (simt_ite
              (simt_ret (some (some (aI 4), (ST0 q, m))) (fun _ => rfl))
              (simt_ret (some (some (aI 999), (ST0 q, m))) (fun _ => rfl)))))))
  (fun _ => rfl))
noncomputable def kt_X2_numbersOf (q : Nat) : Int32 × MM → Nat → Option Out := fun x _ => some (some (aI x.1), (ST0 q, x.2))
theorem pfX2_numbersOf (q : Nat) (hcs : CSm (csF q)) (a0 : Int32) (m : MM) : SimK (fX2_numbersOf_b a0 m) (fun n => brun false (0, 0) (csF q) (lkb tX2_numbersOf) n 0 (entL 1 [aI a0]) [] (ST0 q, m)) (kt_X2_numbersOf q) :=
  (simk_run hcs 5 []
    (simt_ite
      (simt_ret (some (some (aI 3), (ST0 q, m))) (fun _ => rfl))
      (simt_ite
        (simt_ret (some (some (aI 4), (ST0 q, m))) (fun _ => rfl))
        (simt_ite
          (simt_ret (some (some (aI 2), (ST0 q, m))) (fun _ => rfl))
          (simt_ret (some (some (aI 1), (ST0 q, m))) (fun _ => rfl)))))
  (fun _ => rfl))
noncomputable def kt_X5_bottleAt (q : Nat) : Option Nat × MM → Nat → Option Out := fun x _ => match x.1 with
  | none => some (some aN, (ST0 q, x.2))
  | some i => some (some (aR 0 i), (ST0 q, x.2))
theorem pfX5_bottleAt (q : Nat) (hcs : CSm (csF q)) (a0 : Nat) (a1 : Int32) (m : MM) : SimK (fX5_bottleAt_b a0 a1 m) (fun n => brun false (0, 0) (csF q) (lkb tX5_bottleAt) n 0 (entL 2 [aR 5 a0, aI a1]) [] (ST0 q, m)) (kt_X5_bottleAt q) :=
  (simk_run hcs 18 []
    (simt_ite
      (simt_ret (some (some (aN), (ST0 q, m))) (fun _ => rfl))
      (simt_ite
        (simt_ret (some (some (aN), (ST0 q, m))) (fun _ => rfl))
        (simt_ite
          (simt_ret (some (some (aN), (ST0 q, m))) (fun _ => rfl))
          (simt_bif
            (simt_ret (some (some (aR 0 (9 * a0 + 1 + a1.toNatClampNeg)), (ST0 q, m))) (fun _ => rfl))))))
  (fun _ => rfl))
noncomputable def kt_X5_hasRoomForBottle (q : Nat) : Bool × MM → Nat → Option Out := fun x _ => some (some (aI (bI x.1)), (ST0 q, x.2))
theorem pfX5_hasRoomForBottle (q : Nat) (hcs : CSm (csF q)) (a0 : Nat) (m : MM) : SimK (fX5_hasRoomForBottle_b a0 m) (fun n => brun false (0, 0) (csF q) (lkb tX5_hasRoomForBottle) n 0 (entL 1 [aR 5 a0]) [] (ST0 q, m)) (kt_X5_hasRoomForBottle q) :=
  (simk_run hcs 10 []
    (simt_ite
      (simt_ret (some (some (aI 0), (ST0 q, m))) (fun _ => rfl))
      (simt_ret (some (some (aI 1), (ST0 q, m))) (fun _ => rfl)))
  (fun _ => rfl))
noncomputable def kt_X5_addBottle (q : Nat) : Int32 × MM → Nat → Option Out := fun x _ => some (some (aI x.1), (ST0 q, x.2))
theorem pfX5_addBottle (q : Nat) (hcs : CSm (csF q)) (a0 : Nat) (a1 : Int32) (a2 : Int32) (a3 : Int32) (a4 : Int32) (m : MM) : SimK (fX5_addBottle_b a0 a1 a2 a3 a4 m) (fun n => brun false (0, 0) (csF q) (lkb tX5_addBottle) n 0 (entL 7 [aR 5 a0, aI a1, aI a2, aI a3, aI a4]) [] (ST0 q, m)) (kt_X5_addBottle q) :=
  (simk_run hcs 27 []
    (simt_bind fun o1 =>
      (simt_ite
        (simt_bindO (fun o2 =>
          (simt_ret (some (some (aI (m.1 5 a0 5)), (ST0 q, o2.2))) (fun _ => rfl))) (fun o2 i3 =>
          (simt_bind fun o4 =>
            (simt_ret (some (some (aI (m.1 5 a0 5)), (ST0 q, o4.2))) (fun _ => rfl)))))
        (simt_ret (some (some (aI (-1)), (ST0 q, o1.2))) (fun _ => rfl))))
  (fun _ => rfl))
noncomputable def kt_X4_start (q : Nat) : Unit × MM → Nat → Option Out := fun x _ => some (none, (ST0 q, x.2))
theorem pfX4_start (q : Nat) (hcs : CSm (csF q)) (a0 : Nat) (a1 : Int32) (a2 : Int32) (a3 : Int32) (m : MM) : SimK (fX4_start_b a0 a1 a2 a3 m) (fun n => brun false (0, 0) (csF q) (lkb tX4_start) n 0 (entL 4 [aR 4 a0, aI a1, aI a2, aI a3]) [] (ST0 q, m)) (kt_X4_start q) :=
  (simk_run hcs 11 []
    (simt_ret (some (none, (ST0 q, ((upI (upI (upI m.1 4 a0 0 a1) 4 a0 1 a2) 4 a0 2 a3), m.2)))) (fun _ => rfl))
  (fun _ => rfl))
noncomputable def kt_X5_hasRoomForWalker (q : Nat) : Bool × MM → Nat → Option Out := fun x _ => some (some (aI (bI x.1)), (ST0 q, x.2))
theorem pfX5_hasRoomForWalker (q : Nat) (hcs : CSm (csF q)) (a0 : Nat) (m : MM) : SimK (fX5_hasRoomForWalker_b a0 m) (fun n => brun false (0, 0) (csF q) (lkb tX5_hasRoomForWalker) n 0 (entL 1 [aR 5 a0]) [] (ST0 q, m)) (kt_X5_hasRoomForWalker q) :=
  (simk_run hcs 10 []
    (simt_ite
      (simt_ret (some (some (aI 0), (ST0 q, m))) (fun _ => rfl))
      (simt_ret (some (some (aI 1), (ST0 q, m))) (fun _ => rfl)))
  (fun _ => rfl))
noncomputable def kt_X5_walkerAt (q : Nat) : Option Nat × MM → Nat → Option Out := fun x _ => match x.1 with
  | none => some (some aN, (ST0 q, x.2))
  | some i => some (some (aR 4 i), (ST0 q, x.2))
theorem pfX5_walkerAt (q : Nat) (hcs : CSm (csF q)) (a0 : Nat) (a1 : Int32) (m : MM) : SimK (fX5_walkerAt_b a0 a1 m) (fun n => brun false (0, 0) (csF q) (lkb tX5_walkerAt) n 0 (entL 2 [aR 5 a0, aI a1]) [] (ST0 q, m)) (kt_X5_walkerAt q) :=
  (simk_run hcs 18 []
    (simt_ite
      (simt_ret (some (some (aN), (ST0 q, m))) (fun _ => rfl))
      (simt_ite
        (simt_ret (some (some (aN), (ST0 q, m))) (fun _ => rfl))
        (simt_ite
          (simt_ret (some (some (aN), (ST0 q, m))) (fun _ => rfl))
          (simt_bif
            (simt_ret (some (some (aR 4 (7 * a0 + 1 + a1.toNatClampNeg)), (ST0 q, m))) (fun _ => rfl))))))
  (fun _ => rfl))
noncomputable def kt_X5_addWalker (q : Nat) : Int32 × MM → Nat → Option Out := fun x _ => some (some (aI x.1), (ST0 q, x.2))
theorem pfX5_addWalker (q : Nat) (hcs : CSm (csF q)) (a0 : Nat) (a1 : Int32) (a2 : Int32) (a3 : Int32) (m : MM) : SimK (fX5_addWalker_b a0 a1 a2 a3 m) (fun n => brun false (0, 0) (csF q) (lkb tX5_addWalker) n 0 (entL 6 [aR 5 a0, aI a1, aI a2, aI a3]) [] (ST0 q, m)) (kt_X5_addWalker q) :=
  (simk_run hcs 26 []
    (simt_bind fun o1 =>
      (simt_ite
        (simt_bindO (fun o2 =>
          (simt_ret (some (some (aI (m.1 5 a0 6)), (ST0 q, o2.2))) (fun _ => rfl))) (fun o2 i3 =>
          (simt_bind fun o4 =>
            (simt_ret (some (some (aI (m.1 5 a0 6)), (ST0 q, o4.2))) (fun _ => rfl)))))
        (simt_ret (some (some (aI (-1)), (ST0 q, o1.2))) (fun _ => rfl))))
  (fun _ => rfl))
noncomputable def kt_X5_setFlow (q : Nat) : Unit × MM → Nat → Option Out := fun x _ => some (none, (ST0 q, x.2))
theorem pfX5_setFlow (q : Nat) (hcs : CSm (csF q)) (a0 : Nat) (a1 : Int32) (a2 : Int32) (m : MM) : SimK (fX5_setFlow_b a0 a1 a2 m) (fun n => brun false (0, 0) (csF q) (lkb tX5_setFlow) n 0 (entL 3 [aR 5 a0, aI a1, aI a2]) [] (ST0 q, m)) (kt_X5_setFlow q) :=
  (simk_run hcs 14 []
    (simt_ite
      (simt_ret (some (none, (ST0 q, m))) (fun _ => rfl))
      (simt_ite
        (simt_ret (some (none, (ST0 q, m))) (fun _ => rfl))
        (simt_bif
          (simt_ret (some (none, (ST0 q, ((upI m.1 40 a0 a1.toNatClampNeg a2), m.2)))) (fun _ => rfl)))))
  (fun _ => rfl))
noncomputable def kt_X2_perform (q : Nat) : Unit × MM → Nat → Option Out := fun x _ => some (none, (ST0 q, x.2))
theorem pfX2_perform (q : Nat) (hcs : CSm (csF q)) (a0 : Nat) (a1 : Nat) (a2 : Int32) (m : MM) : SimK (fX2_perform_b a0 a1 a2 m) (fun n => brun false (0, 0) (csF q) (lkb tX2_perform) n 0 (entL 3 [aR 2 a0, aR 5 a1, aI a2]) [] (ST0 q, m)) (kt_X2_perform q) :=
  (simk_run hcs 24 []
    (simt_ite
      (simt_bif
        (simt_ret (some (none, (ST0 q, ((upI m.1 5 a1 0 (m.1 46 0 (0 : Int32).toNatClampNeg)), m.2)))) (fun _ => rfl)))
      (simt_ite
        (simt_bif
          (simt_bif
            (simt_bif
              (simt_bind fun o3 =>
                (simt_ret (some (none, (ST0 q, o3.2))) (fun _ => rfl))))))
        (simt_ite
          (simt_bif
            (simt_bif
              (simt_bif
                (simt_bif
                  (simt_bind fun o2 =>
                    (simt_ret (some (none, (ST0 q, o2.2))) (fun _ => rfl)))))))
          (simt_ite
            (simt_bif
              (simt_bif
                (simt_bind fun o1 =>
                  (simt_ret (some (none, (ST0 q, o1.2))) (fun _ => rfl)))))
            (simt_ite
              (simt_bif
                (simt_ret (some (none, (ST0 q, ((upI m.1 5 a1 1 (m.1 46 0 (0 : Int32).toNatClampNeg)), m.2)))) (fun _ => rfl)))
              (simt_bif
                (simt_ret (some (none, (ST0 q, ((upI m.1 5 a1 2 (m.1 46 0 (0 : Int32).toNatClampNeg)), m.2)))) (fun _ => rfl))))))))
  (fun _ => rfl))
noncomputable def kt_X2_byteAt (q : Nat) : Int32 × MM → Nat → Option Out := fun x _ => some (some (aI x.1), (ST0 q, x.2))
theorem pfX2_byteAt (q : Nat) (hcs : CSm (csF q)) (a0 : Nat) (a1 : Int32) (m : MM) : SimK (fX2_byteAt_b a0 a1 m) (fun n => brun false (0, 0) (csF q) (lkb tX2_byteAt) n 0 (entL 2 [aR 2 a0, aI a1]) [] (ST0 q, m)) (kt_X2_byteAt q) :=
  (simk_run hcs 18 []
    (simt_ite
      (simt_ret (some (some (aI (-1)), (ST0 q, m))) (fun _ => rfl))
      (simt_ite
        (simt_ret (some (some (aI (-1)), (ST0 q, m))) (fun _ => rfl))
        (simt_ite
          (simt_ret (some (some (aI (-1)), (ST0 q, m))) (fun _ => rfl))
          (simt_bif
            (simt_ret (some (some (aI (m.1 45 0 a1.toNatClampNeg)), (ST0 q, m))) (fun _ => rfl))))))
  (fun _ => rfl))
noncomputable def kt_X2_isDigit (q : Nat) : Bool × MM → Nat → Option Out := fun x _ => some (some (aI (bI x.1)), (ST0 q, x.2))
theorem pfX2_isDigit (q : Nat) (hcs : CSm (csF q)) (a0 : Int32) (m : MM) : SimK (fX2_isDigit_b a0 m) (fun n => brun false (0, 0) (csF q) (lkb tX2_isDigit) n 0 (entL 1 [aI a0]) [] (ST0 q, m)) (kt_X2_isDigit q) :=
  (simk_run hcs 10 []
    (simt_ite
      (simt_ret (some (some (aI 0), (ST0 q, m))) (fun _ => rfl))
      (simt_ite
        (simt_ret (some (some (aI 0), (ST0 q, m))) (fun _ => rfl))
        (simt_ret (some (some (aI 1), (ST0 q, m))) (fun _ => rfl))))
  (fun _ => rfl))
noncomputable def kt_X2_isLetter (q : Nat) : Bool × MM → Nat → Option Out := fun x _ => some (some (aI (bI x.1)), (ST0 q, x.2))
theorem pfX2_isLetter (q : Nat) (hcs : CSm (csF q)) (a0 : Int32) (m : MM) : SimK (fX2_isLetter_b a0 m) (fun n => brun false (0, 0) (csF q) (lkb tX2_isLetter) n 0 (entL 1 [aI a0]) [] (ST0 q, m)) (kt_X2_isLetter q) :=
  (simk_run hcs 10 []
    (simt_ite
      (simt_ret (some (some (aI 0), (ST0 q, m))) (fun _ => rfl))
      (simt_ite
        (simt_ret (some (some (aI 0), (ST0 q, m))) (fun _ => rfl))
        (simt_ret (some (some (aI 1), (ST0 q, m))) (fun _ => rfl))))
  (fun _ => rfl))
