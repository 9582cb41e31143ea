/-! THE FUNCTIONS ARE THE RUNS, 1 -/
set_option maxRecDepth 20000
set_option maxHeartbeats 4000000
noncomputable def kt_X2_scanNumber (q : Nat) : Unit × MM → Nat → Option Out := fun x _ => some (none, (ST0 q, x.2))
noncomputable def hfX2_scanNumber_b5 (q : Nat) (a0 : Nat) (s : Unit) (m : MM) (n : Nat) : Option Out := brun false (0, 0) (csF q) (lkb tX2_scanNumber) n 5 [some (aR 2 a0)] [] (ST0 q, m)
noncomputable def kxfX2_scanNumber_b5 (q : Nat) (a0 : Nat) (y : (Unit) × MM) (n : Nat) : Option Out := brun false (0, 0) (csF q) (lkb tX2_scanNumber) n 83 [none] [] (ST0 q, y.2)
theorem pfX2_scanNumber_b5 (q : Nat) (hcs : CSm (csF q)) (a0 : Nat) (s : Unit) (m : MM) : SimK (fX2_scanNumber_b5 a0 s m) (hfX2_scanNumber_b5 q a0 s m) (lpK (hfX2_scanNumber_b5 q a0) (kxfX2_scanNumber_b5 q a0)) :=
  (simk_run hcs 40 [5, 83]
    (simt_ite
      (simt_go hcs (.n _ .nil) (fun _ => rfl))
      (simt_bind fun o1 =>
        (simt_bind fun o2 =>
          (simt_ite
            (simt_go hcs (.n _ .nil) (fun _ => rfl))
            (simt_ite
              (simt_go hcs (.s _ .nil) (fun _ => rfl))
              (simt_bind fun o3 =>
                (simt_go hcs (.s _ .nil) (fun _ => rfl))))))))
  (fun _ => rfl))
theorem pfX2_scanNumber_b5_l (q : Nat) (hcs : CSm (csF q)) (a0 : Nat) (s : Unit) (m : MM) : SimK (loopF 1000 (fX2_scanNumber_b5 a0) s m) (hfX2_scanNumber_b5 q a0 s m) (kxfX2_scanNumber_b5 q a0) :=
  simk_loopF (fun s m => pfX2_scanNumber_b5 q hcs a0 s m) 1000 s m
theorem pfX2_scanNumber (q : Nat) (hcs : CSm (csF q)) (a0 : Nat) (m : MM) : SimK (fX2_scanNumber_b a0 m) (fun n => brun false (0, 0) (csF q) (lkb tX2_scanNumber) n 0 (entL 1 [aR 2 a0]) [] (ST0 q, m)) (kt_X2_scanNumber q) :=
  (simk_run hcs 4 [5]
    (simt_loop hcs (.s _ .nil) (pfX2_scanNumber_b5_l q hcs a0 () ((upI m.1 2 a0 5 0), m.2)) (fun o4 => 
      (simk_run hcs 2 []
        (simt_ret (some (none, (ST0 q, o4.2))) (fun _ => rfl))
      (fun _ => rfl))))
  (fun _ => rfl))
noncomputable def kt_X2_scan (q : Nat) : Unit × MM → Nat → Option Out := fun x _ => some (none, (ST0 q, x.2))
noncomputable def hfX2_scan_b0 (q : Nat) (a0 : Nat) (s : Unit) (m : MM) (n : Nat) : Option Out := brun false (0, 0) (csF q) (lkb tX2_scan) n 0 [some (aR 2 a0), none] [] (ST0 q, m)
noncomputable def kxfX2_scan_b0 (q : Nat) (a0 : Nat) (y : (Unit) × MM) (n : Nat) : Option Out := brun false (0, 0) (csF q) (lkb tX2_scan) n 37 [some (aR 2 a0), none] [] (ST0 q, y.2)
theorem pfX2_scan_b0 (q : Nat) (hcs : CSm (csF q)) (a0 : Nat) (s : Unit) (m : MM) : SimK (fX2_scan_b0 a0 s m) (hfX2_scan_b0 q a0 s m) (lpK (hfX2_scan_b0 q a0) (kxfX2_scan_b0 q a0)) :=
  (simk_run hcs 19 [0, 37]
    (simt_ite
      (simt_go hcs (.s _ (.n _ .nil)) (fun _ => rfl))
      (simt_bind fun o1 =>
        (simt_ite
          (simt_go hcs (.s _ (.n _ .nil)) (fun _ => rfl))
          (simt_go hcs (.s _ (.n _ .nil)) (fun _ => rfl)))))
  (fun _ => rfl))
theorem pfX2_scan_b0_l (q : Nat) (hcs : CSm (csF q)) (a0 : Nat) (s : Unit) (m : MM) : SimK (loopF 1000 (fX2_scan_b0 a0) s m) (hfX2_scan_b0 q a0 s m) (kxfX2_scan_b0 q a0) :=
  simk_loopF (fun s m => pfX2_scan_b0 q hcs a0 s m) 1000 s m
noncomputable def hfX2_scan_b79 (q : Nat) (a0 : Nat) (s : Unit) (m : MM) (n : Nat) : Option Out := brun false (0, 0) (csF q) (lkb tX2_scan) n 79 [some (aR 2 a0), none] [] (ST0 q, m)
noncomputable def kxfX2_scan_b79 (q : Nat) (a0 : Nat) (y : (Unit) × MM) (n : Nat) : Option Out := brun false (0, 0) (csF q) (lkb tX2_scan) n 161 [none, none] [] (ST0 q, y.2)
theorem pfX2_scan_b79 (q : Nat) (hcs : CSm (csF q)) (a0 : Nat) (s : Unit) (m : MM) : SimK (fX2_scan_b79 a0 s m) (hfX2_scan_b79 q a0 s m) (lpK (hfX2_scan_b79 q a0) (kxfX2_scan_b79 q a0)) :=
  (simk_run hcs 19 [79, 161]
    (simt_ite
      (simt_go hcs (.n _ (.n _ .nil)) (fun _ => rfl))
      (simt_bind fun o7 =>
        (simt_bind fun o8 =>
          (simt_ite
            (simt_go hcs (.n _ (.n _ .nil)) (fun _ => rfl))
            (simt_go hcs (.s _ (.n _ .nil)) (fun _ => rfl))))))
  (fun _ => rfl))
theorem pfX2_scan_b79_l (q : Nat) (hcs : CSm (csF q)) (a0 : Nat) (s : Unit) (m : MM) : SimK (loopF 1000 (fX2_scan_b79 a0) s m) (hfX2_scan_b79 q a0 s m) (kxfX2_scan_b79 q a0) :=
  simk_loopF (fun s m => pfX2_scan_b79 q hcs a0 s m) 1000 s m
theorem pfX2_scan_j37 (q : Nat) (hcs : CSm (csF q)) (a0 : Nat) (m : MM) : SimK (fX2_scan_j37 a0 m) (fun n => brun false (0, 0) (csF q) (lkb tX2_scan) n 37 [some (aR 2 a0), none] [] (ST0 q, m)) (kt_X2_scan q) :=
  (simk_run hcs 33 [79]
    (simt_bind fun o3 =>
      (simt_ite
        (simt_bind fun o4 =>
          (simt_ite
            (simt_bind fun o5 =>
              (simt_ite
                (simt_ite
                  (simt_ret (some (none, (ST0 q, ((upI (upI o5.2.1 2 a0 4 4) 2 a0 3 (((upI o5.2.1 2 a0 4 4) 2 a0 3) + 1)), o5.2.2)))) (fun _ => rfl))
                  (simt_ret (some (none, (ST0 q, ((upI (upI o5.2.1 2 a0 4 3) 2 a0 3 (((upI o5.2.1 2 a0 4 3) 2 a0 3) + 1)), o5.2.2)))) (fun _ => rfl)))
                (simt_bind fun o6 =>
                  (simt_ret (some (none, (ST0 q, o6.2))) (fun _ => rfl)))))
            (simt_loop hcs (.s _ (.n _ .nil)) (pfX2_scan_b79_l q hcs a0 () ((upI o4.2.1 2 a0 4 1), o4.2.2)) (fun o9 => 
              (simk_run hcs 2 []
                (simt_ret (some (none, (ST0 q, o9.2))) (fun _ => rfl))
              (fun _ => rfl))))))
        (simt_ret (some (none, (ST0 q, ((upI o3.2.1 2 a0 4 0), o3.2.2)))) (fun _ => rfl))))
  (fun _ => rfl))
theorem pfX2_scan (q : Nat) (hcs : CSm (csF q)) (a0 : Nat) (m : MM) : SimK (fX2_scan_b a0 m) (fun n => brun false (0, 0) (csF q) (lkb tX2_scan) n 0 (entL 2 [aR 2 a0]) [] (ST0 q, m)) (kt_X2_scan q) :=
  (simk_here
    (simt_loop hcs (.s _ (.n _ .nil)) (pfX2_scan_b0_l q hcs a0 () m) (fun o2 => 
      (simk_here
        (simt_join hcs (.s _ (.n _ .nil)) (pfX2_scan_j37 q hcs a0 o2.2))))))
noncomputable def kt_J0_isLatin1_aae02 (q : Nat) : Bool × MM → Nat → Option Out := fun x _ => some (some (aI (bI x.1)), (ST0 q, x.2))
theorem pfJ0_isLatin1_aae02 (q : Nat) (hcs : CSm (csF q)) (a0 : Nat) (m : MM) : SimK (fJ0_isLatin1_aae02_b a0 m) (fun n => brun false (0, 0) (csF q) (lkb tJ0_isLatin1_aae02) n 0 (entL 1 [aR 31 a0]) [] (ST0 q, m)) (kt_J0_isLatin1_aae02 q) :=
  (simk_run hcs 9 []
    (simt_ite
      (simt_ret (some (some (aI 0), (ST0 q, m))) (fun _ => rfl))
      (simt_ret (some (some (aI 1), (ST0 q, m))) (fun _ => rfl)))
  (fun _ => rfl))
noncomputable def kt_J3_checkIndex_8e157 (q : Nat) : Int32 × MM → Nat → Option Out := fun x _ => some (some (aI x.1), (ST0 q, x.2))
theorem pfJ3_checkIndex_8e157 (q : Nat) (hcs : CSm (csF q)) (a0 : Int32) (a1 : Int32) (m : MM) : SimK (fJ3_checkIndex_8e157_b a0 a1 m) (fun n => brun false (0, 0) (csF q) (lkb tJ3_checkIndex_8e157) n 0 (entL 3 [aI a0, aI a1, aR 34 0]) [] (ST0 q, m)) (kt_J3_checkIndex_8e157 q) :=
  (simk_run hcs 8 []
    (simt_ite
      simt_none
      (simt_ite
        (simt_ret (some (some (aI a0), (ST0 q, m))) (fun _ => rfl))
        simt_none))
  (fun _ => rfl))
noncomputable def kt_J0_checkIndex_df160 (q : Nat) : Unit × MM → Nat → Option Out := fun x _ => some (none, (ST0 q, x.2))
theorem pfJ0_checkIndex_df160 (q : Nat) (hcs : CSm (csF q)) (a0 : Int32) (a1 : Int32) (m : MM) : SimK (fJ0_checkIndex_df160_b a0 a1 m) (fun n => brun false (0, 0) (csF q) (lkb tJ0_checkIndex_df160) n 0 (entL 2 [aI a0, aI a1]) [] (ST0 q, m)) (kt_J0_checkIndex_df160 q) :=
  (simk_run hcs 7 []
    (simt_bind fun o1 =>
      (simt_ret (some (none, (ST0 q, o1.2))) (fun _ => rfl)))
  (fun _ => rfl))
noncomputable def kt_J1_charAt_3b067 (q : Nat) : Int32 × MM → Nat → Option Out := fun x _ => some (some (aI x.1), (ST0 q, x.2))
theorem pfJ1_charAt_3b067 (q : Nat) (hcs : CSm (csF q)) (a0 : Nat) (a1 : Int32) (m : MM) : SimK (fJ1_charAt_3b067_b a0 a1 m) (fun n => brun false (0, 0) (csF q) (lkb tJ1_charAt_3b067) n 0 (entL 2 [aR 30 a0, aI a1]) [] (ST0 q, m)) (kt_J1_charAt_3b067 q) :=
  (simk_run hcs 12 []
    (simt_bind fun o1 =>
      (simt_bif
        (simt_ret (some (some (aI (((o1.2.1 30 a0 a1.toNatClampNeg) &&& 255).toUInt32 % 65536).toInt32), (ST0 q, o1.2))) (fun _ => rfl))))
  (fun _ => rfl))
noncomputable def kt_J0_charAt_5068e (q : Nat) : Int32 × MM → Nat → Option Out := fun x _ => some (some (aI x.1), (ST0 q, x.2))
theorem pfJ0_charAt_5068e (q : Nat) (hcs : CSm (csF q)) (a0 : Nat) (a1 : Int32) (m : MM) : SimK (fJ0_charAt_5068e_b a0 a1 m) (fun n => brun false (0, 0) (csF q) (lkb tJ0_charAt_5068e) n 0 (entL 2 [aR 31 a0, aI a1]) [] (ST0 q, m)) (kt_J0_charAt_5068e q) :=
  (simk_run hcs 9 []
    (simt_bind fun o1 =>
      (simt_ite
        simt_none
        (simt_bind fun o2 =>
          (simt_ret (some (some (aI o2.1), (ST0 q, o2.2))) (fun _ => rfl)))))
  (fun _ => rfl))
noncomputable def kt_J0_coder_7d493 (q : Nat) : Int32 × MM → Nat → Option Out := fun x _ => some (some (aI x.1), (ST0 q, x.2))
theorem pfJ0_coder_7d493 (q : Nat) (hcs : CSm (csF q)) (a0 : Nat) (m : MM) : SimK (fJ0_coder_7d493_b a0 m) (fun n => brun false (0, 0) (csF q) (lkb tJ0_coder_7d493) n 0 (entL 1 [aR 31 a0]) [] (ST0 q, m)) (kt_J0_coder_7d493 q) :=
  (simk_run hcs 7 []
    (simt_chk (simt_ret (some (some (aI (m.1 31 a0 1)), (ST0 q, m))) (fun _ => rfl)))
  (fun _ => rfl))
noncomputable def kt_J0_length_8abf5 (q : Nat) : Int32 × MM → Nat → Option Out := fun x _ => some (some (aI x.1), (ST0 q, x.2))
theorem pfJ0_length_8abf5 (q : Nat) (hcs : CSm (csF q)) (a0 : Nat) (m : MM) : SimK (fJ0_length_8abf5_b a0 m) (fun n => brun false (0, 0) (csF q) (lkb tJ0_length_8abf5) n 0 (entL 1 [aR 31 a0]) [] (ST0 q, m)) (kt_J0_length_8abf5 q) :=
  (simk_run hcs 8 []
    (simt_bind fun o1 =>
      (simt_ret (some (some (aI ((nI ([5, 6, 6, 7, 4, 3, 6, 6, 5, 7, 4, 3].getD a0 0)) >>> (o1.1 &&& 31))), (ST0 q, o1.2))) (fun _ => rfl)))
  (fun _ => rfl))
noncomputable def kt_X2_spells (q : Nat) : Bool × MM → Nat → Option Out := fun x _ => some (some (aI (bI x.1)), (ST0 q, x.2))
noncomputable def hfX2_spells_b20 (q : Nat) (a0 : Nat) (a1 : Nat) (s : Int32) (m : MM) (n : Nat) : Option Out := brun false (0, 0) (csF q) (lkb tX2_spells) n 20 [some (aR 2 a0), some (aR 31 a1), some (aI s)] [] (ST0 q, m)
noncomputable def kxfX2_spells_b20 (q : Nat) (a0 : Nat) (a1 : Nat) (y : ((Unit) ⊕ (Unit)) × MM) (n : Nat) : Option Out := match y.1 with
  | Sum.inl x => brun false (0, 0) (csF q) (lkb tX2_spells) n 54 [none, none, none] [] (ST0 q, y.2)
  | Sum.inr x => brun false (0, 0) (csF q) (lkb tX2_spells) n 46 [none, none, none] [] (ST0 q, y.2)
theorem pfX2_spells_b20 (q : Nat) (hcs : CSm (csF q)) (a0 : Nat) (a1 : Nat) (s : Int32) (m : MM) : SimK (fX2_spells_b20 a0 a1 s m) (hfX2_spells_b20 q a0 a1 s m) (lpK (hfX2_spells_b20 q a0 a1) (kxfX2_spells_b20 q a0 a1)) :=
  (simk_run hcs 17 [20, 46, 54]
    (simt_bind fun o2 =>
      (simt_ite
        (simt_go hcs (.n _ (.n _ (.n _ .nil))) (fun _ => rfl))
        (simt_bind fun o3 =>
          (simt_bind fun o4 =>
            (simt_ite
              (simt_go hcs (.s _ (.s _ (.s _ .nil))) (fun _ => rfl))
              (simt_go hcs (.n _ (.n _ (.n _ .nil))) (fun _ => rfl)))))))
  (fun _ => rfl))
theorem pfX2_spells_b20_l (q : Nat) (hcs : CSm (csF q)) (a0 : Nat) (a1 : Nat) (s : Int32) (m : MM) : SimK (loopF 1000 (fX2_spells_b20 a0 a1) s m) (hfX2_spells_b20 q a0 a1 s m) (kxfX2_spells_b20 q a0 a1) :=
  simk_loopF (fun s m => pfX2_spells_b20 q hcs a0 a1 s m) 1000 s m
theorem pfX2_spells (q : Nat) (hcs : CSm (csF q)) (a0 : Nat) (a1 : Nat) (m : MM) : SimK (fX2_spells_b a0 a1 m) (fun n => brun false (0, 0) (csF q) (lkb tX2_spells) n 0 (entL 3 [aR 2 a0, aR 31 a1]) [] (ST0 q, m)) (kt_X2_spells q) :=
  (simk_run hcs 11 [20]
    (simt_bind fun o1 =>
      (simt_ite
        (simt_loop hcs (.s _ (.s _ (.s _ .nil))) (pfX2_spells_b20_l q hcs a0 a1 0 o1.2) (fun o5 => by
          obtain ⟨o5x, o5m⟩ := o5
          rcases o5x with x6 | x7
          · exact
            (simk_run hcs 3 []
              (simt_ret (some (some (aI 1), (ST0 q, o5m))) (fun _ => rfl))
            (fun _ => rfl))
          · exact
            (simk_run hcs 3 []
              (simt_ret (some (some (aI 0), (ST0 q, o5m))) (fun _ => rfl))
            (fun _ => rfl))))
        (simt_ret (some (some (aI 0), (ST0 q, o1.2))) (fun _ => rfl))))
  (fun _ => rfl))
noncomputable def kt_X2_wordNumber (q : Nat) : Int32 × MM → Nat → Option Out := fun x _ => some (some (aI x.1), (ST0 q, x.2))
theorem pfX2_wordNumber (q : Nat) (hcs : CSm (csF q)) (a0 : Nat) (m : MM) : SimK (fX2_wordNumber_b a0 m) (fun n => brun false (0, 0) (csF q) (lkb tX2_wordNumber) n 0 (entL 1 [aR 2 a0]) [] (ST0 q, m)) (kt_X2_wordNumber q) :=
  (simk_run hcs 28 []
    (simt_bind fun o1 =>
      (simt_ite
        (simt_bind fun o2 =>
          (simt_ite
            (simt_bind fun o3 =>
              (simt_ite
                (simt_bind fun o4 =>
                  (simt_ite
                    (simt_bind fun o5 =>
                      (simt_ite
                        (simt_bind fun o6 =>
                          (simt_ite
                            (simt_ret (some (some (aI (-1)), (ST0 q, o6.2))) (fun _ => rfl))
                            (simt_ret (some (some (aI 5), (ST0 q, o6.2))) (fun _ => rfl))))
                        (simt_ret (some (some (aI 4), (ST0 q, o5.2))) (fun _ => rfl))))
                    (simt_ret (some (some (aI 3), (ST0 q, o4.2))) (fun _ => rfl))))
                (simt_ret (some (some (aI 2), (ST0 q, o3.2))) (fun _ => rfl))))
            (simt_ret (some (some (aI 1), (ST0 q, o2.2))) (fun _ => rfl))))
        (simt_ret (some (some (aI 0), (ST0 q, o1.2))) (fun _ => rfl))))
  (fun _ => rfl))
noncomputable def kt_X2_readStatement (q : Nat) : Bool × MM → Nat → Option Out := fun x _ => some (some (aI (bI x.1)), (ST0 q, x.2))
noncomputable def hfX2_readStatement_b60 (q : Nat) (a0 : Nat) (a1 : Nat) (a2 : Int32) (a3 : Int32) (s : Int32) (m : MM) (n : Nat) : Option Out := brun false (0, 0) (csF q) (lkb tX2_readStatement) n 60 [some (aR 2 a0), some (aR 5 a1), some (aI a2), some (aI a3), some (aI s), none] [] (ST0 q, m)
noncomputable def kxfX2_readStatement_b60 (q : Nat) (a0 : Nat) (a1 : Nat) (a2 : Int32) (a3 : Int32) (y : ((Unit) ⊕ (Unit)) × MM) (n : Nat) : Option Out := match y.1 with
  | Sum.inl x => brun false (0, 0) (csF q) (lkb tX2_readStatement) n 144 [some (aR 2 a0), some (aR 5 a1), some (aI a2), none, none, none] [] (ST0 q, y.2)
  | Sum.inr x => brun false (0, 0) (csF q) (lkb tX2_readStatement) n 125 [none, none, none, none, none, none] [] (ST0 q, y.2)
theorem pfX2_readStatement_j92 (q : Nat) (hcs : CSm (csF q)) (a0 : Nat) (a1 : Nat) (a2 : Int32) (a3 : Int32) (a4 : Int32) (z0 : Int32) (m : MM) : SimK (fX2_readStatement_j92 a0 a1 a2 a3 a4 z0 m) (fun n => brun false (0, 0) (csF q) (lkb tX2_readStatement) n 92 [some (aR 2 a0), some (aR 5 a1), some (aI a2), some (aI a3), some (aI a4), none] [aI z0] (ST0 q, m)) (lpK (hfX2_readStatement_b60 q a0 a1 a2 a3) (kxfX2_readStatement_b60 q a0 a1 a2 a3)) :=
  (simk_run hcs 25 [60, 125]
    (simt_ite
      (simt_go hcs (.n _ (.n _ (.n _ (.n _ (.n _ (.n _ .nil)))))) (fun _ => rfl))
      (simt_ite
        (simt_go hcs (.n _ (.n _ (.n _ (.n _ (.n _ (.n _ .nil)))))) (fun _ => rfl))
        (simt_bind fun o4 =>
          (simt_ite
            (simt_bif
              (simt_go hcs (.s _ (.s _ (.s _ (.s _ (.s _ (.n _ .nil)))))) (fun _ => rfl)))
            (simt_go hcs (.n _ (.n _ (.n _ (.n _ (.n _ (.n _ .nil)))))) (fun _ => rfl))))))
  (fun _ => rfl))
theorem pfX2_readStatement_b60 (q : Nat) (hcs : CSm (csF q)) (a0 : Nat) (a1 : Nat) (a2 : Int32) (a3 : Int32) (s : Int32) (m : MM) : SimK (fX2_readStatement_b60 a0 a1 a2 a3 s m) (hfX2_readStatement_b60 q a0 a1 a2 a3 s m) (lpK (hfX2_readStatement_b60 q a0 a1 a2 a3) (kxfX2_readStatement_b60 q a0 a1 a2 a3)) :=
  (simk_run hcs 16 [92, 144]
    (simt_ite
      (simt_go hcs (.s _ (.s _ (.s _ (.n _ (.n _ (.n _ .nil)))))) (fun _ => rfl))
      (simt_ite
        (simt_go hcs (.s _ (.s _ (.s _ (.n _ (.n _ (.n _ .nil)))))) (fun _ => rfl))
        (simt_bind fun o3 =>
          (simt_ite
            (simt_join hcs (.s _ (.s _ (.s _ (.s _ (.s _ (.n _ .nil)))))) (pfX2_readStatement_j92 q hcs a0 a1 a2 a3 s 0 o3.2))
            (simt_join hcs (.s _ (.s _ (.s _ (.s _ (.s _ (.n _ .nil)))))) (pfX2_readStatement_j92 q hcs a0 a1 a2 a3 s (o3.2.1 5 a1 0) o3.2))))))
  (fun _ => rfl))
theorem pfX2_readStatement_b60_l (q : Nat) (hcs : CSm (csF q)) (a0 : Nat) (a1 : Nat) (a2 : Int32) (a3 : Int32) (s : Int32) (m : MM) : SimK (loopF 1000 (fX2_readStatement_b60 a0 a1 a2 a3) s m) (hfX2_readStatement_b60 q a0 a1 a2 a3 s m) (kxfX2_readStatement_b60 q a0 a1 a2 a3) :=
  simk_loopF (fun s m => pfX2_readStatement_b60 q hcs a0 a1 a2 a3 s m) 1000 s m
theorem pfX2_readStatement_j52 (q : Nat) (hcs : CSm (csF q)) (a0 : Nat) (a1 : Nat) (a2 : Int32) (m : MM) : SimK (fX2_readStatement_j52 a0 a1 a2 m) (fun n => brun false (0, 0) (csF q) (lkb tX2_readStatement) n 52 [some (aR 2 a0), some (aR 5 a1), some (aI a2), none, none, none] [] (ST0 q, m)) (kt_X2_readStatement q) :=
  (simk_run hcs 6 [60]
    (simt_bind fun o2 =>
      (simt_loop hcs (.s _ (.s _ (.s _ (.s _ (.s _ (.n _ .nil)))))) (pfX2_readStatement_b60_l q hcs a0 a1 a2 o2.1 0 o2.2) (fun o5 => by
        obtain ⟨o5x, o5m⟩ := o5
        rcases o5x with x6 | x8
        · exact
          (simk_run hcs 7 []
            (simt_bind fun o7 =>
              (simt_ret (some (some (aI 1), (ST0 q, o7.2))) (fun _ => rfl)))
          (fun _ => rfl))
        · exact
          (simk_run hcs 3 []
            (simt_ret (some (some (aI 0), (ST0 q, o5m))) (fun _ => rfl))
          (fun _ => rfl)))))
  (fun _ => rfl))
theorem pfX2_readStatement_j38 (q : Nat) (hcs : CSm (csF q)) (a0 : Nat) (a1 : Nat) (a2 : Int32) (m : MM) : SimK (fX2_readStatement_j38 a0 a1 a2 m) (fun n => brun false (0, 0) (csF q) (lkb tX2_readStatement) n 38 [some (aR 2 a0), some (aR 5 a1), some (aI a2), none, none, none] [] (ST0 q, m)) (kt_X2_readStatement q) :=
  (simk_run hcs 9 [52]
    (simt_ite
      (simt_join hcs (.s _ (.s _ (.s _ (.n _ (.n _ (.n _ .nil)))))) (pfX2_readStatement_j52 q hcs a0 a1 a2 m))
      (simt_bind fun o9 =>
        (simt_ite
          (simt_join hcs (.s _ (.s _ (.s _ (.n _ (.n _ (.n _ .nil)))))) (pfX2_readStatement_j52 q hcs a0 a1 a2 o9.2))
          (simt_ret (some (some (aI 0), (ST0 q, o9.2))) (fun _ => rfl)))))
  (fun _ => rfl))
theorem pfX2_readStatement_j20 (q : Nat) (hcs : CSm (csF q)) (a0 : Nat) (a1 : Nat) (z0 : Int32) (m : MM) : SimK (fX2_readStatement_j20 a0 a1 z0 m) (fun n => brun false (0, 0) (csF q) (lkb tX2_readStatement) n 20 [some (aR 2 a0), some (aR 5 a1), none, none, none, none] [aI z0] (ST0 q, m)) (kt_X2_readStatement q) :=
  (simk_run hcs 13 [38]
    (simt_ite
      (simt_ret (some (some (aI 0), (ST0 q, m))) (fun _ => rfl))
      (simt_ite
        (simt_join hcs (.s _ (.s _ (.s _ (.n _ (.n _ (.n _ .nil)))))) (pfX2_readStatement_j38 q hcs a0 a1 z0 m))
        (simt_bind fun o10 =>
          (simt_ite
            (simt_ret (some (some (aI 0), (ST0 q, o10.2))) (fun _ => rfl))
            (simt_join hcs (.s _ (.s _ (.s _ (.n _ (.n _ (.n _ .nil)))))) (pfX2_readStatement_j38 q hcs a0 a1 z0 o10.2))))))
  (fun _ => rfl))
theorem pfX2_readStatement (q : Nat) (hcs : CSm (csF q)) (a0 : Nat) (a1 : Nat) (m : MM) : SimK (fX2_readStatement_b a0 a1 m) (fun n => brun false (0, 0) (csF q) (lkb tX2_readStatement) n 0 (entL 6 [aR 2 a0, aR 5 a1]) [] (ST0 q, m)) (kt_X2_readStatement q) :=
  (simk_run hcs 10 [20]
    (simt_bind fun o1 =>
      (simt_ite
        (simt_join hcs (.s _ (.s _ (.n _ (.n _ (.n _ (.n _ .nil)))))) (pfX2_readStatement_j20 q hcs a0 a1 (-1) o1.2))
        (simt_bind fun o11 =>
          (simt_join hcs (.s _ (.s _ (.n _ (.n _ (.n _ (.n _ .nil)))))) (pfX2_readStatement_j20 q hcs a0 a1 o11.1 o11.2)))))
  (fun _ => rfl))
noncomputable def kt_X2_readInto (q : Nat) : Int32 × MM → Nat → Option Out := fun x _ => some (some (aI x.1), (ST0 q, x.2))
noncomputable def hfX2_readInto_b9 (q : Nat) (a0 : Nat) (a1 : Nat) (s : Int32 × Int32) (m : MM) (n : Nat) : Option Out := brun false (0, 0) (csF q) (lkb tX2_readInto) n 9 [some (aR 2 a0), some (aR 5 a1), some (aI s.1), some (aI s.2)] [] (ST0 q, m)
noncomputable def kxfX2_readInto_b9 (q : Nat) (a0 : Nat) (a1 : Nat) (y : ((Unit) ⊕ ((Unit) ⊕ ((Int32) ⊕ (Unit)))) × MM) (n : Nat) : Option Out := match y.1 with
  | Sum.inl x => brun false (0, 0) (csF q) (lkb tX2_readInto) n 60 [none, none, none, none] [] (ST0 q, y.2)
  | Sum.inr (Sum.inl x) => brun false (0, 0) (csF q) (lkb tX2_readInto) n 52 [none, none, none, none] [] (ST0 q, y.2)
  | Sum.inr (Sum.inr (Sum.inl x)) => brun false (0, 0) (csF q) (lkb tX2_readInto) n 42 [none, none, some (aI x), none] [] (ST0 q, y.2)
  | Sum.inr (Sum.inr (Sum.inr x)) => brun false (0, 0) (csF q) (lkb tX2_readInto) n 26 [none, none, none, none] [] (ST0 q, y.2)
theorem pfX2_readInto_b9 (q : Nat) (hcs : CSm (csF q)) (a0 : Nat) (a1 : Nat) (s : Int32 × Int32) (m : MM) : SimK (fX2_readInto_b9 a0 a1 s m) (hfX2_readInto_b9 q a0 a1 s m) (lpK (hfX2_readInto_b9 q a0 a1) (kxfX2_readInto_b9 q a0 a1)) :=
  (simk_run hcs 22 [9, 26, 42, 52, 60]
    (simt_ite
      (simt_go hcs (.n _ (.n _ (.n _ (.n _ .nil)))) (fun _ => rfl))
      (simt_bind fun o1 =>
        (simt_ite
          (simt_bind fun o2 =>
            (simt_ite
              (simt_ite
                (simt_go hcs (.s _ (.s _ (.s _ (.s _ .nil)))) (fun _ => rfl))
                (simt_go hcs (.n _ (.n _ (.n _ (.n _ .nil)))) (fun _ => rfl)))
              (simt_go hcs (.n _ (.n _ (.s _ (.n _ .nil)))) (fun _ => rfl))))
          (simt_go hcs (.n _ (.n _ (.n _ (.n _ .nil)))) (fun _ => rfl)))))
  (fun _ => rfl))
theorem pfX2_readInto_b9_l (q : Nat) (hcs : CSm (csF q)) (a0 : Nat) (a1 : Nat) (s : Int32 × Int32) (m : MM) : SimK (loopF 1000 (fX2_readInto_b9 a0 a1) s m) (hfX2_readInto_b9 q a0 a1 s m) (kxfX2_readInto_b9 q a0 a1) :=
  simk_loopF (fun s m => pfX2_readInto_b9 q hcs a0 a1 s m) 1000 s m
theorem pfX2_readInto (q : Nat) (hcs : CSm (csF q)) (a0 : Nat) (a1 : Nat) (m : MM) : SimK (fX2_readInto_b a0 a1 m) (fun n => brun false (0, 0) (csF q) (lkb tX2_readInto) n 0 (entL 4 [aR 2 a0, aR 5 a1]) [] (ST0 q, m)) (kt_X2_readInto q) :=
  (simk_run hcs 8 [9]
    (simt_loop hcs (.s _ (.s _ (.s _ (.s _ .nil)))) (pfX2_readInto_b9_l q hcs a0 a1 (0, 0) ((upI m.1 2 a0 3 0), m.2)) (fun o3 => by
      obtain ⟨o3x, o3m⟩ := o3
      rcases o3x with x4 | (x5 | (x6 | x7))
      · exact
        (simk_run hcs 3 []
          (simt_ret (some (some (aI (-1)), (ST0 q, o3m))) (fun _ => rfl))
        (fun _ => rfl))
      · exact
        (simk_run hcs 3 []
          (simt_ret (some (some (aI (-1)), (ST0 q, o3m))) (fun _ => rfl))
        (fun _ => rfl))
      · exact
        (simk_run hcs 3 []
          (simt_ret (some (some (aI x6), (ST0 q, o3m))) (fun _ => rfl))
        (fun _ => rfl))
      · exact
        (simk_run hcs 3 []
          (simt_ret (some (some (aI (-1)), (ST0 q, o3m))) (fun _ => rfl))
        (fun _ => rfl))))
  (fun _ => rfl))
noncomputable def kt_X3_mark (q : Nat) : Unit × MM → Nat → Option Out := fun x _ => some (none, (ST0 q, x.2))
theorem pfX3_mark (q : Nat) (hcs : CSm (csF q)) (a0 : Nat) (a1 : Int32) (a2 : Nat) (m : MM) : SimK (fX3_mark_b a0 a1 a2 m) (fun n => brun false (0, 0) (csF q) (lkb tX3_mark) n 0 (entL 3 [aR 3 a0, aI a1, aR 0 a2]) [] (ST0 q, m)) (kt_X3_mark q) :=
  (simk_run hcs 26 []
    (simt_ite
      (simt_ret (some (none, (ST0 q, m))) (fun _ => rfl))
      (simt_ite
        (simt_ret (some (none, (ST0 q, m))) (fun _ => rfl))
        (simt_ite
          (simt_ret (some (none, (ST0 q, m))) (fun _ => rfl))
          (simt_bif
            (simt_bif
              (simt_ret (some (none, (ST0 q, ((upI (upI m.1 41 a0 a1.toNatClampNeg (m.1 0 a2 2)) 42 a0 a1.toNatClampNeg ((upI m.1 41 a0 a1.toNatClampNeg (m.1 0 a2 2)) 0 a2 4)), m.2)))) (fun _ => rfl)))))))
  (fun _ => rfl))
noncomputable def kt_X3_cellAt (q : Nat) : Int32 × MM → Nat → Option Out := fun x _ => some (some (aI x.1), (ST0 q, x.2))
theorem pfX3_cellAt (q : Nat) (hcs : CSm (csF q)) (a0 : Nat) (a1 : Int32) (m : MM) : SimK (fX3_cellAt_b a0 a1 m) (fun n => brun false (0, 0) (csF q) (lkb tX3_cellAt) n 0 (entL 2 [aR 3 a0, aI a1]) [] (ST0 q, m)) (kt_X3_cellAt q) :=
  (simk_run hcs 14 []
    (simt_ite
      (simt_ret (some (some (aI (-1)), (ST0 q, m))) (fun _ => rfl))
      (simt_ite
        (simt_ret (some (some (aI (-1)), (ST0 q, m))) (fun _ => rfl))
        (simt_bif
          (simt_ret (some (some (aI (m.1 41 a0 a1.toNatClampNeg)), (ST0 q, m))) (fun _ => rfl)))))
  (fun _ => rfl))
noncomputable def kt_X3_howAt (q : Nat) : Int32 × MM → Nat → Option Out := fun x _ => some (some (aI x.1), (ST0 q, x.2))
theorem pfX3_howAt (q : Nat) (hcs : CSm (csF q)) (a0 : Nat) (a1 : Int32) (m : MM) : SimK (fX3_howAt_b a0 a1 m) (fun n => brun false (0, 0) (csF q) (lkb tX3_howAt) n 0 (entL 2 [aR 3 a0, aI a1]) [] (ST0 q, m)) (kt_X3_howAt q) :=
  (simk_run hcs 14 []
    (simt_ite
      (simt_ret (some (some (aI (-1)), (ST0 q, m))) (fun _ => rfl))
      (simt_ite
        (simt_ret (some (some (aI (-1)), (ST0 q, m))) (fun _ => rfl))
        (simt_bif
          (simt_ret (some (some (aI (m.1 42 a0 a1.toNatClampNeg)), (ST0 q, m))) (fun _ => rfl)))))
  (fun _ => rfl))
noncomputable def kt_X3_cellsVisited (q : Nat) : Int32 × MM → Nat → Option Out := fun x _ => some (some (aI x.1), (ST0 q, x.2))
noncomputable def hfX3_cellsVisited_b4 (q : Nat) (a0 : Nat) (a1 : Int32) (s : Int32 × Int32) (m : MM) (n : Nat) : Option Out := brun false (0, 0) (csF q) (lkb tX3_cellsVisited) n 4 [some (aR 3 a0), some (aI a1), some (aI s.1), some (aI s.2)] [] (ST0 q, m)
noncomputable def kxfX3_cellsVisited_b4 (q : Nat) (a0 : Nat) (a1 : Int32) (y : (Int32) × MM) (n : Nat) : Option Out := brun false (0, 0) (csF q) (lkb tX3_cellsVisited) n 25 [none, none, some (aI y.1), none] [] (ST0 q, y.2)
theorem pfX3_cellsVisited_b4 (q : Nat) (hcs : CSm (csF q)) (a0 : Nat) (a1 : Int32) (s : Int32 × Int32) (m : MM) : SimK (fX3_cellsVisited_b4 a0 a1 s m) (hfX3_cellsVisited_b4 q a0 a1 s m) (lpK (hfX3_cellsVisited_b4 q a0 a1) (kxfX3_cellsVisited_b4 q a0 a1)) :=
  (simk_run hcs 14 [4, 25]
    (simt_ite
      (simt_go hcs (.n _ (.n _ (.s _ (.n _ .nil)))) (fun _ => rfl))
      (simt_bind fun o1 =>
        (simt_go hcs (.s _ (.s _ (.s _ (.s _ .nil)))) (fun _ => rfl))))
  (fun _ => rfl))
theorem pfX3_cellsVisited_b4_l (q : Nat) (hcs : CSm (csF q)) (a0 : Nat) (a1 : Int32) (s : Int32 × Int32) (m : MM) : SimK (loopF 1000 (fX3_cellsVisited_b4 a0 a1) s m) (hfX3_cellsVisited_b4 q a0 a1 s m) (kxfX3_cellsVisited_b4 q a0 a1) :=
  simk_loopF (fun s m => pfX3_cellsVisited_b4 q hcs a0 a1 s m) 1000 s m
theorem pfX3_cellsVisited (q : Nat) (hcs : CSm (csF q)) (a0 : Nat) (a1 : Int32) (m : MM) : SimK (fX3_cellsVisited_b a0 a1 m) (fun n => brun false (0, 0) (csF q) (lkb tX3_cellsVisited) n 0 (entL 4 [aR 3 a0, aI a1]) [] (ST0 q, m)) (kt_X3_cellsVisited q) :=
  (simk_run hcs 5 [4]
    (simt_loop hcs (.s _ (.s _ (.s _ (.s _ .nil)))) (pfX3_cellsVisited_b4_l q hcs a0 a1 (0, 0) m) (fun o2 => 
      (simk_run hcs 3 []
        (simt_ret (some (some (aI o2.1), (ST0 q, o2.2))) (fun _ => rfl))
      (fun _ => rfl))))
  (fun _ => rfl))
noncomputable def kt_X4_become (q : Nat) : Unit × MM → Nat → Option Out := fun x _ => some (none, (ST0 q, x.2))
theorem pfX4_become (q : Nat) (hcs : CSm (csF q)) (a0 : Nat) (a1 : Nat) (m : MM) : SimK (fX4_become_b a0 a1 m) (fun n => brun false (0, 0) (csF q) (lkb tX4_become) n 0 (entL 2 [aR 4 a0, aR 4 a1]) [] (ST0 q, m)) (kt_X4_become q) :=
  (simk_run hcs 10 []
    (simt_bind fun o1 =>
      (simt_ret (some (none, (ST0 q, o1.2))) (fun _ => rfl)))
  (fun _ => rfl))
noncomputable def kt_X4_tellOf (q : Nat) : Int32 × MM → Nat → Option Out := fun x _ => some (some (aI x.1), (ST0 q, x.2))
theorem pfX4_tellOf (q : Nat) (hcs : CSm (csF q)) (a0 : Nat) (a1 : Int32) (m : MM) : SimK (fX4_tellOf_b a0 a1 m) (fun n => brun false (0, 0) (csF q) (lkb tX4_tellOf) n 0 (entL 2 [aR 4 a0, aI a1]) [] (ST0 q, m)) (kt_X4_tellOf q) :=
  (simk_run hcs 10 []
    (simt_ite
      (simt_ite
        (simt_ret (some (some (aI (m.1 4 a0 2)), (ST0 q, m))) (fun _ => rfl))
        (simt_ret (some (some (aI (m.1 4 a0 1)), (ST0 q, m))) (fun _ => rfl)))
      (simt_ret (some (some (aI (m.1 4 a0 0)), (ST0 q, m))) (fun _ => rfl)))
  (fun _ => rfl))
noncomputable def kt_X4_stroll (q : Nat) : Unit × MM → Nat → Option Out := fun x _ => some (none, (ST0 q, x.2))
noncomputable def hfX4_stroll_b2 (q : Nat) (a0 : Nat) (a1 : Int32) (s : Int32) (m : MM) (n : Nat) : Option Out := brun false (0, 0) (csF q) (lkb tX4_stroll) n 2 [some (aR 4 a0), some (aI a1), some (aI s)] [] (ST0 q, m)
noncomputable def kxfX4_stroll_b2 (q : Nat) (a0 : Nat) (a1 : Int32) (y : (Unit) × MM) (n : Nat) : Option Out := brun false (0, 0) (csF q) (lkb tX4_stroll) n 82 [none, none, none] [] (ST0 q, y.2)
theorem pfX4_stroll_j35 (q : Nat) (hcs : CSm (csF q)) (a0 : Nat) (a1 : Int32) (a2 : Int32) (m : MM) : SimK (fX4_stroll_j35 a0 a1 a2 m) (fun n => brun false (0, 0) (csF q) (lkb tX4_stroll) n 35 [some (aR 4 a0), some (aI a1), some (aI a2)] [] (ST0 q, m)) (lpK (hfX4_stroll_b2 q a0 a1) (kxfX4_stroll_b2 q a0 a1)) :=
  (simk_run hcs 23 [2]
    (simt_ite
      (simt_ite
        (simt_go hcs (.s _ (.s _ (.s _ .nil))) (fun _ => rfl))
        (simt_go hcs (.s _ (.s _ (.s _ .nil))) (fun _ => rfl)))
      (simt_ite
        (simt_ite
          (simt_go hcs (.s _ (.s _ (.s _ .nil))) (fun _ => rfl))
          (simt_go hcs (.s _ (.s _ (.s _ .nil))) (fun _ => rfl)))
        (simt_ite
          (simt_go hcs (.s _ (.s _ (.s _ .nil))) (fun _ => rfl))
          (simt_go hcs (.s _ (.s _ (.s _ .nil))) (fun _ => rfl)))))
  (fun _ => rfl))
theorem pfX4_stroll_b2 (q : Nat) (hcs : CSm (csF q)) (a0 : Nat) (a1 : Int32) (s : Int32) (m : MM) : SimK (fX4_stroll_b2 a0 a1 s m) (hfX4_stroll_b2 q a0 a1 s m) (lpK (hfX4_stroll_b2 q a0 a1) (kxfX4_stroll_b2 q a0 a1)) :=
  (simk_run hcs 30 [2, 35, 82]
    (simt_ite
      (simt_go hcs (.n _ (.n _ (.n _ .nil))) (fun _ => rfl))
      (simt_ite
        (simt_join hcs (.s _ (.s _ (.s _ .nil))) (pfX4_stroll_j35 q hcs a0 a1 s m))
        (simt_ite
          (simt_join hcs (.s _ (.s _ (.s _ .nil))) (pfX4_stroll_j35 q hcs a0 a1 s m))
          (simt_ite
            (simt_go hcs (.s _ (.s _ (.s _ .nil))) (fun _ => rfl))
            (simt_go hcs (.s _ (.s _ (.s _ .nil))) (fun _ => rfl))))))
  (fun _ => rfl))
theorem pfX4_stroll_b2_l (q : Nat) (hcs : CSm (csF q)) (a0 : Nat) (a1 : Int32) (s : Int32) (m : MM) : SimK (loopF 1000 (fX4_stroll_b2 a0 a1) s m) (hfX4_stroll_b2 q a0 a1 s m) (kxfX4_stroll_b2 q a0 a1) :=
  simk_loopF (fun s m => pfX4_stroll_b2 q hcs a0 a1 s m) 1000 s m
theorem pfX4_stroll (q : Nat) (hcs : CSm (csF q)) (a0 : Nat) (a1 : Int32) (m : MM) : SimK (fX4_stroll_b a0 a1 m) (fun n => brun false (0, 0) (csF q) (lkb tX4_stroll) n 0 (entL 3 [aR 4 a0, aI a1]) [] (ST0 q, m)) (kt_X4_stroll q) :=
  (simk_run hcs 3 [2]
    (simt_loop hcs (.s _ (.s _ (.s _ .nil))) (pfX4_stroll_b2_l q hcs a0 a1 0 m) (fun o1 => 
      (simk_run hcs 2 []
        (simt_ret (some (none, (ST0 q, o1.2))) (fun _ => rfl))
      (fun _ => rfl))))
  (fun _ => rfl))
noncomputable def kt_X5_flow (q : Nat) : Int32 × MM → Nat → Option Out := fun x _ => some (some (aI x.1), (ST0 q, x.2))
theorem pfX5_flow (q : Nat) (hcs : CSm (csF q)) (a0 : Nat) (a1 : Int32) (m : MM) : SimK (fX5_flow_b a0 a1 m) (fun n => brun false (0, 0) (csF q) (lkb tX5_flow) n 0 (entL 2 [aR 5 a0, aI a1]) [] (ST0 q, m)) (kt_X5_flow q) :=
  (simk_run hcs 14 []
    (simt_ite
      (simt_ret (some (some (aI 3), (ST0 q, m))) (fun _ => rfl))
      (simt_ite
        (simt_ret (some (some (aI 3), (ST0 q, m))) (fun _ => rfl))
        (simt_bif
          (simt_ret (some (some (aI (m.1 40 a0 a1.toNatClampNeg)), (ST0 q, m))) (fun _ => rfl)))))
  (fun _ => rfl))
noncomputable def kt_X5_become (q : Nat) : Unit × MM → Nat → Option Out := fun x _ => some (none, (ST0 q, x.2))
noncomputable def hfX5_become_b58 (q : Nat) (a0 : Nat) (a1 : Nat) (s : Int32) (m : MM) (n : Nat) : Option Out := brun false (0, 0) (csF q) (lkb tX5_become) n 58 [some (aR 5 a0), some (aR 5 a1), some (aI s), none, none] [] (ST0 q, m)
noncomputable def kxfX5_become_b58 (q : Nat) (a0 : Nat) (a1 : Nat) (y : (Unit) × MM) (n : Nat) : Option Out := brun false (0, 0) (csF q) (lkb tX5_become) n 84 [some (aR 5 a0), some (aR 5 a1), none, none, none] [] (ST0 q, y.2)
theorem pfX5_become_b58 (q : Nat) (hcs : CSm (csF q)) (a0 : Nat) (a1 : Nat) (s : Int32) (m : MM) : SimK (fX5_become_b58 a0 a1 s m) (hfX5_become_b58 q a0 a1 s m) (lpK (hfX5_become_b58 q a0 a1) (kxfX5_become_b58 q a0 a1)) :=
  (simk_run hcs 15 [58, 84]
    (simt_ite
      (simt_go hcs (.s _ (.s _ (.n _ (.n _ (.n _ .nil))))) (fun _ => rfl))
      (simt_bind fun o1 =>
        (simt_bif
          (simt_go hcs (.s _ (.s _ (.s _ (.n _ (.n _ .nil))))) (fun _ => rfl)))))
  (fun _ => rfl))
theorem pfX5_become_b58_l (q : Nat) (hcs : CSm (csF q)) (a0 : Nat) (a1 : Nat) (s : Int32) (m : MM) : SimK (loopF 1000 (fX5_become_b58 a0 a1) s m) (hfX5_become_b58 q a0 a1 s m) (kxfX5_become_b58 q a0 a1) :=
  simk_loopF (fun s m => pfX5_become_b58 q hcs a0 a1 s m) 1000 s m
noncomputable def hfX5_become_b86 (q : Nat) (a0 : Nat) (a1 : Nat) (s : Int32) (m : MM) (n : Nat) : Option Out := brun false (0, 0) (csF q) (lkb tX5_become) n 86 [some (aR 5 a0), some (aR 5 a1), some (aI s), none, none] [] (ST0 q, m)
noncomputable def kxfX5_become_b86 (q : Nat) (a0 : Nat) (a1 : Nat) (y : (Unit) × MM) (n : Nat) : Option Out := brun false (0, 0) (csF q) (lkb tX5_become) n 128 [some (aR 5 a0), some (aR 5 a1), none, none, none] [] (ST0 q, y.2)
theorem pfX5_become_b86 (q : Nat) (hcs : CSm (csF q)) (a0 : Nat) (a1 : Nat) (s : Int32) (m : MM) : SimK (fX5_become_b86 a0 a1 s m) (hfX5_become_b86 q a0 a1 s m) (lpK (hfX5_become_b86 q a0 a1) (kxfX5_become_b86 q a0 a1)) :=
  (simk_run hcs 22 [86, 128]
    (simt_ite
      (simt_go hcs (.s _ (.s _ (.n _ (.n _ (.n _ .nil))))) (fun _ => rfl))
      (simt_bindO (fun o3 =>
        (simt_bindO (fun o5 =>
          (simt_go hcs (.s _ (.s _ (.s _ (.n _ (.n _ .nil))))) (fun _ => rfl))) (fun o5 i6 =>
          (simt_go hcs (.s _ (.s _ (.s _ (.n _ (.n _ .nil))))) (fun _ => rfl))))) (fun o3 i4 =>
        (simt_bindO (fun o7 =>
          (simt_go hcs (.s _ (.s _ (.s _ (.n _ (.n _ .nil))))) (fun _ => rfl))) (fun o7 i8 =>
          (simt_bind fun o9 =>
            (simt_go hcs (.s _ (.s _ (.s _ (.n _ (.n _ .nil))))) (fun _ => rfl))))))))
  (fun _ => rfl))
theorem pfX5_become_b86_l (q : Nat) (hcs : CSm (csF q)) (a0 : Nat) (a1 : Nat) (s : Int32) (m : MM) : SimK (loopF 1000 (fX5_become_b86 a0 a1) s m) (hfX5_become_b86 q a0 a1 s m) (kxfX5_become_b86 q a0 a1) :=
  simk_loopF (fun s m => pfX5_become_b86 q hcs a0 a1 s m) 1000 s m
noncomputable def hfX5_become_b130 (q : Nat) (a0 : Nat) (a1 : Nat) (s : Int32) (m : MM) (n : Nat) : Option Out := brun false (0, 0) (csF q) (lkb tX5_become) n 130 [some (aR 5 a0), some (aR 5 a1), some (aI s), none, none] [] (ST0 q, m)
noncomputable def kxfX5_become_b130 (q : Nat) (a0 : Nat) (a1 : Nat) (y : (Unit) × MM) (n : Nat) : Option Out := brun false (0, 0) (csF q) (lkb tX5_become) n 172 [none, none, none, none, none] [] (ST0 q, y.2)
theorem pfX5_become_b130 (q : Nat) (hcs : CSm (csF q)) (a0 : Nat) (a1 : Nat) (s : Int32) (m : MM) : SimK (fX5_become_b130 a0 a1 s m) (hfX5_become_b130 q a0 a1 s m) (lpK (hfX5_become_b130 q a0 a1) (kxfX5_become_b130 q a0 a1)) :=
  (simk_run hcs 22 [130, 172]
    (simt_ite
      (simt_go hcs (.n _ (.n _ (.n _ (.n _ (.n _ .nil))))) (fun _ => rfl))
      (simt_bindO (fun o11 =>
        (simt_bindO (fun o13 =>
          (simt_go hcs (.s _ (.s _ (.s _ (.n _ (.n _ .nil))))) (fun _ => rfl))) (fun o13 i14 =>
          (simt_go hcs (.s _ (.s _ (.s _ (.n _ (.n _ .nil))))) (fun _ => rfl))))) (fun o11 i12 =>
        (simt_bindO (fun o15 =>
          (simt_go hcs (.s _ (.s _ (.s _ (.n _ (.n _ .nil))))) (fun _ => rfl))) (fun o15 i16 =>
          (simt_bind fun o17 =>
            (simt_go hcs (.s _ (.s _ (.s _ (.n _ (.n _ .nil))))) (fun _ => rfl))))))))
  (fun _ => rfl))
theorem pfX5_become_b130_l (q : Nat) (hcs : CSm (csF q)) (a0 : Nat) (a1 : Nat) (s : Int32) (m : MM) : SimK (loopF 1000 (fX5_become_b130 a0 a1) s m) (hfX5_become_b130 q a0 a1 s m) (kxfX5_become_b130 q a0 a1) :=
  simk_loopF (fun s m => pfX5_become_b130 q hcs a0 a1 s m) 1000 s m
theorem pfX5_become (q : Nat) (hcs : CSm (csF q)) (a0 : Nat) (a1 : Nat) (m : MM) : SimK (fX5_become_b a0 a1 m) (fun n => brun false (0, 0) (csF q) (lkb tX5_become) n 0 (entL 5 [aR 5 a0, aR 5 a1]) [] (ST0 q, m)) (kt_X5_become q) :=
  (simk_run hcs 31 [58]
    (simt_loop hcs (.s _ (.s _ (.s _ (.n _ (.n _ .nil))))) (pfX5_become_b58_l q hcs a0 a1 0 ((upI (upI (upI (upI (upI (upI (upI m.1 5 a0 0 (m.1 5 a1 0)) 5 a0 1 ((upI m.1 5 a0 0 (m.1 5 a1 0)) 5 a1 1)) 5 a0 2 ((upI (upI m.1 5 a0 0 (m.1 5 a1 0)) 5 a0 1 ((upI m.1 5 a0 0 (m.1 5 a1 0)) 5 a1 1)) 5 a1 2)) 5 a0 3 ((upI (upI (upI m.1 5 a0 0 (m.1 5 a1 0)) 5 a0 1 ((upI m.1 5 a0 0 (m.1 5 a1 0)) 5 a1 1)) 5 a0 2 ((upI (upI m.1 5 a0 0 (m.1 5 a1 0)) 5 a0 1 ((upI m.1 5 a0 0 (m.1 5 a1 0)) 5 a1 1)) 5 a1 2)) 5 a1 3)) 5 a0 4 ((upI (upI (upI (upI m.1 5 a0 0 (m.1 5 a1 0)) 5 a0 1 ((upI m.1 5 a0 0 (m.1 5 a1 0)) 5 a1 1)) 5 a0 2 ((upI (upI m.1 5 a0 0 (m.1 5 a1 0)) 5 a0 1 ((upI m.1 5 a0 0 (m.1 5 a1 0)) 5 a1 1)) 5 a1 2)) 5 a0 3 ((upI (upI (upI m.1 5 a0 0 (m.1 5 a1 0)) 5 a0 1 ((upI m.1 5 a0 0 (m.1 5 a1 0)) 5 a1 1)) 5 a0 2 ((upI (upI m.1 5 a0 0 (m.1 5 a1 0)) 5 a0 1 ((upI m.1 5 a0 0 (m.1 5 a1 0)) 5 a1 1)) 5 a1 2)) 5 a1 3)) 5 a1 4)) 5 a0 5 ((upI (upI (upI (upI (upI m.1 5 a0 0 (m.1 5 a1 0)) 5 a0 1 ((upI m.1 5 a0 0 (m.1 5 a1 0)) 5 a1 1)) 5 a0 2 ((upI (upI m.1 5 a0 0 (m.1 5 a1 0)) 5 a0 1 ((upI m.1 5 a0 0 (m.1 5 a1 0)) 5 a1 1)) 5 a1 2)) 5 a0 3 ((upI (upI (upI m.1 5 a0 0 (m.1 5 a1 0)) 5 a0 1 ((upI m.1 5 a0 0 (m.1 5 a1 0)) 5 a1 1)) 5 a0 2 ((upI (upI m.1 5 a0 0 (m.1 5 a1 0)) 5 a0 1 ((upI m.1 5 a0 0 (m.1 5 a1 0)) 5 a1 1)) 5 a1 2)) 5 a1 3)) 5 a0 4 ((upI (upI (upI (upI m.1 5 a0 0 (m.1 5 a1 0)) 5 a0 1 ((upI m.1 5 a0 0 (m.1 5 a1 0)) 5 a1 1)) 5 a0 2 ((upI (upI m.1 5 a0 0 (m.1 5 a1 0)) 5 a0 1 ((upI m.1 5 a0 0 (m.1 5 a1 0)) 5 a1 1)) 5 a1 2)) 5 a0 3 ((upI (upI (upI m.1 5 a0 0 (m.1 5 a1 0)) 5 a0 1 ((upI m.1 5 a0 0 (m.1 5 a1 0)) 5 a1 1)) 5 a0 2 ((upI (upI m.1 5 a0 0 (m.1 5 a1 0)) 5 a0 1 ((upI m.1 5 a0 0 (m.1 5 a1 0)) 5 a1 1)) 5 a1 2)) 5 a1 3)) 5 a1 4)) 5 a1 5)) 5 a0 6 ((upI (upI (upI (upI (upI (upI m.1 5 a0 0 (m.1 5 a1 0)) 5 a0 1 ((upI m.1 5 a0 0 (m.1 5 a1 0)) 5 a1 1)) 5 a0 2 ((upI (upI m.1 5 a0 0 (m.1 5 a1 0)) 5 a0 1 ((upI m.1 5 a0 0 (m.1 5 a1 0)) 5 a1 1)) 5 a1 2)) 5 a0 3 ((upI (upI (upI m.1 5 a0 0 (m.1 5 a1 0)) 5 a0 1 ((upI m.1 5 a0 0 (m.1 5 a1 0)) 5 a1 1)) 5 a0 2 ((upI (upI m.1 5 a0 0 (m.1 5 a1 0)) 5 a0 1 ((upI m.1 5 a0 0 (m.1 5 a1 0)) 5 a1 1)) 5 a1 2)) 5 a1 3)) 5 a0 4 ((upI (upI (upI (upI m.1 5 a0 0 (m.1 5 a1 0)) 5 a0 1 ((upI m.1 5 a0 0 (m.1 5 a1 0)) 5 a1 1)) 5 a0 2 ((upI (upI m.1 5 a0 0 (m.1 5 a1 0)) 5 a0 1 ((upI m.1 5 a0 0 (m.1 5 a1 0)) 5 a1 1)) 5 a1 2)) 5 a0 3 ((upI (upI (upI m.1 5 a0 0 (m.1 5 a1 0)) 5 a0 1 ((upI m.1 5 a0 0 (m.1 5 a1 0)) 5 a1 1)) 5 a0 2 ((upI (upI m.1 5 a0 0 (m.1 5 a1 0)) 5 a0 1 ((upI m.1 5 a0 0 (m.1 5 a1 0)) 5 a1 1)) 5 a1 2)) 5 a1 3)) 5 a1 4)) 5 a0 5 ((upI (upI (upI (upI (upI m.1 5 a0 0 (m.1 5 a1 0)) 5 a0 1 ((upI m.1 5 a0 0 (m.1 5 a1 0)) 5 a1 1)) 5 a0 2 ((upI (upI m.1 5 a0 0 (m.1 5 a1 0)) 5 a0 1 ((upI m.1 5 a0 0 (m.1 5 a1 0)) 5 a1 1)) 5 a1 2)) 5 a0 3 ((upI (upI (upI m.1 5 a0 0 (m.1 5 a1 0)) 5 a0 1 ((upI m.1 5 a0 0 (m.1 5 a1 0)) 5 a1 1)) 5 a0 2 ((upI (upI m.1 5 a0 0 (m.1 5 a1 0)) 5 a0 1 ((upI m.1 5 a0 0 (m.1 5 a1 0)) 5 a1 1)) 5 a1 2)) 5 a1 3)) 5 a0 4 ((upI (upI (upI (upI m.1 5 a0 0 (m.1 5 a1 0)) 5 a0 1 ((upI m.1 5 a0 0 (m.1 5 a1 0)) 5 a1 1)) 5 a0 2 ((upI (upI m.1 5 a0 0 (m.1 5 a1 0)) 5 a0 1 ((upI m.1 5 a0 0 (m.1 5 a1 0)) 5 a1 1)) 5 a1 2)) 5 a0 3 ((upI (upI (upI m.1 5 a0 0 (m.1 5 a1 0)) 5 a0 1 ((upI m.1 5 a0 0 (m.1 5 a1 0)) 5 a1 1)) 5 a0 2 ((upI (upI m.1 5 a0 0 (m.1 5 a1 0)) 5 a0 1 ((upI m.1 5 a0 0 (m.1 5 a1 0)) 5 a1 1)) 5 a1 2)) 5 a1 3)) 5 a1 4)) 5 a1 5)) 5 a1 6)), m.2)) (fun o2 => 
      (simk_run hcs 3 [86]
        (simt_loop hcs (.s _ (.s _ (.s _ (.n _ (.n _ .nil))))) (pfX5_become_b86_l q hcs a0 a1 0 o2.2) (fun o10 => 
          (simk_run hcs 3 [130]
            (simt_loop hcs (.s _ (.s _ (.s _ (.n _ (.n _ .nil))))) (pfX5_become_b130_l q hcs a0 a1 0 o10.2) (fun o18 => 
              (simk_run hcs 2 []
                (simt_ret (some (none, (ST0 q, o18.2))) (fun _ => rfl))
              (fun _ => rfl))))
          (fun _ => rfl))))
      (fun _ => rfl))))
  (fun _ => rfl))
noncomputable def kt_X5_hasCell (q : Nat) : Bool × MM → Nat → Option Out := fun x _ => some (some (aI (bI x.1)), (ST0 q, x.2))
theorem pfX5_hasCell (q : Nat) (hcs : CSm (csF q)) (a0 : Nat) (a1 : Int32) (m : MM) : SimK (fX5_hasCell_b a0 a1 m) (fun n => brun false (0, 0) (csF q) (lkb tX5_hasCell) n 0 (entL 2 [aR 5 a0, aI a1]) [] (ST0 q, m)) (kt_X5_hasCell q) :=
  (simk_run hcs 10 []
    (simt_ite
      (simt_ret (some (some (aI 0), (ST0 q, m))) (fun _ => rfl))
      (simt_ite
        (simt_ret (some (some (aI 0), (ST0 q, m))) (fun _ => rfl))
        (simt_ret (some (some (aI 1), (ST0 q, m))) (fun _ => rfl))))
  (fun _ => rfl))
noncomputable def kt_X5_addressedTo (q : Nat) : Int32 × MM → Nat → Option Out := fun x _ => some (some (aI x.1), (ST0 q, x.2))
noncomputable def hfX5_addressedTo_b4 (q : Nat) (a0 : Nat) (a1 : Int32) (s : Int32 × Int32) (m : MM) (n : Nat) : Option Out := brun false (0, 0) (csF q) (lkb tX5_addressedTo) n 4 [some (aR 5 a0), some (aI a1), some (aI s.1), some (aI s.2), none] [] (ST0 q, m)
noncomputable def kxfX5_addressedTo_b4 (q : Nat) (a0 : Nat) (a1 : Int32) (y : (Int32) × MM) (n : Nat) : Option Out := brun false (0, 0) (csF q) (lkb tX5_addressedTo) n 45 [none, none, some (aI y.1), none, none] [] (ST0 q, y.2)
theorem pfX5_addressedTo_b4 (q : Nat) (hcs : CSm (csF q)) (a0 : Nat) (a1 : Int32) (s : Int32 × Int32) (m : MM) : SimK (fX5_addressedTo_b4 a0 a1 s m) (hfX5_addressedTo_b4 q a0 a1 s m) (lpK (hfX5_addressedTo_b4 q a0 a1) (kxfX5_addressedTo_b4 q a0 a1)) :=
  (simk_run hcs 23 [4, 45]
    (simt_ite
      (simt_go hcs (.n _ (.n _ (.s _ (.n _ (.n _ .nil))))) (fun _ => rfl))
      (simt_bindO (fun o1 =>
        (simt_go hcs (.s _ (.s _ (.s _ (.s _ (.n _ .nil))))) (fun _ => rfl))) (fun o1 i2 =>
        (simt_ite
          (simt_go hcs (.s _ (.s _ (.s _ (.s _ (.n _ .nil))))) (fun _ => rfl))
          (simt_go hcs (.s _ (.s _ (.s _ (.s _ (.n _ .nil))))) (fun _ => rfl))))))
  (fun _ => rfl))
theorem pfX5_addressedTo_b4_l (q : Nat) (hcs : CSm (csF q)) (a0 : Nat) (a1 : Int32) (s : Int32 × Int32) (m : MM) : SimK (loopF 1000 (fX5_addressedTo_b4 a0 a1) s m) (hfX5_addressedTo_b4 q a0 a1 s m) (kxfX5_addressedTo_b4 q a0 a1) :=
  simk_loopF (fun s m => pfX5_addressedTo_b4 q hcs a0 a1 s m) 1000 s m
theorem pfX5_addressedTo (q : Nat) (hcs : CSm (csF q)) (a0 : Nat) (a1 : Int32) (m : MM) : SimK (fX5_addressedTo_b a0 a1 m) (fun n => brun false (0, 0) (csF q) (lkb tX5_addressedTo) n 0 (entL 5 [aR 5 a0, aI a1]) [] (ST0 q, m)) (kt_X5_addressedTo q) :=
  (simk_run hcs 5 [4]
    (simt_loop hcs (.s _ (.s _ (.s _ (.s _ (.n _ .nil))))) (pfX5_addressedTo_b4_l q hcs a0 a1 (0, 0) m) (fun o3 => 
      (simk_run hcs 3 []
        (simt_ret (some (some (aI o3.1), (ST0 q, o3.2))) (fun _ => rfl))
      (fun _ => rfl))))
  (fun _ => rfl))
noncomputable def kt_X5_afloatIn (q : Nat) : Int32 × MM → Nat → Option Out := fun x _ => some (some (aI x.1), (ST0 q, x.2))
noncomputable def hfX5_afloatIn_b4 (q : Nat) (a0 : Nat) (a1 : Int32) (s : Int32 × Int32) (m : MM) (n : Nat) : Option Out := brun false (0, 0) (csF q) (lkb tX5_afloatIn) n 4 [some (aR 5 a0), some (aI a1), some (aI s.1), some (aI s.2), none] [] (ST0 q, m)
noncomputable def kxfX5_afloatIn_b4 (q : Nat) (a0 : Nat) (a1 : Int32) (y : (Int32) × MM) (n : Nat) : Option Out := brun false (0, 0) (csF q) (lkb tX5_afloatIn) n 53 [none, none, some (aI y.1), none, none] [] (ST0 q, y.2)
theorem pfX5_afloatIn_b4 (q : Nat) (hcs : CSm (csF q)) (a0 : Nat) (a1 : Int32) (s : Int32 × Int32) (m : MM) : SimK (fX5_afloatIn_b4 a0 a1 s m) (hfX5_afloatIn_b4 q a0 a1 s m) (lpK (hfX5_afloatIn_b4 q a0 a1) (kxfX5_afloatIn_b4 q a0 a1)) :=
  (simk_run hcs 26 [4, 53]
    (simt_ite
      (simt_go hcs (.n _ (.n _ (.s _ (.n _ (.n _ .nil))))) (fun _ => rfl))
      (simt_bindO (fun o1 =>
        (simt_go hcs (.s _ (.s _ (.s _ (.s _ (.n _ .nil))))) (fun _ => rfl))) (fun o1 i2 =>
        (simt_ite
          (simt_go hcs (.s _ (.s _ (.s _ (.s _ (.n _ .nil))))) (fun _ => rfl))
          (simt_ite
            (simt_go hcs (.s _ (.s _ (.s _ (.s _ (.n _ .nil))))) (fun _ => rfl))
            (simt_go hcs (.s _ (.s _ (.s _ (.s _ (.n _ .nil))))) (fun _ => rfl)))))))
  (fun _ => rfl))
theorem pfX5_afloatIn_b4_l (q : Nat) (hcs : CSm (csF q)) (a0 : Nat) (a1 : Int32) (s : Int32 × Int32) (m : MM) : SimK (loopF 1000 (fX5_afloatIn_b4 a0 a1) s m) (hfX5_afloatIn_b4 q a0 a1 s m) (kxfX5_afloatIn_b4 q a0 a1) :=
  simk_loopF (fun s m => pfX5_afloatIn_b4 q hcs a0 a1 s m) 1000 s m
theorem pfX5_afloatIn (q : Nat) (hcs : CSm (csF q)) (a0 : Nat) (a1 : Int32) (m : MM) : SimK (fX5_afloatIn_b a0 a1 m) (fun n => brun false (0, 0) (csF q) (lkb tX5_afloatIn) n 0 (entL 5 [aR 5 a0, aI a1]) [] (ST0 q, m)) (kt_X5_afloatIn q) :=
  (simk_run hcs 5 [4]
    (simt_loop hcs (.s _ (.s _ (.s _ (.s _ (.n _ .nil))))) (pfX5_afloatIn_b4_l q hcs a0 a1 (0, 0) m) (fun o3 => 
      (simk_run hcs 3 []
        (simt_ret (some (some (aI o3.1), (ST0 q, o3.2))) (fun _ => rfl))
      (fun _ => rfl))))
  (fun _ => rfl))
noncomputable def kt_X5_walkersAt (q : Nat) : Int32 × MM → Nat → Option Out := fun x _ => some (some (aI x.1), (ST0 q, x.2))
noncomputable def hfX5_walkersAt_b4 (q : Nat) (a0 : Nat) (a1 : Int32) (s : Int32 × Int32) (m : MM) (n : Nat) : Option Out := brun false (0, 0) (csF q) (lkb tX5_walkersAt) n 4 [some (aR 5 a0), some (aI a1), some (aI s.1), some (aI s.2), none] [] (ST0 q, m)
noncomputable def kxfX5_walkersAt_b4 (q : Nat) (a0 : Nat) (a1 : Int32) (y : (Int32) × MM) (n : Nat) : Option Out := brun false (0, 0) (csF q) (lkb tX5_walkersAt) n 45 [none, none, some (aI y.1), none, none] [] (ST0 q, y.2)
theorem pfX5_walkersAt_b4 (q : Nat) (hcs : CSm (csF q)) (a0 : Nat) (a1 : Int32) (s : Int32 × Int32) (m : MM) : SimK (fX5_walkersAt_b4 a0 a1 s m) (hfX5_walkersAt_b4 q a0 a1 s m) (lpK (hfX5_walkersAt_b4 q a0 a1) (kxfX5_walkersAt_b4 q a0 a1)) :=
  (simk_run hcs 23 [4, 45]
    (simt_ite
      (simt_go hcs (.n _ (.n _ (.s _ (.n _ (.n _ .nil))))) (fun _ => rfl))
      (simt_bindO (fun o1 =>
        (simt_go hcs (.s _ (.s _ (.s _ (.s _ (.n _ .nil))))) (fun _ => rfl))) (fun o1 i2 =>
        (simt_ite
          (simt_go hcs (.s _ (.s _ (.s _ (.s _ (.n _ .nil))))) (fun _ => rfl))
          (simt_go hcs (.s _ (.s _ (.s _ (.s _ (.n _ .nil))))) (fun _ => rfl))))))
  (fun _ => rfl))
theorem pfX5_walkersAt_b4_l (q : Nat) (hcs : CSm (csF q)) (a0 : Nat) (a1 : Int32) (s : Int32 × Int32) (m : MM) : SimK (loopF 1000 (fX5_walkersAt_b4 a0 a1) s m) (hfX5_walkersAt_b4 q a0 a1 s m) (kxfX5_walkersAt_b4 q a0 a1) :=
  simk_loopF (fun s m => pfX5_walkersAt_b4 q hcs a0 a1 s m) 1000 s m
theorem pfX5_walkersAt (q : Nat) (hcs : CSm (csF q)) (a0 : Nat) (a1 : Int32) (m : MM) : SimK (fX5_walkersAt_b a0 a1 m) (fun n => brun false (0, 0) (csF q) (lkb tX5_walkersAt) n 0 (entL 5 [aR 5 a0, aI a1]) [] (ST0 q, m)) (kt_X5_walkersAt q) :=
  (simk_run hcs 5 [4]
    (simt_loop hcs (.s _ (.s _ (.s _ (.s _ (.n _ .nil))))) (pfX5_walkersAt_b4_l q hcs a0 a1 (0, 0) m) (fun o3 => 
      (simk_run hcs 3 []
        (simt_ret (some (some (aI o3.1), (ST0 q, o3.2))) (fun _ => rfl))
      (fun _ => rfl))))
  (fun _ => rfl))
noncomputable def kt_X5_dayBehind (q : Nat) : Int32 × MM → Nat → Option Out := fun x _ => some (some (aI x.1), (ST0 q, x.2))
theorem pfX5_dayBehind (q : Nat) (hcs : CSm (csF q)) (a0 : Nat) (a1 : Int32) (m : MM) : SimK (fX5_dayBehind_b a0 a1 m) (fun n => brun false (0, 0) (csF q) (lkb tX5_dayBehind) n 0 (entL 2 [aR 5 a0, aI a1]) [] (ST0 q, m)) (kt_X5_dayBehind q) :=
  (simk_run hcs 8 []
    (simt_ret (some (some (aI (mnI 999 ((m.1 5 a0 2) + a1))), (ST0 q, m))) (fun _ => rfl))
  (fun _ => rfl))
noncomputable def kt_X5_push (q : Nat) : Int32 × MM → Nat → Option Out := fun x _ => some (some (aI x.1), (ST0 q, x.2))
theorem pfX5_push (q : Nat) (hcs : CSm (csF q)) (a0 : Nat) (a1 : Nat) (a2 : Int32) (m : MM) : SimK (fX5_push_b a0 a1 a2 m) (fun n => brun false (0, 0) (csF q) (lkb tX5_push) n 0 (entL 5 [aR 5 a0, aR 0 a1, aI a2]) [] (ST0 q, m)) (kt_X5_push q) :=
  (simk_run hcs 29 []
    (simt_bind fun o1 =>
      (simt_ite
        (simt_ret (some (some (aI (o1.1 - 3)), (ST0 q, o1.2))) (fun _ => rfl))
        (simt_ite
          (simt_ret (some (some (aI ((o1.1 - 3) + (2 * ((o1.2.1 5 a0 1) - 2)))), (ST0 q, o1.2))) (fun _ => rfl))
          (simt_ite
            (simt_ite
              (simt_ret (some (some (aI 0), (ST0 q, o1.2))) (fun _ => rfl))
              (simt_ret (some (some (aI (o1.1 - 3)), (ST0 q, o1.2))) (fun _ => rfl)))
            (simt_ite
              (simt_ret (some (some (aI ((((o1.1 - 3) + (2 * ((o1.2.1 5 a0 1) - 2))) + ((o1.2.1 0 a1 1) - (o1.2.1 0 a1 1) / 3 * 3)) - 1)), (ST0 q, o1.2))) (fun _ => rfl))
              (simt_ret (some (some (aI ((o1.1 - 3) + ((o1.2.1 5 a0 1) - 2))), (ST0 q, o1.2))) (fun _ => rfl)))))))
  (fun _ => rfl))
noncomputable def kt_X5_spend (q : Nat) : Unit × MM → Nat → Option Out := fun x _ => some (none, (ST0 q, x.2))
theorem pfX5_spend (q : Nat) (hcs : CSm (csF q)) (a0 : Nat) (a1 : Nat) (a2 : Int32) (a3 : Int32) (m : MM) : SimK (fX5_spend_b a0 a1 a2 a3 m) (fun n => brun false (0, 0) (csF q) (lkb tX5_spend) n 0 (entL 5 [aR 5 a0, aR 0 a1, aI a2, aI a3]) [] (ST0 q, m)) (kt_X5_spend q) :=
  (simk_run hcs 38 []
    (simt_ite
      (simt_bind fun o1 =>
        (simt_bind fun o2 =>
          (simt_ite
            (simt_ite
              (simt_ret (some (none, (ST0 q, ((upI o2.2.1 0 a1 2 (mxI 0 (mnI ((o2.2.1 5 a0 0) - 1) ((o2.2.1 0 a1 2) + o1.1)))), o2.2.2)))) (fun _ => rfl))
              (simt_ret (some (none, (ST0 q, ((upI (upI o2.2.1 0 a1 2 (mxI 0 (mnI ((o2.2.1 5 a0 0) - 1) ((o2.2.1 0 a1 2) + o1.1)))) 0 a1 4 1), o2.2.2)))) (fun _ => rfl)))
            (simt_ret (some (none, (ST0 q, ((upI o2.2.1 0 a1 4 2), o2.2.2)))) (fun _ => rfl)))))
      (simt_ret (some (none, (ST0 q, m))) (fun _ => rfl)))
  (fun _ => rfl))
noncomputable def kt_X5_follow (q : Nat) : Unit × MM → Nat → Option Out := fun x _ => some (none, (ST0 q, x.2))
noncomputable def hfX5_follow_b32n3 (q : Nat) (a0 : Nat) (a1 : Nat) (a4 : Int32) (s : Int32) (m : MM) (n : Nat) : Option Out := brun false (0, 0) (csF q) (lkb tX5_follow) n 32 [some (aR 5 a0), some (aR 3 a1), none, some (aN), some (aI a4), some (aI s)] [] (ST0 q, m)
noncomputable def kxfX5_follow_b32n3 (q : Nat) (a0 : Nat) (a1 : Nat) (a4 : Int32) (y : (Unit) × MM) (n : Nat) : Option Out := brun false (0, 0) (csF q) (lkb tX5_follow) n 101 [none, none, none, none, none, none] [] (ST0 q, y.2)
theorem pfX5_follow_j54 (q : Nat) (hcs : CSm (csF q)) (a0 : Nat) (a1 : Nat) (a4 : Int32) (a5 : Int32) (m : MM) : SimK (fX5_follow_j54 a0 a1 a4 a5 m) (fun n => brun false (0, 0) (csF q) (lkb tX5_follow) n 54 [some (aR 5 a0), some (aR 3 a1), none, some (aN), some (aI a4), some (aI a5)] [] (ST0 q, m)) (lpK (hfX5_follow_b32n3 q a0 a1 a4) (kxfX5_follow_b32n3 q a0 a1 a4)) :=
  (simk_run hcs 21 [32]
    (simt_bind fun o3 =>
      (simt_bind fun o4 =>
        (simt_bind fun o5 =>
          (simt_go hcs (.s _ (.s _ (.n _ (.s _ (.s _ (.s _ .nil)))))) (fun _ => rfl)))))
  (fun _ => rfl))
theorem pfX5_follow_b32n3 (q : Nat) (hcs : CSm (csF q)) (a0 : Nat) (a1 : Nat) (a4 : Int32) (s : Int32) (m : MM) : SimK (fX5_follow_b32n3 a0 a1 a4 s m) (hfX5_follow_b32n3 q a0 a1 a4 s m) (lpK (hfX5_follow_b32n3 q a0 a1 a4) (kxfX5_follow_b32n3 q a0 a1 a4)) :=
  (simk_run hcs 6 [54, 101]
    (simt_ite
      (simt_go hcs (.n _ (.n _ (.n _ (.n _ (.n _ (.n _ .nil)))))) (fun _ => rfl))
      (simt_join hcs (.s _ (.s _ (.n _ (.s _ (.s _ (.s _ .nil)))))) (pfX5_follow_j54 q hcs a0 a1 a4 s m)))
  (fun _ => rfl))
theorem pfX5_follow_b32n3_l (q : Nat) (hcs : CSm (csF q)) (a0 : Nat) (a1 : Nat) (a4 : Int32) (s : Int32) (m : MM) : SimK (loopF 1000 (fX5_follow_b32n3 a0 a1 a4) s m) (hfX5_follow_b32n3 q a0 a1 a4 s m) (kxfX5_follow_b32n3 q a0 a1 a4) :=
  simk_loopF (fun s m => pfX5_follow_b32n3 q hcs a0 a1 a4 s m) 1000 s m
noncomputable def hfX5_follow_b32 (q : Nat) (a0 : Nat) (a1 : Nat) (a3 : Nat) (a4 : Int32) (s : Int32) (m : MM) (n : Nat) : Option Out := brun false (0, 0) (csF q) (lkb tX5_follow) n 32 [some (aR 5 a0), some (aR 3 a1), none, some (aR 4 a3), some (aI a4), some (aI s)] [] (ST0 q, m)
noncomputable def kxfX5_follow_b32 (q : Nat) (a0 : Nat) (a1 : Nat) (a3 : Nat) (a4 : Int32) (y : (Unit) × MM) (n : Nat) : Option Out := brun false (0, 0) (csF q) (lkb tX5_follow) n 101 [none, none, none, none, none, none] [] (ST0 q, y.2)
theorem pfX5_follow_j54_3_32 (q : Nat) (hcs : CSm (csF q)) (a0 : Nat) (a1 : Nat) (a3 : Nat) (a4 : Int32) (a5 : Int32) (m : MM) : SimK (fX5_follow_j54_3_32 a0 a1 a3 a4 a5 m) (fun n => brun false (0, 0) (csF q) (lkb tX5_follow) n 54 [some (aR 5 a0), some (aR 3 a1), none, some (aR 4 a3), some (aI a4), some (aI a5)] [] (ST0 q, m)) (lpK (hfX5_follow_b32 q a0 a1 a3 a4) (kxfX5_follow_b32 q a0 a1 a3 a4)) :=
  (simk_run hcs 22 [32]
    (simt_bind fun o11 =>
      (simt_bind fun o12 =>
        (simt_bind fun o13 =>
          (simt_go hcs (.s _ (.s _ (.n _ (.s _ (.s _ (.s _ .nil)))))) (fun _ => rfl)))))
  (fun _ => rfl))
theorem pfX5_follow_b32 (q : Nat) (hcs : CSm (csF q)) (a0 : Nat) (a1 : Nat) (a3 : Nat) (a4 : Int32) (s : Int32) (m : MM) : SimK (fX5_follow_b32 a0 a1 a3 a4 s m) (hfX5_follow_b32 q a0 a1 a3 a4 s m) (lpK (hfX5_follow_b32 q a0 a1 a3 a4) (kxfX5_follow_b32 q a0 a1 a3 a4)) :=
  (simk_run hcs 11 [54, 101]
    (simt_ite
      (simt_go hcs (.n _ (.n _ (.n _ (.n _ (.n _ (.n _ .nil)))))) (fun _ => rfl))
      (simt_bind fun o10 =>
        (simt_join hcs (.s _ (.s _ (.n _ (.s _ (.s _ (.s _ .nil)))))) (pfX5_follow_j54_3_32 q hcs a0 a1 a3 a4 s o10.2))))
  (fun _ => rfl))
theorem pfX5_follow_b32_l (q : Nat) (hcs : CSm (csF q)) (a0 : Nat) (a1 : Nat) (a3 : Nat) (a4 : Int32) (s : Int32) (m : MM) : SimK (loopF 1000 (fX5_follow_b32 a0 a1 a3 a4) s m) (hfX5_follow_b32 q a0 a1 a3 a4 s m) (kxfX5_follow_b32 q a0 a1 a3 a4) :=
  simk_loopF (fun s m => pfX5_follow_b32 q hcs a0 a1 a3 a4 s m) 1000 s m
theorem pfX5_follow_j20 (q : Nat) (hcs : CSm (csF q)) (a0 : Nat) (a1 : Nat) (a4 : Int32) (m : MM) : SimK (fX5_follow_j20 a0 a1 a4 m) (fun n => brun false (0, 0) (csF q) (lkb tX5_follow) n 20 [some (aR 5 a0), some (aR 3 a1), none, some (aN), some (aI a4), none] [] (ST0 q, m)) (kt_X5_follow q) :=
  (simk_run hcs 8 [32]
    (simt_bind fun o2 =>
      (simt_loop hcs (.s _ (.s _ (.n _ (.s _ (.s _ (.s _ .nil)))))) (pfX5_follow_b32n3_l q hcs a0 a1 a4 1 o2.2) (fun o6 => 
        (simk_run hcs 2 []
          (simt_ret (some (none, (ST0 q, o6.2))) (fun _ => rfl))
        (fun _ => rfl)))))
  (fun _ => rfl))
theorem pfX5_follow_j20_2 (q : Nat) (hcs : CSm (csF q)) (a0 : Nat) (a1 : Nat) (a3 : Nat) (a4 : Int32) (m : MM) : SimK (fX5_follow_j20_2 a0 a1 a3 a4 m) (fun n => brun false (0, 0) (csF q) (lkb tX5_follow) n 20 [some (aR 5 a0), some (aR 3 a1), none, some (aR 4 a3), some (aI a4), none] [] (ST0 q, m)) (kt_X5_follow q) :=
  (simk_run hcs 8 [32]
    (simt_bind fun o9 =>
      (simt_loop hcs (.s _ (.s _ (.n _ (.s _ (.s _ (.s _ .nil)))))) (pfX5_follow_b32_l q hcs a0 a1 a3 a4 1 o9.2) (fun o14 => 
        (simk_run hcs 2 []
          (simt_ret (some (none, (ST0 q, o14.2))) (fun _ => rfl))
        (fun _ => rfl)))))
  (fun _ => rfl))
theorem pfX5_follow0 (q : Nat) (hcs : CSm (csF q)) (a0 : Nat) (a1 : Nat) (a2 : Nat) (a4 : Int32) (m : MM) : SimK (fX5_follow_0 a0 a1 a2 a4 m) (fun n => brun false (0, 0) (csF q) (lkb tX5_follow) n 0 (entL 6 [aR 5 a0, aR 3 a1, aR 0 a2, aN, aI a4]) [] (ST0 q, m)) (kt_X5_follow q) :=
  (simk_run hcs 7 [20]
    (simt_bind fun o1 =>
      (simt_join hcs (.s _ (.s _ (.n _ (.s _ (.s _ (.n _ .nil)))))) (pfX5_follow_j20 q hcs a0 a1 a4 o1.2)))
  (fun _ => rfl))
theorem pfX5_follow1 (q : Nat) (hcs : CSm (csF q)) (a0 : Nat) (a1 : Nat) (a2 : Nat) (a3 : Nat) (a4 : Int32) (m : MM) : SimK (fX5_follow_1 a0 a1 a2 a3 a4 m) (fun n => brun false (0, 0) (csF q) (lkb tX5_follow) n 0 (entL 6 [aR 5 a0, aR 3 a1, aR 0 a2, aR 4 a3, aI a4]) [] (ST0 q, m)) (kt_X5_follow q) :=
  (simk_run hcs 11 [20]
    (simt_bind fun o7 =>
      (simt_bind fun o8 =>
        (simt_join hcs (.s _ (.s _ (.n _ (.s _ (.s _ (.n _ .nil)))))) (pfX5_follow_j20_2 q hcs a0 a1 a3 a4 o8.2))))
  (fun _ => rfl))
