/-! THE FUNCTIONS ARE THE RUNS, 1 -/
def kt_X2_scanNumber (q : Nat) : Unit × MM → Nat → Option Out := fun x _ => some (none, (ST0 q, x.2))
def hfX2_scanNumber_b5 (q : Nat) (a0 : Nat) (s : Unit) (m : MM) (n : Nat) : Option Out := brun false (0, 0) (csF q) (lkb tX2_scanNumber) n 5 [some (aR 2 a0)] [] (ST0 q, m)
def kxfX2_scanNumber_b5 (q : Nat) (a0 : Nat) (y : (Unit) × MM) (n : Nat) : Option Out := brun false (0, 0) (csF q) (lkb tX2_scanNumber) n 83 [none] [] (ST0 q, y.2)
theorem pfX2_scanNumber_b5 (q : Nat) (hcs : CSm (csF q)) (a0 : Nat) (s : Unit) (m : MM) : SimK (fX2_scanNumber_b5 a0 s m) (hfX2_scanNumber_b5 q a0 s m) (lpK (hfX2_scanNumber_b5 q a0) (kxfX2_scanNumber_b5 q a0)) :=
  simk_step 39
    (simk_ite
      (simk_sh 34 hcs (.n _ .nil) simk_leaf)
      (simk_bind fun o1 =>
        (simk_bind fun o2 =>
          (simk_ite
            (simk_sh 28 hcs (.n _ .nil) simk_leaf)
            (simk_ite
              (simk_sh 11 hcs (.s _ .nil) simk_leaf)
              (simk_bind fun o3 =>
                (simk_sh 0 hcs (.s _ .nil) simk_leaf)))))))
    (fun _ => rfl)
theorem pfX2_scanNumber_b5_l (q : Nat) (hcs : CSm (csF q)) (a0 : Nat) (s : Unit) (m : MM) : SimK (loopF 1000 (fX2_scanNumber_b5 a0) s m) (hfX2_scanNumber_b5 q a0 s m) (kxfX2_scanNumber_b5 q a0) :=
  simk_loopF (fun s m => pfX2_scanNumber_b5 q hcs a0 s m) 1000 s m
theorem pfX2_scanNumber (q : Nat) (hcs : CSm (csF q)) (a0 : Nat) (m : MM) : SimK (fX2_scanNumber a0 m) (fun n => brun false (0, 0) (csF q) (lkb tX2_scanNumber) n 0 (entL 1 [aR 2 a0]) [] (ST0 q, m)) (kt_X2_scanNumber q) :=
  simk_step 3
    (simk_loop (simk_sh 0 hcs (.s _ .nil) (pfX2_scanNumber_b5_l q hcs a0 () ((upI m.1 2 a0 5 0), m.2))) (fun o4 => 
      (simk_step 1
        simk_leaf
      (fun _ => rfl))))
    (fun _ => rfl)
def kt_X2_scan (q : Nat) : Unit × MM → Nat → Option Out := fun x _ => some (none, (ST0 q, x.2))
def hfX2_scan_b0 (q : Nat) (a0 : Nat) (s : Unit) (m : MM) (n : Nat) : Option Out := brun false (0, 0) (csF q) (lkb tX2_scan) n 0 [some (aR 2 a0), none] [] (ST0 q, m)
def kxfX2_scan_b0 (q : Nat) (a0 : Nat) (y : (Unit) × MM) (n : Nat) : Option Out := brun false (0, 0) (csF q) (lkb tX2_scan) n 37 [some (aR 2 a0), none] [] (ST0 q, y.2)
theorem pfX2_scan_b0 (q : Nat) (hcs : CSm (csF q)) (a0 : Nat) (s : Unit) (m : MM) : SimK (fX2_scan_b0 a0 s m) (hfX2_scan_b0 q a0 s m) (lpK (hfX2_scan_b0 q a0) (kxfX2_scan_b0 q a0)) :=
  simk_step 18
    (simk_ite
      (simk_sh 13 hcs (.s _ (.n _ .nil)) simk_leaf)
      (simk_bind fun o1 =>
        (simk_ite
          (simk_sh 7 hcs (.s _ (.n _ .nil)) simk_leaf)
          (simk_sh 0 hcs (.s _ (.n _ .nil)) simk_leaf))))
    (fun _ => rfl)
theorem pfX2_scan_b0_l (q : Nat) (hcs : CSm (csF q)) (a0 : Nat) (s : Unit) (m : MM) : SimK (loopF 1000 (fX2_scan_b0 a0) s m) (hfX2_scan_b0 q a0 s m) (kxfX2_scan_b0 q a0) :=
  simk_loopF (fun s m => pfX2_scan_b0 q hcs a0 s m) 1000 s m
def hfX2_scan_b79 (q : Nat) (a0 : Nat) (s : Unit) (m : MM) (n : Nat) : Option Out := brun false (0, 0) (csF q) (lkb tX2_scan) n 79 [some (aR 2 a0), none] [] (ST0 q, m)
def kxfX2_scan_b79 (q : Nat) (a0 : Nat) (y : (Unit) × MM) (n : Nat) : Option Out := brun false (0, 0) (csF q) (lkb tX2_scan) n 161 [none, none] [] (ST0 q, y.2)
theorem pfX2_scan_b79 (q : Nat) (hcs : CSm (csF q)) (a0 : Nat) (s : Unit) (m : MM) : SimK (fX2_scan_b79 a0 s m) (hfX2_scan_b79 q a0 s m) (lpK (hfX2_scan_b79 q a0) (kxfX2_scan_b79 q a0)) :=
  simk_step 18
    (simk_ite
      (simk_sh 13 hcs (.n _ (.n _ .nil)) simk_leaf)
      (simk_bind fun o7 =>
        (simk_bind fun o8 =>
          (simk_ite
            (simk_sh 7 hcs (.n _ (.n _ .nil)) simk_leaf)
            (simk_sh 0 hcs (.s _ (.n _ .nil)) simk_leaf)))))
    (fun _ => rfl)
theorem pfX2_scan_b79_l (q : Nat) (hcs : CSm (csF q)) (a0 : Nat) (s : Unit) (m : MM) : SimK (loopF 1000 (fX2_scan_b79 a0) s m) (hfX2_scan_b79 q a0 s m) (kxfX2_scan_b79 q a0) :=
  simk_loopF (fun s m => pfX2_scan_b79 q hcs a0 s m) 1000 s m
theorem pfX2_scan_j37 (q : Nat) (hcs : CSm (csF q)) (a0 : Nat) (m : MM) : SimK (fX2_scan_j37 a0 m) (fun n => brun false (0, 0) (csF q) (lkb tX2_scan) n 37 [some (aR 2 a0), none] [] (ST0 q, m)) (kt_X2_scan q) :=
  simk_step 32
    (simk_bind fun o3 =>
      (simk_ite
        (simk_bind fun o4 =>
          (simk_ite
            (simk_bind fun o5 =>
              (simk_ite
                (simk_ite
                  simk_leaf
                  simk_leaf)
                (simk_bind fun o6 =>
                  simk_leaf)))
            (simk_loop (simk_sh 14 hcs (.s _ (.n _ .nil)) (pfX2_scan_b79_l q hcs a0 () ((upI o4.2.1 2 a0 4 1), o4.2.2))) (fun o9 => 
              (simk_step 1
                simk_leaf
              (fun _ => rfl))))))
        simk_leaf))
    (fun _ => rfl)
theorem pfX2_scan (q : Nat) (hcs : CSm (csF q)) (a0 : Nat) (m : MM) : SimK (fX2_scan a0 m) (fun n => brun false (0, 0) (csF q) (lkb tX2_scan) n 0 (entL 2 [aR 2 a0]) [] (ST0 q, m)) (kt_X2_scan q) :=
  simk_step 0
    (simk_loop (simk_sh 0 hcs (.s _ (.n _ .nil)) (pfX2_scan_b0_l q hcs a0 () m)) (fun o2 => 
      (simk_step 0
        (simk_sh 0 hcs (.s _ (.n _ .nil)) (pfX2_scan_j37 q hcs a0 o2.2))
      (fun _ => rfl))))
    (fun _ => rfl)
def kt_J0_isLatin1_aae02 (q : Nat) : Bool × MM → Nat → Option Out := fun x _ => some (some (aI (bI x.1)), (ST0 q, x.2))
theorem pfJ0_isLatin1_aae02 (q : Nat) (hcs : CSm (csF q)) (a0 : Nat) (m : MM) : SimK (fJ0_isLatin1_aae02 a0 m) (fun n => brun false (0, 0) (csF q) (lkb tJ0_isLatin1_aae02) n 0 (entL 1 [aR 31 a0]) [] (ST0 q, m)) (kt_J0_isLatin1_aae02 q) :=
  simk_step 8
    (simk_ite
      simk_leaf
      (simk_ite
        simk_leaf
        simk_leaf))
    (fun _ => rfl)
def kt_J3_checkIndex_8e157 (q : Nat) : Int32 × MM → Nat → Option Out := fun x _ => some (some (aI x.1), (ST0 q, x.2))
theorem pfJ3_checkIndex_8e157 (q : Nat) (hcs : CSm (csF q)) (a0 : Int32) (a1 : Int32) (m : MM) : SimK (fJ3_checkIndex_8e157 a0 a1 m) (fun n => brun false (0, 0) (csF q) (lkb tJ3_checkIndex_8e157) n 0 (entL 3 [aI a0, aI a1, aR 34 0]) [] (ST0 q, m)) (kt_J3_checkIndex_8e157 q) :=
  simk_step 7
    (simk_ite
      simk_none
      (simk_ite
        simk_leaf
        simk_none))
    (fun _ => rfl)
def kt_J0_checkIndex_df160 (q : Nat) : Unit × MM → Nat → Option Out := fun x _ => some (none, (ST0 q, x.2))
theorem pfJ0_checkIndex_df160 (q : Nat) (hcs : CSm (csF q)) (a0 : Int32) (a1 : Int32) (m : MM) : SimK (fJ0_checkIndex_df160 a0 a1 m) (fun n => brun false (0, 0) (csF q) (lkb tJ0_checkIndex_df160) n 0 (entL 2 [aI a0, aI a1]) [] (ST0 q, m)) (kt_J0_checkIndex_df160 q) :=
  simk_step 6
    (simk_bind fun o1 =>
      simk_leaf)
    (fun _ => rfl)
def kt_J1_charAt_3b067 (q : Nat) : Int32 × MM → Nat → Option Out := fun x _ => some (some (aI x.1), (ST0 q, x.2))
theorem pfJ1_charAt_3b067 (q : Nat) (hcs : CSm (csF q)) (a0 : Nat) (a1 : Int32) (m : MM) : SimK (fJ1_charAt_3b067 a0 a1 m) (fun n => brun false (0, 0) (csF q) (lkb tJ1_charAt_3b067) n 0 (entL 2 [aR 30 a0, aI a1]) [] (ST0 q, m)) (kt_J1_charAt_3b067 q) :=
  simk_step 11
    (simk_bind fun o1 =>
      (simk_bif
        simk_leaf))
    (fun _ => rfl)
def kt_J0_charAt_5068e (q : Nat) : Int32 × MM → Nat → Option Out := fun x _ => some (some (aI x.1), (ST0 q, x.2))
theorem pfJ0_charAt_5068e (q : Nat) (hcs : CSm (csF q)) (a0 : Nat) (a1 : Int32) (m : MM) : SimK (fJ0_charAt_5068e a0 a1 m) (fun n => brun false (0, 0) (csF q) (lkb tJ0_charAt_5068e) n 0 (entL 2 [aR 31 a0, aI a1]) [] (ST0 q, m)) (kt_J0_charAt_5068e q) :=
  simk_step 8
    (simk_bind fun o1 =>
      (simk_ite
        simk_none
        (simk_bind fun o2 =>
          simk_leaf)))
    (fun _ => rfl)
def kt_J0_coder_7d493 (q : Nat) : Int32 × MM → Nat → Option Out := fun x _ => some (some (aI x.1), (ST0 q, x.2))
theorem pfJ0_coder_7d493 (q : Nat) (hcs : CSm (csF q)) (a0 : Nat) (m : MM) : SimK (fJ0_coder_7d493 a0 m) (fun n => brun false (0, 0) (csF q) (lkb tJ0_coder_7d493) n 0 (entL 1 [aR 31 a0]) [] (ST0 q, m)) (kt_J0_coder_7d493 q) :=
  simk_step 6
    (simk_ite
      simk_leaf
      simk_leaf)
    (fun _ => rfl)
def kt_J0_length_8abf5 (q : Nat) : Int32 × MM → Nat → Option Out := fun x _ => some (some (aI x.1), (ST0 q, x.2))
theorem pfJ0_length_8abf5 (q : Nat) (hcs : CSm (csF q)) (a0 : Nat) (m : MM) : SimK (fJ0_length_8abf5 a0 m) (fun n => brun false (0, 0) (csF q) (lkb tJ0_length_8abf5) n 0 (entL 1 [aR 31 a0]) [] (ST0 q, m)) (kt_J0_length_8abf5 q) :=
  simk_step 7
    (simk_bind fun o1 =>
      simk_leaf)
    (fun _ => rfl)
def kt_X2_spells (q : Nat) : Bool × MM → Nat → Option Out := fun x _ => some (some (aI (bI x.1)), (ST0 q, x.2))
def hfX2_spells_b20 (q : Nat) (a0 : Nat) (a1 : Nat) (s : Int32) (m : MM) (n : Nat) : Option Out := brun false (0, 0) (csF q) (lkb tX2_spells) n 20 [some (aR 2 a0), some (aR 31 a1), some (aI s)] [] (ST0 q, m)
def kxfX2_spells_b20 (q : Nat) (a0 : Nat) (a1 : Nat) (y : ((Unit) ⊕ (Unit)) × MM) (n : Nat) : Option Out := match y.1 with
  | Sum.inl x => brun false (0, 0) (csF q) (lkb tX2_spells) n 54 [none, none, none] [] (ST0 q, y.2)
  | Sum.inr x => brun false (0, 0) (csF q) (lkb tX2_spells) n 46 [none, none, none] [] (ST0 q, y.2)
theorem pfX2_spells_b20 (q : Nat) (hcs : CSm (csF q)) (a0 : Nat) (a1 : Nat) (s : Int32) (m : MM) : SimK (fX2_spells_b20 a0 a1 s m) (hfX2_spells_b20 q a0 a1 s m) (lpK (hfX2_spells_b20 q a0 a1) (kxfX2_spells_b20 q a0 a1)) :=
  simk_step 16
    (simk_bind fun o2 =>
      (simk_ite
        (simk_sh 12 hcs (.n _ (.n _ (.n _ .nil))) simk_leaf)
        (simk_bind fun o3 =>
          (simk_bind fun o4 =>
            (simk_ite
              (simk_sh 0 hcs (.s _ (.s _ (.s _ .nil))) simk_leaf)
              (simk_sh 2 hcs (.n _ (.n _ (.n _ .nil))) simk_leaf))))))
    (fun _ => rfl)
theorem pfX2_spells_b20_l (q : Nat) (hcs : CSm (csF q)) (a0 : Nat) (a1 : Nat) (s : Int32) (m : MM) : SimK (loopF 1000 (fX2_spells_b20 a0 a1) s m) (hfX2_spells_b20 q a0 a1 s m) (kxfX2_spells_b20 q a0 a1) :=
  simk_loopF (fun s m => pfX2_spells_b20 q hcs a0 a1 s m) 1000 s m
theorem pfX2_spells (q : Nat) (hcs : CSm (csF q)) (a0 : Nat) (a1 : Nat) (m : MM) : SimK (fX2_spells a0 a1 m) (fun n => brun false (0, 0) (csF q) (lkb tX2_spells) n 0 (entL 3 [aR 2 a0, aR 31 a1]) [] (ST0 q, m)) (kt_X2_spells q) :=
  simk_step 10
    (simk_bind fun o1 =>
      (simk_ite
        (simk_loop (simk_sh 0 hcs (.s _ (.s _ (.s _ .nil))) (pfX2_spells_b20_l q hcs a0 a1 0 o1.2)) (fun o5 => by
          obtain ⟨o5x, o5m⟩ := o5
          rcases o5x with x6 | x7
          · exact
            (simk_step 2
              simk_leaf
            (fun _ => rfl))
          · exact
            (simk_step 2
              simk_leaf
            (fun _ => rfl))))
        simk_leaf))
    (fun _ => rfl)
def kt_X2_wordNumber (q : Nat) : Int32 × MM → Nat → Option Out := fun x _ => some (some (aI x.1), (ST0 q, x.2))
theorem pfX2_wordNumber (q : Nat) (hcs : CSm (csF q)) (a0 : Nat) (m : MM) : SimK (fX2_wordNumber a0 m) (fun n => brun false (0, 0) (csF q) (lkb tX2_wordNumber) n 0 (entL 1 [aR 2 a0]) [] (ST0 q, m)) (kt_X2_wordNumber q) :=
  simk_step 27
    (simk_bind fun o1 =>
      (simk_ite
        (simk_bind fun o2 =>
          (simk_ite
            (simk_bind fun o3 =>
              (simk_ite
                (simk_bind fun o4 =>
                  (simk_ite
                    (simk_bind fun o5 =>
                      (simk_ite
                        (simk_bind fun o6 =>
                          (simk_ite
                            simk_leaf
                            simk_leaf))
                        simk_leaf))
                    simk_leaf))
                simk_leaf))
            simk_leaf))
        simk_leaf))
    (fun _ => rfl)
def kt_X2_readStatement (q : Nat) : Bool × MM → Nat → Option Out := fun x _ => some (some (aI (bI x.1)), (ST0 q, x.2))
theorem pfX2_readStatement_j92 (q : Nat) (hcs : CSm (csF q)) (a0 : Nat) (a1 : Nat) (a2 : Int32) (a3 : Int32) (a4 : Int32) (z0 : Int32) (m : MM) : SimK (fX2_readStatement_j92 a0 a1 a2 a3 a4 z0 m) (fun n => brun false (0, 0) (csF q) (lkb tX2_readStatement) n 92 [some (aR 2 a0), some (aR 5 a1), some (aI a2), some (aI a3), some (aI a4), none] [aI z0] (ST0 q, m)) (lpK (hfX2_readStatement_b60 q a0 a1 a2 a3) (kxfX2_readStatement_b60 q a0 a1 a2 a3)) :=
  simk_step 24
    (simk_ite
      (simk_sh 19 hcs (.n _ (.n _ (.n _ (.n _ (.n _ (.n _ .nil)))))) simk_leaf)
      (simk_ite
        (simk_sh 15 hcs (.n _ (.n _ (.n _ (.n _ (.n _ (.n _ .nil)))))) simk_leaf)
        (simk_bind fun o4 =>
          (simk_ite
            (simk_bif
              (simk_sh 0 hcs (.s _ (.s _ (.s _ (.s _ (.s _ (.n _ .nil)))))) simk_leaf))
            (simk_sh 8 hcs (.n _ (.n _ (.n _ (.n _ (.n _ (.n _ .nil)))))) simk_leaf)))))
    (fun _ => rfl)
def hfX2_readStatement_b60 (q : Nat) (a0 : Nat) (a1 : Nat) (a2 : Int32) (a3 : Int32) (s : Int32) (m : MM) (n : Nat) : Option Out := brun false (0, 0) (csF q) (lkb tX2_readStatement) n 60 [some (aR 2 a0), some (aR 5 a1), some (aI a2), some (aI a3), some (aI s), none] [] (ST0 q, m)
def kxfX2_readStatement_b60 (q : Nat) (a0 : Nat) (a1 : Nat) (a2 : Int32) (a3 : Int32) (y : ((Unit) ⊕ (Unit)) × MM) (n : Nat) : Option Out := match y.1 with
  | Sum.inl x => brun false (0, 0) (csF q) (lkb tX2_readStatement) n 144 [some (aR 2 a0), some (aR 5 a1), some (aI a2), none, none, none] [] (ST0 q, y.2)
  | Sum.inr x => brun false (0, 0) (csF q) (lkb tX2_readStatement) n 125 [none, none, none, none, none, none] [] (ST0 q, y.2)
theorem pfX2_readStatement_b60 (q : Nat) (hcs : CSm (csF q)) (a0 : Nat) (a1 : Nat) (a2 : Int32) (a3 : Int32) (s : Int32) (m : MM) : SimK (fX2_readStatement_b60 a0 a1 a2 a3 s m) (hfX2_readStatement_b60 q a0 a1 a2 a3 s m) (lpK (hfX2_readStatement_b60 q a0 a1 a2 a3) (kxfX2_readStatement_b60 q a0 a1 a2 a3)) :=
  simk_step 15
    (simk_ite
      (simk_sh 12 hcs (.s _ (.s _ (.s _ (.n _ (.n _ (.n _ .nil)))))) simk_leaf)
      (simk_ite
        (simk_sh 7 hcs (.s _ (.s _ (.s _ (.n _ (.n _ (.n _ .nil)))))) simk_leaf)
        (simk_bind fun o3 =>
          (simk_ite
            (simk_sh 2 hcs (.s _ (.s _ (.s _ (.s _ (.s _ (.n _ .nil)))))) (pfX2_readStatement_j92 q hcs a0 a1 a2 a3 s 0 o3.2))
            (simk_sh 0 hcs (.s _ (.s _ (.s _ (.s _ (.s _ (.n _ .nil)))))) (pfX2_readStatement_j92 q hcs a0 a1 a2 a3 s (o3.2.1 5 a1 0) o3.2))))))
    (fun _ => rfl)
theorem pfX2_readStatement_b60_l (q : Nat) (hcs : CSm (csF q)) (a0 : Nat) (a1 : Nat) (a2 : Int32) (a3 : Int32) (s : Int32) (m : MM) : SimK (loopF 1000 (fX2_readStatement_b60 a0 a1 a2 a3) s m) (hfX2_readStatement_b60 q a0 a1 a2 a3 s m) (kxfX2_readStatement_b60 q a0 a1 a2 a3) :=
  simk_loopF (fun s m => pfX2_readStatement_b60 q hcs a0 a1 a2 a3 s m) 1000 s m
theorem pfX2_readStatement_j52 (q : Nat) (hcs : CSm (csF q)) (a0 : Nat) (a1 : Nat) (a2 : Int32) (m : MM) : SimK (fX2_readStatement_j52 a0 a1 a2 m) (fun n => brun false (0, 0) (csF q) (lkb tX2_readStatement) n 52 [some (aR 2 a0), some (aR 5 a1), some (aI a2), none, none, none] [] (ST0 q, m)) (kt_X2_readStatement q) :=
  simk_step 5
    (simk_bind fun o2 =>
      (simk_loop (simk_sh 0 hcs (.s _ (.s _ (.s _ (.s _ (.s _ (.n _ .nil)))))) (pfX2_readStatement_b60_l q hcs a0 a1 a2 o2.1 0 o2.2)) (fun o5 => by
        obtain ⟨o5x, o5m⟩ := o5
        rcases o5x with x6 | x8
        · exact
          (simk_step 6
            (simk_bind fun o7 =>
              simk_leaf)
          (fun _ => rfl))
        · exact
          (simk_step 2
            simk_leaf
          (fun _ => rfl)))))
    (fun _ => rfl)
theorem pfX2_readStatement_j38 (q : Nat) (hcs : CSm (csF q)) (a0 : Nat) (a1 : Nat) (a2 : Int32) (m : MM) : SimK (fX2_readStatement_j38 a0 a1 a2 m) (fun n => brun false (0, 0) (csF q) (lkb tX2_readStatement) n 38 [some (aR 2 a0), some (aR 5 a1), some (aI a2), none, none, none] [] (ST0 q, m)) (kt_X2_readStatement q) :=
  simk_step 8
    (simk_ite
      (simk_sh 5 hcs (.s _ (.s _ (.s _ (.n _ (.n _ (.n _ .nil)))))) (pfX2_readStatement_j52 q hcs a0 a1 a2 m))
      (simk_bind fun o9 =>
        (simk_ite
          (simk_sh 2 hcs (.s _ (.s _ (.s _ (.n _ (.n _ (.n _ .nil)))))) (pfX2_readStatement_j52 q hcs a0 a1 a2 o9.2))
          simk_leaf)))
    (fun _ => rfl)
theorem pfX2_readStatement_j20 (q : Nat) (hcs : CSm (csF q)) (a0 : Nat) (a1 : Nat) (z0 : Int32) (m : MM) : SimK (fX2_readStatement_j20 a0 a1 z0 m) (fun n => brun false (0, 0) (csF q) (lkb tX2_readStatement) n 20 [some (aR 2 a0), some (aR 5 a1), none, none, none, none] [aI z0] (ST0 q, m)) (kt_X2_readStatement q) :=
  simk_step 12
    (simk_ite
      simk_leaf
      (simk_ite
        (simk_sh 5 hcs (.s _ (.s _ (.s _ (.n _ (.n _ (.n _ .nil)))))) (pfX2_readStatement_j38 q hcs a0 a1 z0 m))
        (simk_bind fun o10 =>
          (simk_ite
            simk_leaf
            (simk_sh 2 hcs (.s _ (.s _ (.s _ (.n _ (.n _ (.n _ .nil)))))) (pfX2_readStatement_j38 q hcs a0 a1 z0 o10.2))))))
    (fun _ => rfl)
theorem pfX2_readStatement (q : Nat) (hcs : CSm (csF q)) (a0 : Nat) (a1 : Nat) (m : MM) : SimK (fX2_readStatement a0 a1 m) (fun n => brun false (0, 0) (csF q) (lkb tX2_readStatement) n 0 (entL 6 [aR 2 a0, aR 5 a1]) [] (ST0 q, m)) (kt_X2_readStatement q) :=
  simk_step 9
    (simk_bind fun o1 =>
      (simk_ite
        (simk_sh 2 hcs (.s _ (.s _ (.n _ (.n _ (.n _ (.n _ .nil)))))) (pfX2_readStatement_j20 q hcs a0 a1 (-1) o1.2))
        (simk_bind fun o11 =>
          (simk_sh 0 hcs (.s _ (.s _ (.n _ (.n _ (.n _ (.n _ .nil)))))) (pfX2_readStatement_j20 q hcs a0 a1 o11.1 o11.2)))))
    (fun _ => rfl)
def kt_X2_readInto (q : Nat) : Int32 × MM → Nat → Option Out := fun x _ => some (some (aI x.1), (ST0 q, x.2))
def hfX2_readInto_b9 (q : Nat) (a0 : Nat) (a1 : Nat) (s : Int32 × Int32) (m : MM) (n : Nat) : Option Out := brun false (0, 0) (csF q) (lkb tX2_readInto) n 9 [some (aR 2 a0), some (aR 5 a1), some (aI s.1), some (aI s.2)] [] (ST0 q, m)
def kxfX2_readInto_b9 (q : Nat) (a0 : Nat) (a1 : Nat) (y : ((Unit) ⊕ ((Unit) ⊕ ((Int32) ⊕ (Unit)))) × MM) (n : Nat) : Option Out := match y.1 with
  | Sum.inl x => brun false (0, 0) (csF q) (lkb tX2_readInto) n 60 [none, none, none, none] [] (ST0 q, y.2)
  | Sum.inr (Sum.inl x) => brun false (0, 0) (csF q) (lkb tX2_readInto) n 52 [none, none, none, none] [] (ST0 q, y.2)
  | Sum.inr (Sum.inr (Sum.inl x)) => brun false (0, 0) (csF q) (lkb tX2_readInto) n 42 [none, none, some (aI x), none] [] (ST0 q, y.2)
  | Sum.inr (Sum.inr (Sum.inr x)) => brun false (0, 0) (csF q) (lkb tX2_readInto) n 26 [none, none, none, none] [] (ST0 q, y.2)
theorem pfX2_readInto_b9 (q : Nat) (hcs : CSm (csF q)) (a0 : Nat) (a1 : Nat) (s : Int32 × Int32) (m : MM) : SimK (fX2_readInto_b9 a0 a1 s m) (hfX2_readInto_b9 q a0 a1 s m) (lpK (hfX2_readInto_b9 q a0 a1) (kxfX2_readInto_b9 q a0 a1)) :=
  simk_step 21
    (simk_ite
      (simk_sh 16 hcs (.n _ (.n _ (.n _ (.n _ .nil)))) simk_leaf)
      (simk_bind fun o1 =>
        (simk_ite
          (simk_bind fun o2 =>
            (simk_ite
              (simk_ite
                (simk_sh 0 hcs (.s _ (.s _ (.s _ (.s _ .nil)))) simk_leaf)
                (simk_sh 2 hcs (.n _ (.n _ (.n _ (.n _ .nil)))) simk_leaf))
              (simk_sh 6 hcs (.n _ (.n _ (.s _ (.n _ .nil)))) simk_leaf)))
          (simk_sh 12 hcs (.n _ (.n _ (.n _ (.n _ .nil)))) simk_leaf))))
    (fun _ => rfl)
theorem pfX2_readInto_b9_l (q : Nat) (hcs : CSm (csF q)) (a0 : Nat) (a1 : Nat) (s : Int32 × Int32) (m : MM) : SimK (loopF 1000 (fX2_readInto_b9 a0 a1) s m) (hfX2_readInto_b9 q a0 a1 s m) (kxfX2_readInto_b9 q a0 a1) :=
  simk_loopF (fun s m => pfX2_readInto_b9 q hcs a0 a1 s m) 1000 s m
theorem pfX2_readInto (q : Nat) (hcs : CSm (csF q)) (a0 : Nat) (a1 : Nat) (m : MM) : SimK (fX2_readInto a0 a1 m) (fun n => brun false (0, 0) (csF q) (lkb tX2_readInto) n 0 (entL 4 [aR 2 a0, aR 5 a1]) [] (ST0 q, m)) (kt_X2_readInto q) :=
  simk_step 7
    (simk_loop (simk_sh 0 hcs (.s _ (.s _ (.s _ (.s _ .nil)))) (pfX2_readInto_b9_l q hcs a0 a1 (0, 0) ((upI m.1 2 a0 3 0), m.2))) (fun o3 => by
      obtain ⟨o3x, o3m⟩ := o3
      rcases o3x with x4 | (x5 | (x6 | x7))
      · exact
        (simk_step 2
          simk_leaf
        (fun _ => rfl))
      · exact
        (simk_step 2
          simk_leaf
        (fun _ => rfl))
      · exact
        (simk_step 2
          simk_leaf
        (fun _ => rfl))
      · exact
        (simk_step 2
          simk_leaf
        (fun _ => rfl))))
    (fun _ => rfl)
def kt_X3_mark (q : Nat) : Unit × MM → Nat → Option Out := fun x _ => some (none, (ST0 q, x.2))
theorem pfX3_mark (q : Nat) (hcs : CSm (csF q)) (a0 : Nat) (a1 : Int32) (a2 : Nat) (m : MM) : SimK (fX3_mark a0 a1 a2 m) (fun n => brun false (0, 0) (csF q) (lkb tX3_mark) n 0 (entL 3 [aR 3 a0, aI a1, aR 0 a2]) [] (ST0 q, m)) (kt_X3_mark q) :=
  simk_step 25
    (simk_ite
      simk_leaf
      (simk_ite
        simk_leaf
        (simk_ite
          simk_leaf
          (simk_bif
            (simk_bif
              simk_leaf)))))
    (fun _ => rfl)
def kt_X3_cellAt (q : Nat) : Int32 × MM → Nat → Option Out := fun x _ => some (some (aI x.1), (ST0 q, x.2))
theorem pfX3_cellAt (q : Nat) (hcs : CSm (csF q)) (a0 : Nat) (a1 : Int32) (m : MM) : SimK (fX3_cellAt a0 a1 m) (fun n => brun false (0, 0) (csF q) (lkb tX3_cellAt) n 0 (entL 2 [aR 3 a0, aI a1]) [] (ST0 q, m)) (kt_X3_cellAt q) :=
  simk_step 13
    (simk_ite
      simk_leaf
      (simk_ite
        simk_leaf
        (simk_bif
          simk_leaf)))
    (fun _ => rfl)
def kt_X3_howAt (q : Nat) : Int32 × MM → Nat → Option Out := fun x _ => some (some (aI x.1), (ST0 q, x.2))
theorem pfX3_howAt (q : Nat) (hcs : CSm (csF q)) (a0 : Nat) (a1 : Int32) (m : MM) : SimK (fX3_howAt a0 a1 m) (fun n => brun false (0, 0) (csF q) (lkb tX3_howAt) n 0 (entL 2 [aR 3 a0, aI a1]) [] (ST0 q, m)) (kt_X3_howAt q) :=
  simk_step 13
    (simk_ite
      simk_leaf
      (simk_ite
        simk_leaf
        (simk_bif
          simk_leaf)))
    (fun _ => rfl)
def kt_X3_cellsVisited (q : Nat) : Int32 × MM → Nat → Option Out := fun x _ => some (some (aI x.1), (ST0 q, x.2))
def hfX3_cellsVisited_b4 (q : Nat) (a0 : Nat) (a1 : Int32) (s : Int32 × Int32) (m : MM) (n : Nat) : Option Out := brun false (0, 0) (csF q) (lkb tX3_cellsVisited) n 4 [some (aR 3 a0), some (aI a1), some (aI s.1), some (aI s.2)] [] (ST0 q, m)
def kxfX3_cellsVisited_b4 (q : Nat) (a0 : Nat) (a1 : Int32) (y : (Int32) × MM) (n : Nat) : Option Out := brun false (0, 0) (csF q) (lkb tX3_cellsVisited) n 25 [none, none, some (aI y.1), none] [] (ST0 q, y.2)
theorem pfX3_cellsVisited_b4 (q : Nat) (hcs : CSm (csF q)) (a0 : Nat) (a1 : Int32) (s : Int32 × Int32) (m : MM) : SimK (fX3_cellsVisited_b4 a0 a1 s m) (hfX3_cellsVisited_b4 q a0 a1 s m) (lpK (hfX3_cellsVisited_b4 q a0 a1) (kxfX3_cellsVisited_b4 q a0 a1)) :=
  simk_step 13
    (simk_ite
      (simk_sh 10 hcs (.n _ (.n _ (.s _ (.n _ .nil)))) simk_leaf)
      (simk_bind fun o1 =>
        (simk_sh 0 hcs (.s _ (.s _ (.s _ (.s _ .nil)))) simk_leaf)))
    (fun _ => rfl)
theorem pfX3_cellsVisited_b4_l (q : Nat) (hcs : CSm (csF q)) (a0 : Nat) (a1 : Int32) (s : Int32 × Int32) (m : MM) : SimK (loopF 1000 (fX3_cellsVisited_b4 a0 a1) s m) (hfX3_cellsVisited_b4 q a0 a1 s m) (kxfX3_cellsVisited_b4 q a0 a1) :=
  simk_loopF (fun s m => pfX3_cellsVisited_b4 q hcs a0 a1 s m) 1000 s m
theorem pfX3_cellsVisited (q : Nat) (hcs : CSm (csF q)) (a0 : Nat) (a1 : Int32) (m : MM) : SimK (fX3_cellsVisited a0 a1 m) (fun n => brun false (0, 0) (csF q) (lkb tX3_cellsVisited) n 0 (entL 4 [aR 3 a0, aI a1]) [] (ST0 q, m)) (kt_X3_cellsVisited q) :=
  simk_step 4
    (simk_loop (simk_sh 0 hcs (.s _ (.s _ (.s _ (.s _ .nil)))) (pfX3_cellsVisited_b4_l q hcs a0 a1 (0, 0) m)) (fun o2 => 
      (simk_step 2
        simk_leaf
      (fun _ => rfl))))
    (fun _ => rfl)
def kt_X4_become (q : Nat) : Unit × MM → Nat → Option Out := fun x _ => some (none, (ST0 q, x.2))
theorem pfX4_become (q : Nat) (hcs : CSm (csF q)) (a0 : Nat) (a1 : Nat) (m : MM) : SimK (fX4_become a0 a1 m) (fun n => brun false (0, 0) (csF q) (lkb tX4_become) n 0 (entL 2 [aR 4 a0, aR 4 a1]) [] (ST0 q, m)) (kt_X4_become q) :=
  simk_step 9
    (simk_bind fun o1 =>
      simk_leaf)
    (fun _ => rfl)
def kt_X4_tellOf (q : Nat) : Int32 × MM → Nat → Option Out := fun x _ => some (some (aI x.1), (ST0 q, x.2))
theorem pfX4_tellOf (q : Nat) (hcs : CSm (csF q)) (a0 : Nat) (a1 : Int32) (m : MM) : SimK (fX4_tellOf a0 a1 m) (fun n => brun false (0, 0) (csF q) (lkb tX4_tellOf) n 0 (entL 2 [aR 4 a0, aI a1]) [] (ST0 q, m)) (kt_X4_tellOf q) :=
  simk_step 9
    (simk_ite
      (simk_ite
        simk_leaf
        simk_leaf)
      simk_leaf)
    (fun _ => rfl)
def kt_X4_stroll (q : Nat) : Unit × MM → Nat → Option Out := fun x _ => some (none, (ST0 q, x.2))
theorem pfX4_stroll_j35 (q : Nat) (hcs : CSm (csF q)) (a0 : Nat) (a1 : Int32) (a2 : Int32) (m : MM) : SimK (fX4_stroll_j35 a0 a1 a2 m) (fun n => brun false (0, 0) (csF q) (lkb tX4_stroll) n 35 [some (aR 4 a0), some (aI a1), some (aI a2)] [] (ST0 q, m)) (lpK (hfX4_stroll_b2 q a0 a1) (kxfX4_stroll_b2 q a0 a1)) :=
  simk_step 22
    (simk_ite
      (simk_ite
        (simk_sh 7 hcs (.s _ (.s _ (.s _ .nil))) simk_leaf)
        (simk_sh 6 hcs (.s _ (.s _ (.s _ .nil))) simk_leaf))
      (simk_ite
        (simk_ite
          (simk_sh 4 hcs (.s _ (.s _ (.s _ .nil))) simk_leaf)
          (simk_sh 3 hcs (.s _ (.s _ (.s _ .nil))) simk_leaf))
        (simk_ite
          (simk_sh 1 hcs (.s _ (.s _ (.s _ .nil))) simk_leaf)
          (simk_sh 0 hcs (.s _ (.s _ (.s _ .nil))) simk_leaf))))
    (fun _ => rfl)
def hfX4_stroll_b2 (q : Nat) (a0 : Nat) (a1 : Int32) (s : Int32) (m : MM) (n : Nat) : Option Out := brun false (0, 0) (csF q) (lkb tX4_stroll) n 2 [some (aR 4 a0), some (aI a1), some (aI s)] [] (ST0 q, m)
def kxfX4_stroll_b2 (q : Nat) (a0 : Nat) (a1 : Int32) (y : (Unit) × MM) (n : Nat) : Option Out := brun false (0, 0) (csF q) (lkb tX4_stroll) n 82 [none, none, none] [] (ST0 q, y.2)
theorem pfX4_stroll_b2 (q : Nat) (hcs : CSm (csF q)) (a0 : Nat) (a1 : Int32) (s : Int32) (m : MM) : SimK (fX4_stroll_b2 a0 a1 s m) (hfX4_stroll_b2 q a0 a1 s m) (lpK (hfX4_stroll_b2 q a0 a1) (kxfX4_stroll_b2 q a0 a1)) :=
  simk_step 29
    (simk_ite
      (simk_sh 25 hcs (.n _ (.n _ (.n _ .nil))) simk_leaf)
      (simk_ite
        (simk_sh 22 hcs (.s _ (.s _ (.s _ .nil))) (pfX4_stroll_j35 q hcs a0 a1 s m))
        (simk_ite
          (simk_sh 16 hcs (.s _ (.s _ (.s _ .nil))) (pfX4_stroll_j35 q hcs a0 a1 s m))
          (simk_ite
            (simk_sh 1 hcs (.s _ (.s _ (.s _ .nil))) simk_leaf)
            (simk_sh 0 hcs (.s _ (.s _ (.s _ .nil))) simk_leaf)))))
    (fun _ => rfl)
theorem pfX4_stroll_b2_l (q : Nat) (hcs : CSm (csF q)) (a0 : Nat) (a1 : Int32) (s : Int32) (m : MM) : SimK (loopF 1000 (fX4_stroll_b2 a0 a1) s m) (hfX4_stroll_b2 q a0 a1 s m) (kxfX4_stroll_b2 q a0 a1) :=
  simk_loopF (fun s m => pfX4_stroll_b2 q hcs a0 a1 s m) 1000 s m
theorem pfX4_stroll (q : Nat) (hcs : CSm (csF q)) (a0 : Nat) (a1 : Int32) (m : MM) : SimK (fX4_stroll a0 a1 m) (fun n => brun false (0, 0) (csF q) (lkb tX4_stroll) n 0 (entL 3 [aR 4 a0, aI a1]) [] (ST0 q, m)) (kt_X4_stroll q) :=
  simk_step 2
    (simk_loop (simk_sh 0 hcs (.s _ (.s _ (.s _ .nil))) (pfX4_stroll_b2_l q hcs a0 a1 0 m)) (fun o1 => 
      (simk_step 1
        simk_leaf
      (fun _ => rfl))))
    (fun _ => rfl)
def kt_X5_flow (q : Nat) : Int32 × MM → Nat → Option Out := fun x _ => some (some (aI x.1), (ST0 q, x.2))
theorem pfX5_flow (q : Nat) (hcs : CSm (csF q)) (a0 : Nat) (a1 : Int32) (m : MM) : SimK (fX5_flow a0 a1 m) (fun n => brun false (0, 0) (csF q) (lkb tX5_flow) n 0 (entL 2 [aR 5 a0, aI a1]) [] (ST0 q, m)) (kt_X5_flow q) :=
  simk_step 13
    (simk_ite
      simk_leaf
      (simk_ite
        simk_leaf
        (simk_bif
          simk_leaf)))
    (fun _ => rfl)
def kt_X5_become (q : Nat) : Unit × MM → Nat → Option Out := fun x _ => some (none, (ST0 q, x.2))
def hfX5_become_b58 (q : Nat) (a0 : Nat) (a1 : Nat) (s : Int32) (m : MM) (n : Nat) : Option Out := brun false (0, 0) (csF q) (lkb tX5_become) n 58 [some (aR 5 a0), some (aR 5 a1), some (aI s), none, none] [] (ST0 q, m)
def kxfX5_become_b58 (q : Nat) (a0 : Nat) (a1 : Nat) (y : (Unit) × MM) (n : Nat) : Option Out := brun false (0, 0) (csF q) (lkb tX5_become) n 84 [some (aR 5 a0), some (aR 5 a1), none, none, none] [] (ST0 q, y.2)
theorem pfX5_become_b58 (q : Nat) (hcs : CSm (csF q)) (a0 : Nat) (a1 : Nat) (s : Int32) (m : MM) : SimK (fX5_become_b58 a0 a1 s m) (hfX5_become_b58 q a0 a1 s m) (lpK (hfX5_become_b58 q a0 a1) (kxfX5_become_b58 q a0 a1)) :=
  simk_step 14
    (simk_ite
      (simk_sh 9 hcs (.s _ (.s _ (.n _ (.n _ (.n _ .nil))))) simk_leaf)
      (simk_bind fun o1 =>
        (simk_bif
          (simk_sh 0 hcs (.s _ (.s _ (.s _ (.n _ (.n _ .nil))))) simk_leaf))))
    (fun _ => rfl)
theorem pfX5_become_b58_l (q : Nat) (hcs : CSm (csF q)) (a0 : Nat) (a1 : Nat) (s : Int32) (m : MM) : SimK (loopF 1000 (fX5_become_b58 a0 a1) s m) (hfX5_become_b58 q a0 a1 s m) (kxfX5_become_b58 q a0 a1) :=
  simk_loopF (fun s m => pfX5_become_b58 q hcs a0 a1 s m) 1000 s m
def hfX5_become_b86 (q : Nat) (a0 : Nat) (a1 : Nat) (s : Int32) (m : MM) (n : Nat) : Option Out := brun false (0, 0) (csF q) (lkb tX5_become) n 86 [some (aR 5 a0), some (aR 5 a1), some (aI s), none, none] [] (ST0 q, m)
def kxfX5_become_b86 (q : Nat) (a0 : Nat) (a1 : Nat) (y : (Unit) × MM) (n : Nat) : Option Out := brun false (0, 0) (csF q) (lkb tX5_become) n 128 [some (aR 5 a0), some (aR 5 a1), none, none, none] [] (ST0 q, y.2)
theorem pfX5_become_b86 (q : Nat) (hcs : CSm (csF q)) (a0 : Nat) (a1 : Nat) (s : Int32) (m : MM) : SimK (fX5_become_b86 a0 a1 s m) (hfX5_become_b86 q a0 a1 s m) (lpK (hfX5_become_b86 q a0 a1) (kxfX5_become_b86 q a0 a1)) :=
  simk_step 21
    (simk_ite
      (simk_sh 17 hcs (.s _ (.s _ (.n _ (.n _ (.n _ .nil))))) simk_leaf)
      (simk_bindO (fun o3 =>
        (simk_bindO (fun o5 =>
          (simk_sh 5 hcs (.s _ (.s _ (.s _ (.n _ (.n _ .nil))))) simk_leaf)) (fun o5 i6 =>
          (simk_sh 5 hcs (.s _ (.s _ (.s _ (.n _ (.n _ .nil))))) simk_leaf)))) (fun o3 i4 =>
        (simk_bindO (fun o7 =>
          (simk_sh 3 hcs (.s _ (.s _ (.s _ (.n _ (.n _ .nil))))) simk_leaf)) (fun o7 i8 =>
          (simk_bind fun o9 =>
            (simk_sh 0 hcs (.s _ (.s _ (.s _ (.n _ (.n _ .nil))))) simk_leaf)))))))
    (fun _ => rfl)
theorem pfX5_become_b86_l (q : Nat) (hcs : CSm (csF q)) (a0 : Nat) (a1 : Nat) (s : Int32) (m : MM) : SimK (loopF 1000 (fX5_become_b86 a0 a1) s m) (hfX5_become_b86 q a0 a1 s m) (kxfX5_become_b86 q a0 a1) :=
  simk_loopF (fun s m => pfX5_become_b86 q hcs a0 a1 s m) 1000 s m
def hfX5_become_b130 (q : Nat) (a0 : Nat) (a1 : Nat) (s : Int32) (m : MM) (n : Nat) : Option Out := brun false (0, 0) (csF q) (lkb tX5_become) n 130 [some (aR 5 a0), some (aR 5 a1), some (aI s), none, none] [] (ST0 q, m)
def kxfX5_become_b130 (q : Nat) (a0 : Nat) (a1 : Nat) (y : (Unit) × MM) (n : Nat) : Option Out := brun false (0, 0) (csF q) (lkb tX5_become) n 172 [none, none, none, none, none] [] (ST0 q, y.2)
theorem pfX5_become_b130 (q : Nat) (hcs : CSm (csF q)) (a0 : Nat) (a1 : Nat) (s : Int32) (m : MM) : SimK (fX5_become_b130 a0 a1 s m) (hfX5_become_b130 q a0 a1 s m) (lpK (hfX5_become_b130 q a0 a1) (kxfX5_become_b130 q a0 a1)) :=
  simk_step 21
    (simk_ite
      (simk_sh 17 hcs (.n _ (.n _ (.n _ (.n _ (.n _ .nil))))) simk_leaf)
      (simk_bindO (fun o11 =>
        (simk_bindO (fun o13 =>
          (simk_sh 5 hcs (.s _ (.s _ (.s _ (.n _ (.n _ .nil))))) simk_leaf)) (fun o13 i14 =>
          (simk_sh 5 hcs (.s _ (.s _ (.s _ (.n _ (.n _ .nil))))) simk_leaf)))) (fun o11 i12 =>
        (simk_bindO (fun o15 =>
          (simk_sh 3 hcs (.s _ (.s _ (.s _ (.n _ (.n _ .nil))))) simk_leaf)) (fun o15 i16 =>
          (simk_bind fun o17 =>
            (simk_sh 0 hcs (.s _ (.s _ (.s _ (.n _ (.n _ .nil))))) simk_leaf)))))))
    (fun _ => rfl)
theorem pfX5_become_b130_l (q : Nat) (hcs : CSm (csF q)) (a0 : Nat) (a1 : Nat) (s : Int32) (m : MM) : SimK (loopF 1000 (fX5_become_b130 a0 a1) s m) (hfX5_become_b130 q a0 a1 s m) (kxfX5_become_b130 q a0 a1) :=
  simk_loopF (fun s m => pfX5_become_b130 q hcs a0 a1 s m) 1000 s m
theorem pfX5_become (q : Nat) (hcs : CSm (csF q)) (a0 : Nat) (a1 : Nat) (m : MM) : SimK (fX5_become a0 a1 m) (fun n => brun false (0, 0) (csF q) (lkb tX5_become) n 0 (entL 5 [aR 5 a0, aR 5 a1]) [] (ST0 q, m)) (kt_X5_become q) :=
  simk_step 30
    (simk_loop (simk_sh 0 hcs (.s _ (.s _ (.s _ (.n _ (.n _ .nil))))) (pfX5_become_b58_l q hcs a0 a1 0 ((upI (upI (upI (upI (upI (upI (upI m.1 5 a0 0 (m.1 5 a1 0)) 5 a0 1 ((upI m.1 5 a0 0 (m.1 5 a1 0)) 5 a1 1)) 5 a0 2 ((upI (upI m.1 5 a0 0 (m.1 5 a1 0)) 5 a0 1 ((upI m.1 5 a0 0 (m.1 5 a1 0)) 5 a1 1)) 5 a1 2)) 5 a0 3 ((upI (upI (upI m.1 5 a0 0 (m.1 5 a1 0)) 5 a0 1 ((upI m.1 5 a0 0 (m.1 5 a1 0)) 5 a1 1)) 5 a0 2 ((upI (upI m.1 5 a0 0 (m.1 5 a1 0)) 5 a0 1 ((upI m.1 5 a0 0 (m.1 5 a1 0)) 5 a1 1)) 5 a1 2)) 5 a1 3)) 5 a0 4 ((upI (upI (upI (upI m.1 5 a0 0 (m.1 5 a1 0)) 5 a0 1 ((upI m.1 5 a0 0 (m.1 5 a1 0)) 5 a1 1)) 5 a0 2 ((upI (upI m.1 5 a0 0 (m.1 5 a1 0)) 5 a0 1 ((upI m.1 5 a0 0 (m.1 5 a1 0)) 5 a1 1)) 5 a1 2)) 5 a0 3 ((upI (upI (upI m.1 5 a0 0 (m.1 5 a1 0)) 5 a0 1 ((upI m.1 5 a0 0 (m.1 5 a1 0)) 5 a1 1)) 5 a0 2 ((upI (upI m.1 5 a0 0 (m.1 5 a1 0)) 5 a0 1 ((upI m.1 5 a0 0 (m.1 5 a1 0)) 5 a1 1)) 5 a1 2)) 5 a1 3)) 5 a1 4)) 5 a0 5 ((upI (upI (upI (upI (upI m.1 5 a0 0 (m.1 5 a1 0)) 5 a0 1 ((upI m.1 5 a0 0 (m.1 5 a1 0)) 5 a1 1)) 5 a0 2 ((upI (upI m.1 5 a0 0 (m.1 5 a1 0)) 5 a0 1 ((upI m.1 5 a0 0 (m.1 5 a1 0)) 5 a1 1)) 5 a1 2)) 5 a0 3 ((upI (upI (upI m.1 5 a0 0 (m.1 5 a1 0)) 5 a0 1 ((upI m.1 5 a0 0 (m.1 5 a1 0)) 5 a1 1)) 5 a0 2 ((upI (upI m.1 5 a0 0 (m.1 5 a1 0)) 5 a0 1 ((upI m.1 5 a0 0 (m.1 5 a1 0)) 5 a1 1)) 5 a1 2)) 5 a1 3)) 5 a0 4 ((upI (upI (upI (upI m.1 5 a0 0 (m.1 5 a1 0)) 5 a0 1 ((upI m.1 5 a0 0 (m.1 5 a1 0)) 5 a1 1)) 5 a0 2 ((upI (upI m.1 5 a0 0 (m.1 5 a1 0)) 5 a0 1 ((upI m.1 5 a0 0 (m.1 5 a1 0)) 5 a1 1)) 5 a1 2)) 5 a0 3 ((upI (upI (upI m.1 5 a0 0 (m.1 5 a1 0)) 5 a0 1 ((upI m.1 5 a0 0 (m.1 5 a1 0)) 5 a1 1)) 5 a0 2 ((upI (upI m.1 5 a0 0 (m.1 5 a1 0)) 5 a0 1 ((upI m.1 5 a0 0 (m.1 5 a1 0)) 5 a1 1)) 5 a1 2)) 5 a1 3)) 5 a1 4)) 5 a1 5)) 5 a0 6 ((upI (upI (upI (upI (upI (upI m.1 5 a0 0 (m.1 5 a1 0)) 5 a0 1 ((upI m.1 5 a0 0 (m.1 5 a1 0)) 5 a1 1)) 5 a0 2 ((upI (upI m.1 5 a0 0 (m.1 5 a1 0)) 5 a0 1 ((upI m.1 5 a0 0 (m.1 5 a1 0)) 5 a1 1)) 5 a1 2)) 5 a0 3 ((upI (upI (upI m.1 5 a0 0 (m.1 5 a1 0)) 5 a0 1 ((upI m.1 5 a0 0 (m.1 5 a1 0)) 5 a1 1)) 5 a0 2 ((upI (upI m.1 5 a0 0 (m.1 5 a1 0)) 5 a0 1 ((upI m.1 5 a0 0 (m.1 5 a1 0)) 5 a1 1)) 5 a1 2)) 5 a1 3)) 5 a0 4 ((upI (upI (upI (upI m.1 5 a0 0 (m.1 5 a1 0)) 5 a0 1 ((upI m.1 5 a0 0 (m.1 5 a1 0)) 5 a1 1)) 5 a0 2 ((upI (upI m.1 5 a0 0 (m.1 5 a1 0)) 5 a0 1 ((upI m.1 5 a0 0 (m.1 5 a1 0)) 5 a1 1)) 5 a1 2)) 5 a0 3 ((upI (upI (upI m.1 5 a0 0 (m.1 5 a1 0)) 5 a0 1 ((upI m.1 5 a0 0 (m.1 5 a1 0)) 5 a1 1)) 5 a0 2 ((upI (upI m.1 5 a0 0 (m.1 5 a1 0)) 5 a0 1 ((upI m.1 5 a0 0 (m.1 5 a1 0)) 5 a1 1)) 5 a1 2)) 5 a1 3)) 5 a1 4)) 5 a0 5 ((upI (upI (upI (upI (upI m.1 5 a0 0 (m.1 5 a1 0)) 5 a0 1 ((upI m.1 5 a0 0 (m.1 5 a1 0)) 5 a1 1)) 5 a0 2 ((upI (upI m.1 5 a0 0 (m.1 5 a1 0)) 5 a0 1 ((upI m.1 5 a0 0 (m.1 5 a1 0)) 5 a1 1)) 5 a1 2)) 5 a0 3 ((upI (upI (upI m.1 5 a0 0 (m.1 5 a1 0)) 5 a0 1 ((upI m.1 5 a0 0 (m.1 5 a1 0)) 5 a1 1)) 5 a0 2 ((upI (upI m.1 5 a0 0 (m.1 5 a1 0)) 5 a0 1 ((upI m.1 5 a0 0 (m.1 5 a1 0)) 5 a1 1)) 5 a1 2)) 5 a1 3)) 5 a0 4 ((upI (upI (upI (upI m.1 5 a0 0 (m.1 5 a1 0)) 5 a0 1 ((upI m.1 5 a0 0 (m.1 5 a1 0)) 5 a1 1)) 5 a0 2 ((upI (upI m.1 5 a0 0 (m.1 5 a1 0)) 5 a0 1 ((upI m.1 5 a0 0 (m.1 5 a1 0)) 5 a1 1)) 5 a1 2)) 5 a0 3 ((upI (upI (upI m.1 5 a0 0 (m.1 5 a1 0)) 5 a0 1 ((upI m.1 5 a0 0 (m.1 5 a1 0)) 5 a1 1)) 5 a0 2 ((upI (upI m.1 5 a0 0 (m.1 5 a1 0)) 5 a0 1 ((upI m.1 5 a0 0 (m.1 5 a1 0)) 5 a1 1)) 5 a1 2)) 5 a1 3)) 5 a1 4)) 5 a1 5)) 5 a1 6)), m.2))) (fun o2 => 
      (simk_step 2
        (simk_loop (simk_sh 0 hcs (.s _ (.s _ (.s _ (.n _ (.n _ .nil))))) (pfX5_become_b86_l q hcs a0 a1 0 o2.2)) (fun o10 => 
          (simk_step 2
            (simk_loop (simk_sh 0 hcs (.s _ (.s _ (.s _ (.n _ (.n _ .nil))))) (pfX5_become_b130_l q hcs a0 a1 0 o10.2)) (fun o18 => 
              (simk_step 1
                simk_leaf
              (fun _ => rfl))))
          (fun _ => rfl))))
      (fun _ => rfl))))
    (fun _ => rfl)
def kt_X5_hasCell (q : Nat) : Bool × MM → Nat → Option Out := fun x _ => some (some (aI (bI x.1)), (ST0 q, x.2))
theorem pfX5_hasCell (q : Nat) (hcs : CSm (csF q)) (a0 : Nat) (a1 : Int32) (m : MM) : SimK (fX5_hasCell a0 a1 m) (fun n => brun false (0, 0) (csF q) (lkb tX5_hasCell) n 0 (entL 2 [aR 5 a0, aI a1]) [] (ST0 q, m)) (kt_X5_hasCell q) :=
  simk_step 9
    (simk_ite
      simk_leaf
      (simk_ite
        simk_leaf
        simk_leaf))
    (fun _ => rfl)
def kt_X5_addressedTo (q : Nat) : Int32 × MM → Nat → Option Out := fun x _ => some (some (aI x.1), (ST0 q, x.2))
def hfX5_addressedTo_b4 (q : Nat) (a0 : Nat) (a1 : Int32) (s : Int32 × Int32) (m : MM) (n : Nat) : Option Out := brun false (0, 0) (csF q) (lkb tX5_addressedTo) n 4 [some (aR 5 a0), some (aI a1), some (aI s.1), some (aI s.2), none] [] (ST0 q, m)
def kxfX5_addressedTo_b4 (q : Nat) (a0 : Nat) (a1 : Int32) (y : (Int32) × MM) (n : Nat) : Option Out := brun false (0, 0) (csF q) (lkb tX5_addressedTo) n 45 [none, none, some (aI y.1), none, none] [] (ST0 q, y.2)
theorem pfX5_addressedTo_b4 (q : Nat) (hcs : CSm (csF q)) (a0 : Nat) (a1 : Int32) (s : Int32 × Int32) (m : MM) : SimK (fX5_addressedTo_b4 a0 a1 s m) (hfX5_addressedTo_b4 q a0 a1 s m) (lpK (hfX5_addressedTo_b4 q a0 a1) (kxfX5_addressedTo_b4 q a0 a1)) :=
  simk_step 22
    (simk_ite
      (simk_sh 18 hcs (.n _ (.n _ (.s _ (.n _ (.n _ .nil))))) simk_leaf)
      (simk_bindO (fun o1 =>
        (simk_sh 10 hcs (.s _ (.s _ (.s _ (.s _ (.n _ .nil))))) simk_leaf)) (fun o1 i2 =>
        (simk_ite
          (simk_sh 6 hcs (.s _ (.s _ (.s _ (.s _ (.n _ .nil))))) simk_leaf)
          (simk_sh 0 hcs (.s _ (.s _ (.s _ (.s _ (.n _ .nil))))) simk_leaf)))))
    (fun _ => rfl)
theorem pfX5_addressedTo_b4_l (q : Nat) (hcs : CSm (csF q)) (a0 : Nat) (a1 : Int32) (s : Int32 × Int32) (m : MM) : SimK (loopF 1000 (fX5_addressedTo_b4 a0 a1) s m) (hfX5_addressedTo_b4 q a0 a1 s m) (kxfX5_addressedTo_b4 q a0 a1) :=
  simk_loopF (fun s m => pfX5_addressedTo_b4 q hcs a0 a1 s m) 1000 s m
theorem pfX5_addressedTo (q : Nat) (hcs : CSm (csF q)) (a0 : Nat) (a1 : Int32) (m : MM) : SimK (fX5_addressedTo a0 a1 m) (fun n => brun false (0, 0) (csF q) (lkb tX5_addressedTo) n 0 (entL 5 [aR 5 a0, aI a1]) [] (ST0 q, m)) (kt_X5_addressedTo q) :=
  simk_step 4
    (simk_loop (simk_sh 0 hcs (.s _ (.s _ (.s _ (.s _ (.n _ .nil))))) (pfX5_addressedTo_b4_l q hcs a0 a1 (0, 0) m)) (fun o3 => 
      (simk_step 2
        simk_leaf
      (fun _ => rfl))))
    (fun _ => rfl)
def kt_X5_afloatIn (q : Nat) : Int32 × MM → Nat → Option Out := fun x _ => some (some (aI x.1), (ST0 q, x.2))
def hfX5_afloatIn_b4 (q : Nat) (a0 : Nat) (a1 : Int32) (s : Int32 × Int32) (m : MM) (n : Nat) : Option Out := brun false (0, 0) (csF q) (lkb tX5_afloatIn) n 4 [some (aR 5 a0), some (aI a1), some (aI s.1), some (aI s.2), none] [] (ST0 q, m)
def kxfX5_afloatIn_b4 (q : Nat) (a0 : Nat) (a1 : Int32) (y : (Int32) × MM) (n : Nat) : Option Out := brun false (0, 0) (csF q) (lkb tX5_afloatIn) n 53 [none, none, some (aI y.1), none, none] [] (ST0 q, y.2)
theorem pfX5_afloatIn_b4 (q : Nat) (hcs : CSm (csF q)) (a0 : Nat) (a1 : Int32) (s : Int32 × Int32) (m : MM) : SimK (fX5_afloatIn_b4 a0 a1 s m) (hfX5_afloatIn_b4 q a0 a1 s m) (lpK (hfX5_afloatIn_b4 q a0 a1) (kxfX5_afloatIn_b4 q a0 a1)) :=
  simk_step 25
    (simk_ite
      (simk_sh 21 hcs (.n _ (.n _ (.s _ (.n _ (.n _ .nil))))) simk_leaf)
      (simk_bindO (fun o1 =>
        (simk_sh 13 hcs (.s _ (.s _ (.s _ (.s _ (.n _ .nil))))) simk_leaf)) (fun o1 i2 =>
        (simk_ite
          (simk_sh 10 hcs (.s _ (.s _ (.s _ (.s _ (.n _ .nil))))) simk_leaf)
          (simk_ite
            (simk_sh 6 hcs (.s _ (.s _ (.s _ (.s _ (.n _ .nil))))) simk_leaf)
            (simk_sh 0 hcs (.s _ (.s _ (.s _ (.s _ (.n _ .nil))))) simk_leaf))))))
    (fun _ => rfl)
theorem pfX5_afloatIn_b4_l (q : Nat) (hcs : CSm (csF q)) (a0 : Nat) (a1 : Int32) (s : Int32 × Int32) (m : MM) : SimK (loopF 1000 (fX5_afloatIn_b4 a0 a1) s m) (hfX5_afloatIn_b4 q a0 a1 s m) (kxfX5_afloatIn_b4 q a0 a1) :=
  simk_loopF (fun s m => pfX5_afloatIn_b4 q hcs a0 a1 s m) 1000 s m
theorem pfX5_afloatIn (q : Nat) (hcs : CSm (csF q)) (a0 : Nat) (a1 : Int32) (m : MM) : SimK (fX5_afloatIn a0 a1 m) (fun n => brun false (0, 0) (csF q) (lkb tX5_afloatIn) n 0 (entL 5 [aR 5 a0, aI a1]) [] (ST0 q, m)) (kt_X5_afloatIn q) :=
  simk_step 4
    (simk_loop (simk_sh 0 hcs (.s _ (.s _ (.s _ (.s _ (.n _ .nil))))) (pfX5_afloatIn_b4_l q hcs a0 a1 (0, 0) m)) (fun o3 => 
      (simk_step 2
        simk_leaf
      (fun _ => rfl))))
    (fun _ => rfl)
def kt_X5_walkersAt (q : Nat) : Int32 × MM → Nat → Option Out := fun x _ => some (some (aI x.1), (ST0 q, x.2))
def hfX5_walkersAt_b4 (q : Nat) (a0 : Nat) (a1 : Int32) (s : Int32 × Int32) (m : MM) (n : Nat) : Option Out := brun false (0, 0) (csF q) (lkb tX5_walkersAt) n 4 [some (aR 5 a0), some (aI a1), some (aI s.1), some (aI s.2), none] [] (ST0 q, m)
def kxfX5_walkersAt_b4 (q : Nat) (a0 : Nat) (a1 : Int32) (y : (Int32) × MM) (n : Nat) : Option Out := brun false (0, 0) (csF q) (lkb tX5_walkersAt) n 45 [none, none, some (aI y.1), none, none] [] (ST0 q, y.2)
theorem pfX5_walkersAt_b4 (q : Nat) (hcs : CSm (csF q)) (a0 : Nat) (a1 : Int32) (s : Int32 × Int32) (m : MM) : SimK (fX5_walkersAt_b4 a0 a1 s m) (hfX5_walkersAt_b4 q a0 a1 s m) (lpK (hfX5_walkersAt_b4 q a0 a1) (kxfX5_walkersAt_b4 q a0 a1)) :=
  simk_step 22
    (simk_ite
      (simk_sh 18 hcs (.n _ (.n _ (.s _ (.n _ (.n _ .nil))))) simk_leaf)
      (simk_bindO (fun o1 =>
        (simk_sh 10 hcs (.s _ (.s _ (.s _ (.s _ (.n _ .nil))))) simk_leaf)) (fun o1 i2 =>
        (simk_ite
          (simk_sh 6 hcs (.s _ (.s _ (.s _ (.s _ (.n _ .nil))))) simk_leaf)
          (simk_sh 0 hcs (.s _ (.s _ (.s _ (.s _ (.n _ .nil))))) simk_leaf)))))
    (fun _ => rfl)
theorem pfX5_walkersAt_b4_l (q : Nat) (hcs : CSm (csF q)) (a0 : Nat) (a1 : Int32) (s : Int32 × Int32) (m : MM) : SimK (loopF 1000 (fX5_walkersAt_b4 a0 a1) s m) (hfX5_walkersAt_b4 q a0 a1 s m) (kxfX5_walkersAt_b4 q a0 a1) :=
  simk_loopF (fun s m => pfX5_walkersAt_b4 q hcs a0 a1 s m) 1000 s m
theorem pfX5_walkersAt (q : Nat) (hcs : CSm (csF q)) (a0 : Nat) (a1 : Int32) (m : MM) : SimK (fX5_walkersAt a0 a1 m) (fun n => brun false (0, 0) (csF q) (lkb tX5_walkersAt) n 0 (entL 5 [aR 5 a0, aI a1]) [] (ST0 q, m)) (kt_X5_walkersAt q) :=
  simk_step 4
    (simk_loop (simk_sh 0 hcs (.s _ (.s _ (.s _ (.s _ (.n _ .nil))))) (pfX5_walkersAt_b4_l q hcs a0 a1 (0, 0) m)) (fun o3 => 
      (simk_step 2
        simk_leaf
      (fun _ => rfl))))
    (fun _ => rfl)
def kt_X5_dayBehind (q : Nat) : Int32 × MM → Nat → Option Out := fun x _ => some (some (aI x.1), (ST0 q, x.2))
theorem pfX5_dayBehind (q : Nat) (hcs : CSm (csF q)) (a0 : Nat) (a1 : Int32) (m : MM) : SimK (fX5_dayBehind a0 a1 m) (fun n => brun false (0, 0) (csF q) (lkb tX5_dayBehind) n 0 (entL 2 [aR 5 a0, aI a1]) [] (ST0 q, m)) (kt_X5_dayBehind q) :=
  simk_step 7
    simk_leaf
    (fun _ => rfl)
def kt_X5_push (q : Nat) : Int32 × MM → Nat → Option Out := fun x _ => some (some (aI x.1), (ST0 q, x.2))
theorem pfX5_push (q : Nat) (hcs : CSm (csF q)) (a0 : Nat) (a1 : Nat) (a2 : Int32) (m : MM) : SimK (fX5_push a0 a1 a2 m) (fun n => brun false (0, 0) (csF q) (lkb tX5_push) n 0 (entL 5 [aR 5 a0, aR 0 a1, aI a2]) [] (ST0 q, m)) (kt_X5_push q) :=
  simk_step 28
    (simk_bind fun o1 =>
      (simk_ite
        simk_leaf
        (simk_ite
          simk_leaf
          (simk_ite
            (simk_ite
              simk_none
              (simk_ite
                simk_leaf
                simk_leaf))
            (simk_ite
              (simk_ite
                simk_none
                simk_leaf)
              simk_leaf)))))
    (fun _ => rfl)
def kt_X5_spend (q : Nat) : Unit × MM → Nat → Option Out := fun x _ => some (none, (ST0 q, x.2))
theorem pfX5_spend (q : Nat) (hcs : CSm (csF q)) (a0 : Nat) (a1 : Nat) (a2 : Int32) (a3 : Int32) (m : MM) : SimK (fX5_spend a0 a1 a2 a3 m) (fun n => brun false (0, 0) (csF q) (lkb tX5_spend) n 0 (entL 5 [aR 5 a0, aR 0 a1, aI a2, aI a3]) [] (ST0 q, m)) (kt_X5_spend q) :=
  simk_step 37
    (simk_ite
      (simk_bind fun o1 =>
        (simk_bind fun o2 =>
          (simk_ite
            (simk_ite
              simk_leaf
              simk_leaf)
            simk_leaf)))
      simk_leaf)
    (fun _ => rfl)
def kt_X5_follow (q : Nat) : Unit × MM → Nat → Option Out := fun x _ => some (none, (ST0 q, x.2))
theorem pfX5_follow_j54 (q : Nat) (hcs : CSm (csF q)) (a0 : Nat) (a1 : Nat) (a4 : Int32) (a5 : Int32) (m : MM) : SimK (fX5_follow_j54 a0 a1 a4 a5 m) (fun n => brun false (0, 0) (csF q) (lkb tX5_follow) n 54 [some (aR 5 a0), some (aR 3 a1), none, some (aN), some (aI a4), some (aI a5)] [] (ST0 q, m)) (lpK (hfX5_follow_b32n3 q a0 a1 a4) (kxfX5_follow_b32n3 q a0 a1 a4)) :=
  simk_step 20
    (simk_bind fun o3 =>
      (simk_bind fun o4 =>
        (simk_bind fun o5 =>
          (simk_sh 0 hcs (.s _ (.s _ (.n _ (.s _ (.s _ (.s _ .nil)))))) simk_leaf))))
    (fun _ => rfl)
def hfX5_follow_b32n3 (q : Nat) (a0 : Nat) (a1 : Nat) (a4 : Int32) (s : Int32) (m : MM) (n : Nat) : Option Out := brun false (0, 0) (csF q) (lkb tX5_follow) n 32 [some (aR 5 a0), some (aR 3 a1), none, some (aN), some (aI a4), some (aI s)] [] (ST0 q, m)
def kxfX5_follow_b32n3 (q : Nat) (a0 : Nat) (a1 : Nat) (a4 : Int32) (y : (Unit) × MM) (n : Nat) : Option Out := brun false (0, 0) (csF q) (lkb tX5_follow) n 101 [none, none, none, none, none, none] [] (ST0 q, y.2)
theorem pfX5_follow_b32n3 (q : Nat) (hcs : CSm (csF q)) (a0 : Nat) (a1 : Nat) (a4 : Int32) (s : Int32) (m : MM) : SimK (fX5_follow_b32n3 a0 a1 a4 s m) (hfX5_follow_b32n3 q a0 a1 a4 s m) (lpK (hfX5_follow_b32n3 q a0 a1 a4) (kxfX5_follow_b32n3 q a0 a1 a4)) :=
  simk_step 5
    (simk_ite
      (simk_sh 2 hcs (.n _ (.n _ (.n _ (.n _ (.n _ (.n _ .nil)))))) simk_leaf)
      (simk_sh 0 hcs (.s _ (.s _ (.n _ (.s _ (.s _ (.s _ .nil)))))) (pfX5_follow_j54 q hcs a0 a1 a4 s m)))
    (fun _ => rfl)
theorem pfX5_follow_b32n3_l (q : Nat) (hcs : CSm (csF q)) (a0 : Nat) (a1 : Nat) (a4 : Int32) (s : Int32) (m : MM) : SimK (loopF 1000 (fX5_follow_b32n3 a0 a1 a4) s m) (hfX5_follow_b32n3 q a0 a1 a4 s m) (kxfX5_follow_b32n3 q a0 a1 a4) :=
  simk_loopF (fun s m => pfX5_follow_b32n3 q hcs a0 a1 a4 s m) 1000 s m
theorem pfX5_follow_j54_3_32 (q : Nat) (hcs : CSm (csF q)) (a0 : Nat) (a1 : Nat) (a3 : Nat) (a4 : Int32) (a5 : Int32) (m : MM) : SimK (fX5_follow_j54_3_32 a0 a1 a3 a4 a5 m) (fun n => brun false (0, 0) (csF q) (lkb tX5_follow) n 54 [some (aR 5 a0), some (aR 3 a1), none, some (aR 4 a3), some (aI a4), some (aI a5)] [] (ST0 q, m)) (lpK (hfX5_follow_b32 q a0 a1 a3 a4) (kxfX5_follow_b32 q a0 a1 a3 a4)) :=
  simk_step 21
    (simk_bind fun o11 =>
      (simk_bind fun o12 =>
        (simk_bind fun o13 =>
          (simk_sh 0 hcs (.s _ (.s _ (.n _ (.s _ (.s _ (.s _ .nil)))))) simk_leaf))))
    (fun _ => rfl)
def hfX5_follow_b32 (q : Nat) (a0 : Nat) (a1 : Nat) (a3 : Nat) (a4 : Int32) (s : Int32) (m : MM) (n : Nat) : Option Out := brun false (0, 0) (csF q) (lkb tX5_follow) n 32 [some (aR 5 a0), some (aR 3 a1), none, some (aR 4 a3), some (aI a4), some (aI s)] [] (ST0 q, m)
def kxfX5_follow_b32 (q : Nat) (a0 : Nat) (a1 : Nat) (a3 : Nat) (a4 : Int32) (y : (Unit) × MM) (n : Nat) : Option Out := brun false (0, 0) (csF q) (lkb tX5_follow) n 101 [none, none, none, none, none, none] [] (ST0 q, y.2)
theorem pfX5_follow_b32 (q : Nat) (hcs : CSm (csF q)) (a0 : Nat) (a1 : Nat) (a3 : Nat) (a4 : Int32) (s : Int32) (m : MM) : SimK (fX5_follow_b32 a0 a1 a3 a4 s m) (hfX5_follow_b32 q a0 a1 a3 a4 s m) (lpK (hfX5_follow_b32 q a0 a1 a3 a4) (kxfX5_follow_b32 q a0 a1 a3 a4)) :=
  simk_step 10
    (simk_ite
      (simk_sh 7 hcs (.n _ (.n _ (.n _ (.n _ (.n _ (.n _ .nil)))))) simk_leaf)
      (simk_bind fun o10 =>
        (simk_sh 0 hcs (.s _ (.s _ (.n _ (.s _ (.s _ (.s _ .nil)))))) (pfX5_follow_j54_3_32 q hcs a0 a1 a3 a4 s o10.2))))
    (fun _ => rfl)
theorem pfX5_follow_b32_l (q : Nat) (hcs : CSm (csF q)) (a0 : Nat) (a1 : Nat) (a3 : Nat) (a4 : Int32) (s : Int32) (m : MM) : SimK (loopF 1000 (fX5_follow_b32 a0 a1 a3 a4) s m) (hfX5_follow_b32 q a0 a1 a3 a4 s m) (kxfX5_follow_b32 q a0 a1 a3 a4) :=
  simk_loopF (fun s m => pfX5_follow_b32 q hcs a0 a1 a3 a4 s m) 1000 s m
theorem pfX5_follow_j20 (q : Nat) (hcs : CSm (csF q)) (a0 : Nat) (a1 : Nat) (a4 : Int32) (m : MM) : SimK (fX5_follow_j20 a0 a1 a4 m) (fun n => brun false (0, 0) (csF q) (lkb tX5_follow) n 20 [some (aR 5 a0), some (aR 3 a1), none, some (aN), some (aI a4), none] [] (ST0 q, m)) (kt_X5_follow q) :=
  simk_step 7
    (simk_bind fun o2 =>
      (simk_loop (simk_sh 0 hcs (.s _ (.s _ (.n _ (.s _ (.s _ (.s _ .nil)))))) (pfX5_follow_b32n3_l q hcs a0 a1 a4 1 o2.2)) (fun o6 => 
        (simk_step 1
          simk_leaf
        (fun _ => rfl)))))
    (fun _ => rfl)
theorem pfX5_follow_j20_2 (q : Nat) (hcs : CSm (csF q)) (a0 : Nat) (a1 : Nat) (a3 : Nat) (a4 : Int32) (m : MM) : SimK (fX5_follow_j20_2 a0 a1 a3 a4 m) (fun n => brun false (0, 0) (csF q) (lkb tX5_follow) n 20 [some (aR 5 a0), some (aR 3 a1), none, some (aR 4 a3), some (aI a4), none] [] (ST0 q, m)) (kt_X5_follow q) :=
  simk_step 7
    (simk_bind fun o9 =>
      (simk_loop (simk_sh 0 hcs (.s _ (.s _ (.n _ (.s _ (.s _ (.s _ .nil)))))) (pfX5_follow_b32_l q hcs a0 a1 a3 a4 1 o9.2)) (fun o14 => 
        (simk_step 1
          simk_leaf
        (fun _ => rfl)))))
    (fun _ => rfl)
theorem pfX5_follow0 (q : Nat) (hcs : CSm (csF q)) (a0 : Nat) (a1 : Nat) (a2 : Nat) (a4 : Int32) (m : MM) : SimK (fX5_follow a0 a1 a2 none a4 m) (fun n => brun false (0, 0) (csF q) (lkb tX5_follow) n 0 (entL 6 [aR 5 a0, aR 3 a1, aR 0 a2, aN, aI a4]) [] (ST0 q, m)) (kt_X5_follow q) :=
  simk_step 6
    (simk_bind fun o1 =>
      (simk_sh 0 hcs (.s _ (.s _ (.n _ (.s _ (.s _ (.n _ .nil)))))) (pfX5_follow_j20 q hcs a0 a1 a4 o1.2)))
    (fun _ => rfl)
theorem pfX5_follow1 (q : Nat) (hcs : CSm (csF q)) (a0 : Nat) (a1 : Nat) (a2 : Nat) (a3 : Nat) (a4 : Int32) (m : MM) : SimK (fX5_follow a0 a1 a2 (some a3) a4 m) (fun n => brun false (0, 0) (csF q) (lkb tX5_follow) n 0 (entL 6 [aR 5 a0, aR 3 a1, aR 0 a2, aR 4 a3, aI a4]) [] (ST0 q, m)) (kt_X5_follow q) :=
  simk_step 10
    (simk_bind fun o7 =>
      (simk_bind fun o8 =>
        (simk_sh 0 hcs (.s _ (.s _ (.n _ (.s _ (.s _ (.n _ .nil)))))) (pfX5_follow_j20_2 q hcs a0 a1 a3 a4 o8.2))))
    (fun _ => rfl)
