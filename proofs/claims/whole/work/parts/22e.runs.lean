/-! THE FUNCTIONS ARE THE RUNS, 4 -/
set_option maxRecDepth 20000
set_option maxHeartbeats 4000000
noncomputable def kt_X6_round (q : Nat) : Int32 × MM → Nat → Option Out := fun x _ => some (some (aI x.1), (ST0 q, x.2))
noncomputable def hfX6_round_b31 (q : Nat) (a0 : Nat) (a2 : Nat) (s : Int32) (m : MM) (n : Nat) : Option Out := brun false (0, 0) (csF q) (lkb tX6_round) n 31 [some (aR 6 a0), none, some (aR 4 a2), some (aI s)] [] (ST0 q, m)
noncomputable def kxfX6_round_b31 (q : Nat) (a0 : Nat) (a2 : Nat) (y : ((Unit) ⊕ (Int32)) × MM) (n : Nat) : Option Out := match y.1 with
  | Sum.inl x => brun false (0, 0) (csF q) (lkb tX6_round) n 87 [none, none, none, none] [] (ST0 q, y.2)
  | Sum.inr x => brun false (0, 0) (csF q) (lkb tX6_round) n 79 [none, none, none, some (aI x)] [] (ST0 q, y.2)
theorem pfX6_round_b31 (q : Nat) (hcs : CSm (csF q)) (a0 : Nat) (a2 : Nat) (s : Int32) (m : MM) : SimK (fX6_round_b31 a0 a2 s m) (hfX6_round_b31 q a0 a2 s m) (lpK (hfX6_round_b31 q a0 a2) (kxfX6_round_b31 q a0 a2)) :=
  (simk_run hcs 24 [31, 79, 87]
    (simt_ite
      (simt_go hcs (.n _ (.n _ (.n _ (.n _ .nil)))) (fun _ => rfl))
      (simt_bind fun o5 =>
        (simt_ite
          (simt_go hcs (.s _ (.n _ (.s _ (.s _ .nil)))) (fun _ => rfl))
          (simt_ite
            (simt_go hcs (.s _ (.n _ (.s _ (.s _ .nil)))) (fun _ => rfl))
            (simt_go hcs (.n _ (.n _ (.n _ (.s _ .nil)))) (fun _ => rfl))))))
  (fun _ => rfl))
theorem pfX6_round_b31_l (q : Nat) (hcs : CSm (csF q)) (a0 : Nat) (a2 : Nat) (s : Int32) (m : MM) : SimK (loopF 1000 (fX6_round_b31 a0 a2) s m) (hfX6_round_b31 q a0 a2 s m) (kxfX6_round_b31 q a0 a2) :=
  simk_loopF (fun s m => pfX6_round_b31 q hcs a0 a2 s m) 1000 s m
theorem pfX6_round (q : Nat) (hcs : CSm (csF q)) (a0 : Nat) (a1 : Int32) (m : MM) : SimK (fX6_round_b a0 a1 m) (fun n => brun false (0, 0) (csF q) (lkb tX6_round) n 0 (entL 4 [aR 6 a0, aI a1]) [] (ST0 q, m)) (kt_X6_round q) :=
  (simk_run hcs 14 [31]
    (simt_bindO (fun o1 =>
      (simt_bind fun o3 =>
        (simt_ret (some (some (aI o3.1), (ST0 q, o3.2))) (fun _ => rfl)))) (fun o1 i2 =>
      (simt_bind fun o4 =>
        (simt_loop hcs (.s _ (.n _ (.s _ (.s _ .nil)))) (pfX6_round_b31_l q hcs a0 i2 1 o4.2) (fun o6 => by
          obtain ⟨o6x, o6m⟩ := o6
          rcases o6x with x7 | x8
          · exact
            (simk_run hcs 3 []
              (simt_ret (some (some (aI (-1)), (ST0 q, o6m))) (fun _ => rfl))
            (fun _ => rfl))
          · exact
            (simk_run hcs 3 []
              (simt_ret (some (some (aI x8), (ST0 q, o6m))) (fun _ => rfl))
            (fun _ => rfl)))))))
  (fun _ => rfl))
noncomputable def kt_X6_join (q : Nat) : Int32 × MM → Nat → Option Out := fun x _ => some (some (aI x.1), (ST0 q, x.2))
noncomputable def hfX6_join_b75 (q : Nat) (a0 : Nat) (s : Int32) (m : MM) (n : Nat) : Option Out := brun false (0, 0) (csF q) (lkb tX6_join) n 75 [some (aR 6 a0), none, none, none, none, some (aI s), none] [] (ST0 q, m)
noncomputable def kxfX6_join_b75 (q : Nat) (a0 : Nat) (y : ((Unit) ⊕ (Int32)) × MM) (n : Nat) : Option Out := match y.1 with
  | Sum.inl x => brun false (0, 0) (csF q) (lkb tX6_join) n 148 [none, none, none, none, none, none, none] [] (ST0 q, y.2)
  | Sum.inr x => brun false (0, 0) (csF q) (lkb tX6_join) n 139 [none, none, none, none, none, some (aI x), none] [] (ST0 q, y.2)
theorem pfX6_join_j110 (q : Nat) (hcs : CSm (csF q)) (a0 : Nat) (a5 : Int32) (m : MM) : SimK (fX6_join_j110 a0 a5 m) (fun n => brun false (0, 0) (csF q) (lkb tX6_join) n 110 [some (aR 6 a0), none, none, none, none, some (aI a5), none] [] (ST0 q, m)) (lpK (hfX6_join_b75 q a0) (kxfX6_join_b75 q a0)) :=
  (simk_run hcs 7 [75]
    (simt_go hcs (.s _ (.n _ (.n _ (.n _ (.n _ (.s _ (.n _ .nil))))))) (fun _ => rfl))
  (fun _ => rfl))
theorem pfX6_join_b75 (q : Nat) (hcs : CSm (csF q)) (a0 : Nat) (s : Int32) (m : MM) : SimK (fX6_join_b75 a0 s m) (hfX6_join_b75 q a0 s m) (lpK (hfX6_join_b75 q a0) (kxfX6_join_b75 q a0)) :=
  (simk_run hcs 30 [75, 110, 139, 148]
    (simt_ite
      (simt_go hcs (.n _ (.n _ (.n _ (.n _ (.n _ (.n _ (.n _ .nil))))))) (fun _ => rfl))
      (simt_bind fun o12 =>
        (simt_ite
          (simt_join hcs (.s _ (.n _ (.n _ (.n _ (.n _ (.s _ (.n _ .nil))))))) (pfX6_join_j110 q hcs a0 s o12.2))
          (simt_bind fun o13 =>
            (simt_ite
              (simt_join hcs (.s _ (.n _ (.n _ (.n _ (.n _ (.s _ (.n _ .nil))))))) (pfX6_join_j110 q hcs a0 s o13.2))
              (simt_bind fun o14 =>
                (simt_bind fun o15 =>
                  (simt_ite
                    (simt_go hcs (.s _ (.n _ (.n _ (.n _ (.n _ (.s _ (.n _ .nil))))))) (fun _ => rfl))
                    (simt_go hcs (.n _ (.n _ (.n _ (.n _ (.n _ (.s _ (.n _ .nil))))))) (fun _ => rfl))))))))))
  (fun _ => rfl))
theorem pfX6_join_b75_l (q : Nat) (hcs : CSm (csF q)) (a0 : Nat) (s : Int32) (m : MM) : SimK (loopF 1000 (fX6_join_b75 a0) s m) (hfX6_join_b75 q a0 s m) (kxfX6_join_b75 q a0) :=
  simk_loopF (fun s m => pfX6_join_b75 q hcs a0 s m) 1000 s m
theorem pfX6_join (q : Nat) (hcs : CSm (csF q)) (a0 : Nat) (a1 : Int32) (a2 : Int32) (m : MM) : SimK (fX6_join_b a0 a1 a2 m) (fun n => brun false (0, 0) (csF q) (lkb tX6_join) n 0 (entL 7 [aR 6 a0, aI a1, aI a2]) [] (ST0 q, m)) (kt_X6_join q) :=
  (simk_run hcs 36 [75]
    (simt_bindO (fun o1 =>
      (simt_bindO (fun o3 =>
        (simt_bind fun o5 =>
          (simt_ret (some (some (aI o5.1), (ST0 q, o5.2))) (fun _ => rfl)))) (fun o3 i4 =>
        (simt_bind fun o6 =>
          (simt_ret (some (some (aI o6.1), (ST0 q, o6.2))) (fun _ => rfl)))))) (fun o1 i2 =>
      (simt_bindO (fun o7 =>
        (simt_bind fun o9 =>
          (simt_ret (some (some (aI o9.1), (ST0 q, o9.2))) (fun _ => rfl)))) (fun o7 i8 =>
        (simt_ite
          (simt_bind fun o10 =>
            (simt_bind fun o11 =>
              (simt_loop hcs (.s _ (.n _ (.n _ (.n _ (.n _ (.s _ (.n _ .nil))))))) (pfX6_join_b75_l q hcs a0 0 o11.2) (fun o16 => by
                obtain ⟨o16x, o16m⟩ := o16
                rcases o16x with x17 | x18
                · exact
                  (simk_run hcs 3 []
                    (simt_ret (some (some (aI (-1)), (ST0 q, o16m))) (fun _ => rfl))
                  (fun _ => rfl))
                · exact
                  (simk_run hcs 3 []
                    (simt_ret (some (some (aI x18), (ST0 q, o16m))) (fun _ => rfl))
                  (fun _ => rfl))))))
          (simt_bind fun o19 =>
            (simt_ret (some (some (aI o19.1), (ST0 q, o19.2))) (fun _ => rfl))))))))
  (fun _ => rfl))
noncomputable def kt_X6_breaks (q : Nat) : Int32 × MM → Nat → Option Out := fun x _ => some (some (aI x.1), (ST0 q, x.2))
noncomputable def hfX6_breaks_b48 (q : Nat) (a0 : Nat) (s : Int32) (m : MM) (n : Nat) : Option Out := brun false (0, 0) (csF q) (lkb tX6_breaks) n 48 [some (aR 6 a0), none, none, some (aI s)] [] (ST0 q, m)
noncomputable def kxfX6_breaks_b48 (q : Nat) (a0 : Nat) (y : ((Unit) ⊕ (Int32)) × MM) (n : Nat) : Option Out := match y.1 with
  | Sum.inl x => brun false (0, 0) (csF q) (lkb tX6_breaks) n 74 [none, none, none, none] [] (ST0 q, y.2)
  | Sum.inr x => brun false (0, 0) (csF q) (lkb tX6_breaks) n 66 [none, none, none, some (aI x)] [] (ST0 q, y.2)
theorem pfX6_breaks_b48 (q : Nat) (hcs : CSm (csF q)) (a0 : Nat) (s : Int32) (m : MM) : SimK (fX6_breaks_b48 a0 s m) (hfX6_breaks_b48 q a0 s m) (lpK (hfX6_breaks_b48 q a0) (kxfX6_breaks_b48 q a0)) :=
  (simk_run hcs 12 [48, 66, 74]
    (simt_ite
      (simt_go hcs (.n _ (.n _ (.n _ (.n _ .nil)))) (fun _ => rfl))
      (simt_bind fun o7 =>
        (simt_ite
          (simt_go hcs (.s _ (.n _ (.n _ (.s _ .nil)))) (fun _ => rfl))
          (simt_go hcs (.n _ (.n _ (.n _ (.s _ .nil)))) (fun _ => rfl)))))
  (fun _ => rfl))
theorem pfX6_breaks_b48_l (q : Nat) (hcs : CSm (csF q)) (a0 : Nat) (s : Int32) (m : MM) : SimK (loopF 1000 (fX6_breaks_b48 a0) s m) (hfX6_breaks_b48 q a0 s m) (kxfX6_breaks_b48 q a0) :=
  simk_loopF (fun s m => pfX6_breaks_b48 q hcs a0 s m) 1000 s m
theorem pfX6_breaks (q : Nat) (hcs : CSm (csF q)) (a0 : Nat) (a1 : Int32) (m : MM) : SimK (fX6_breaks_b a0 a1 m) (fun n => brun false (0, 0) (csF q) (lkb tX6_breaks) n 0 (entL 4 [aR 6 a0, aI a1]) [] (ST0 q, m)) (kt_X6_breaks q) :=
  (simk_run hcs 22 [48]
    (simt_bindO (fun o1 =>
      (simt_bind fun o3 =>
        (simt_ret (some (some (aI o3.1), (ST0 q, o3.2))) (fun _ => rfl)))) (fun o1 i2 =>
      (simt_bindO (fun o4 =>
        (simt_bind fun o6 =>
          (simt_loop hcs (.s _ (.n _ (.n _ (.s _ .nil)))) (pfX6_breaks_b48_l q hcs a0 0 o6.2) (fun o8 => by
            obtain ⟨o8x, o8m⟩ := o8
            rcases o8x with x9 | x10
            · exact
              (simk_run hcs 3 []
                (simt_ret (some (some (aI (-1)), (ST0 q, o8m))) (fun _ => rfl))
              (fun _ => rfl))
            · exact
              (simk_run hcs 3 []
                (simt_ret (some (some (aI x10), (ST0 q, o8m))) (fun _ => rfl))
              (fun _ => rfl)))))) (fun o4 i5 =>
        (simt_bind fun o11 =>
          (simt_loop hcs (.s _ (.n _ (.n _ (.s _ .nil)))) (pfX6_breaks_b48_l q hcs a0 0 o11.2) (fun o12 => by
            obtain ⟨o12x, o12m⟩ := o12
            rcases o12x with x13 | x14
            · exact
              (simk_run hcs 3 []
                (simt_ret (some (some (aI (-1)), (ST0 q, o12m))) (fun _ => rfl))
              (fun _ => rfl))
            · exact
              (simk_run hcs 3 []
                (simt_ret (some (some (aI x14), (ST0 q, o12m))) (fun _ => rfl))
              (fun _ => rfl)))))))))
  (fun _ => rfl))
noncomputable def kt_X6_first (q : Nat) : Int32 × MM → Nat → Option Out := fun x _ => some (some (aI x.1), (ST0 q, x.2))
noncomputable def hfX6_first_b26 (q : Nat) (a0 : Nat) (a1 : Int32) (s : Int32 × Int32 × Int32) (m : MM) (n : Nat) : Option Out := brun false (0, 0) (csF q) (lkb tX6_first) n 26 [some (aR 6 a0), some (aI a1), some (aI s.1), some (aI s.2.1), some (aI s.2.2), none, none] [] (ST0 q, m)
noncomputable def kxfX6_first_b26 (q : Nat) (a0 : Nat) (a1 : Int32) (y : (Int32) × MM) (n : Nat) : Option Out := brun false (0, 0) (csF q) (lkb tX6_first) n 114 [none, none, some (aI y.1), none, none, none, none] [] (ST0 q, y.2)
theorem pfX6_first_b26 (q : Nat) (hcs : CSm (csF q)) (a0 : Nat) (a1 : Int32) (s : Int32 × Int32 × Int32) (m : MM) : SimK (fX6_first_b26 a0 a1 s m) (hfX6_first_b26 q a0 a1 s m) (lpK (hfX6_first_b26 q a0 a1) (kxfX6_first_b26 q a0 a1)) :=
  (simk_run hcs 40 [26, 114]
    (simt_ite
      (simt_go hcs (.n _ (.n _ (.s _ (.n _ (.n _ (.n _ (.n _ .nil))))))) (fun _ => rfl))
      (simt_bindO (fun o4 =>
        (simt_go hcs (.s _ (.s _ (.s _ (.s _ (.s _ (.n _ (.n _ .nil))))))) (fun _ => rfl))) (fun o4 i5 =>
        (simt_ite
          (simt_go hcs (.s _ (.s _ (.s _ (.s _ (.s _ (.n _ (.n _ .nil))))))) (fun _ => rfl))
          (simt_ite
            (simt_bind fun o6 =>
              (simt_ite
                (simt_go hcs (.s _ (.s _ (.s _ (.s _ (.s _ (.n _ (.n _ .nil))))))) (fun _ => rfl))
                (simt_ite
                  (simt_go hcs (.s _ (.s _ (.s _ (.s _ (.s _ (.n _ (.n _ .nil))))))) (fun _ => rfl))
                  (simt_ite
                    (simt_go hcs (.s _ (.s _ (.s _ (.s _ (.s _ (.n _ (.n _ .nil))))))) (fun _ => rfl))
                    (simt_go hcs (.s _ (.s _ (.s _ (.s _ (.s _ (.n _ (.n _ .nil))))))) (fun _ => rfl))))))
            (simt_go hcs (.s _ (.s _ (.s _ (.s _ (.s _ (.n _ (.n _ .nil))))))) (fun _ => rfl)))))))
  (fun _ => rfl))
theorem pfX6_first_b26_l (q : Nat) (hcs : CSm (csF q)) (a0 : Nat) (a1 : Int32) (s : Int32 × Int32 × Int32) (m : MM) : SimK (loopF 1000 (fX6_first_b26 a0 a1) s m) (hfX6_first_b26 q a0 a1 s m) (kxfX6_first_b26 q a0 a1) :=
  simk_loopF (fun s m => pfX6_first_b26 q hcs a0 a1 s m) 1000 s m
theorem pfX6_first (q : Nat) (hcs : CSm (csF q)) (a0 : Nat) (a1 : Int32) (m : MM) : SimK (fX6_first_b a0 a1 m) (fun n => brun false (0, 0) (csF q) (lkb tX6_first) n 0 (entL 7 [aR 6 a0, aI a1]) [] (ST0 q, m)) (kt_X6_first q) :=
  (simk_run hcs 12 [26]
    (simt_bindO (fun o1 =>
      (simt_bind fun o3 =>
        (simt_ret (some (some (aI o3.1), (ST0 q, o3.2))) (fun _ => rfl)))) (fun o1 i2 =>
      (simt_loop hcs (.s _ (.s _ (.s _ (.s _ (.s _ (.n _ (.n _ .nil))))))) (pfX6_first_b26_l q hcs a0 a1 ((-1), (-1), 0) o1.2) (fun o7 => 
        (simk_run hcs 3 []
          (simt_ret (some (some (aI o7.1), (ST0 q, o7.2))) (fun _ => rfl))
        (fun _ => rfl))))))
  (fun _ => rfl))
noncomputable def kt_X6_next (q : Nat) : Int32 × MM → Nat → Option Out := fun x _ => some (some (aI x.1), (ST0 q, x.2))
theorem pfX6_next (q : Nat) (hcs : CSm (csF q)) (a0 : Nat) (a1 : Int32) (a2 : Int32) (a3 : Int32) (m : MM) : SimK (fX6_next_b a0 a1 a2 a3 m) (fun n => brun false (0, 0) (csF q) (lkb tX6_next) n 0 (entL 4 [aR 6 a0, aI a1, aI a2, aI a3]) [] (ST0 q, m)) (kt_X6_next q) :=
  (simk_run hcs 39 []
    (simt_bind fun o1 =>
      (simt_ite
        (simt_bind fun o2 =>
          (simt_ret (some (some (aI o2.1), (ST0 q, o2.2))) (fun _ => rfl)))
        (simt_bind fun o3 =>
          (simt_ite
            (simt_bind fun o4 =>
              (simt_ret (some (some (aI o4.1), (ST0 q, o4.2))) (fun _ => rfl)))
            (simt_bind fun o5 =>
              (simt_ite
                (simt_bind fun o6 =>
                  (simt_bind fun o7 =>
                    (simt_ite
                      (simt_ret (some (some (aI (o7.2.1 0 27 2)), (ST0 q, o7.2))) (fun _ => rfl))
                      (simt_ret (some (some (aI (-1)), (ST0 q, o7.2))) (fun _ => rfl)))))
                (simt_bind fun o8 =>
                  (simt_ret (some (some (aI o8.1), (ST0 q, o8.2))) (fun _ => rfl)))))))))
  (fun _ => rfl))
noncomputable def kt_X6_stays (q : Nat) : Int32 × MM → Nat → Option Out := fun x _ => some (some (aI x.1), (ST0 q, x.2))
noncomputable def hfX6_stays_b30 (q : Nat) (a0 : Nat) (a1 : Int32) (a2 : Int32) (s : Int32 × Int32) (m : MM) (n : Nat) : Option Out := brun false (0, 0) (csF q) (lkb tX6_stays) n 30 [some (aR 6 a0), some (aI a1), some (aI a2), some (aI s.1), some (aI s.2)] [] (ST0 q, m)
noncomputable def kxfX6_stays_b30 (q : Nat) (a0 : Nat) (a1 : Int32) (a2 : Int32) (y : (Int32) × MM) (n : Nat) : Option Out := brun false (0, 0) (csF q) (lkb tX6_stays) n 98 [none, none, none, some (aI y.1), none] [] (ST0 q, y.2)
theorem pfX6_stays_b30 (q : Nat) (hcs : CSm (csF q)) (a0 : Nat) (a1 : Int32) (a2 : Int32) (s : Int32 × Int32) (m : MM) : SimK (fX6_stays_b30 a0 a1 a2 s m) (hfX6_stays_b30 q a0 a1 a2 s m) (lpK (hfX6_stays_b30 q a0 a1 a2) (kxfX6_stays_b30 q a0 a1 a2)) :=
  (simk_run hcs 35 [30, 98]
    (simt_ite
      (simt_go hcs (.n _ (.n _ (.n _ (.s _ (.n _ .nil))))) (fun _ => rfl))
      (simt_bind fun o4 =>
        (simt_bind fun o5 =>
          (simt_ite
            (simt_go hcs (.s _ (.s _ (.s _ (.s _ (.s _ .nil))))) (fun _ => rfl))
            (simt_go hcs (.s _ (.s _ (.s _ (.s _ (.s _ .nil))))) (fun _ => rfl))))))
  (fun _ => rfl))
theorem pfX6_stays_b30_l (q : Nat) (hcs : CSm (csF q)) (a0 : Nat) (a1 : Int32) (a2 : Int32) (s : Int32 × Int32) (m : MM) : SimK (loopF 1000 (fX6_stays_b30 a0 a1 a2) s m) (hfX6_stays_b30 q a0 a1 a2 s m) (kxfX6_stays_b30 q a0 a1 a2) :=
  simk_loopF (fun s m => pfX6_stays_b30 q hcs a0 a1 a2 s m) 1000 s m
theorem pfX6_stays (q : Nat) (hcs : CSm (csF q)) (a0 : Nat) (a1 : Int32) (a2 : Int32) (m : MM) : SimK (fX6_stays_b a0 a1 a2 m) (fun n => brun false (0, 0) (csF q) (lkb tX6_stays) n 0 (entL 5 [aR 6 a0, aI a1, aI a2]) [] (ST0 q, m)) (kt_X6_stays q) :=
  (simk_run hcs 13 [30]
    (simt_bind fun o1 =>
      (simt_ite
        (simt_bind fun o2 =>
          (simt_ret (some (some (aI o2.1), (ST0 q, o2.2))) (fun _ => rfl)))
        (simt_bind fun o3 =>
          (simt_ite
            (simt_loop hcs (.s _ (.s _ (.s _ (.s _ (.s _ .nil))))) (pfX6_stays_b30_l q hcs a0 a1 a2 (0, 0) o3.2) (fun o6 => 
              (simk_run hcs 3 []
                (simt_ret (some (some (aI o6.1), (ST0 q, o6.2))) (fun _ => rfl))
              (fun _ => rfl))))
            (simt_bind fun o7 =>
              (simt_ret (some (some (aI o7.1), (ST0 q, o7.2))) (fun _ => rfl)))))))
  (fun _ => rfl))
noncomputable def kt_X6_strays (q : Nat) : Int32 × MM → Nat → Option Out := fun x _ => some (some (aI x.1), (ST0 q, x.2))
noncomputable def hfX6_strays_b4 (q : Nat) (a0 : Nat) (s : Int32 × Int32) (m : MM) (n : Nat) : Option Out := brun false (0, 0) (csF q) (lkb tX6_strays) n 4 [some (aR 6 a0), some (aI s.1), some (aI s.2), none] [] (ST0 q, m)
noncomputable def kxfX6_strays_b4 (q : Nat) (a0 : Nat) (y : (Int32) × MM) (n : Nat) : Option Out := brun false (0, 0) (csF q) (lkb tX6_strays) n 80 [none, some (aI y.1), none, none] [] (ST0 q, y.2)
theorem pfX6_strays_b4 (q : Nat) (hcs : CSm (csF q)) (a0 : Nat) (s : Int32 × Int32) (m : MM) : SimK (fX6_strays_b4 a0 s m) (hfX6_strays_b4 q a0 s m) (lpK (hfX6_strays_b4 q a0) (kxfX6_strays_b4 q a0)) :=
  (simk_run hcs 38 [4, 80]
    (simt_ite
      (simt_go hcs (.n _ (.s _ (.n _ (.n _ .nil)))) (fun _ => rfl))
      (simt_bindO (fun o1 =>
        (simt_go hcs (.s _ (.s _ (.s _ (.n _ .nil)))) (fun _ => rfl))) (fun o1 i2 =>
        (simt_bindO (fun o3 =>
          (simt_bind fun o5 =>
            (simt_bind fun o6 =>
              (simt_ite
                (simt_go hcs (.s _ (.s _ (.s _ (.n _ .nil)))) (fun _ => rfl))
                (simt_go hcs (.s _ (.s _ (.s _ (.n _ .nil)))) (fun _ => rfl)))))) (fun o3 i4 =>
          (simt_bind fun o7 =>
            (simt_bind fun o8 =>
              (simt_ite
                (simt_go hcs (.s _ (.s _ (.s _ (.n _ .nil)))) (fun _ => rfl))
                (simt_go hcs (.s _ (.s _ (.s _ (.n _ .nil)))) (fun _ => rfl))))))))))
  (fun _ => rfl))
theorem pfX6_strays_b4_l (q : Nat) (hcs : CSm (csF q)) (a0 : Nat) (s : Int32 × Int32) (m : MM) : SimK (loopF 1000 (fX6_strays_b4 a0) s m) (hfX6_strays_b4 q a0 s m) (kxfX6_strays_b4 q a0) :=
  simk_loopF (fun s m => pfX6_strays_b4 q hcs a0 s m) 1000 s m
theorem pfX6_strays (q : Nat) (hcs : CSm (csF q)) (a0 : Nat) (m : MM) : SimK (fX6_strays_b a0 m) (fun n => brun false (0, 0) (csF q) (lkb tX6_strays) n 0 (entL 4 [aR 6 a0]) [] (ST0 q, m)) (kt_X6_strays q) :=
  (simk_run hcs 5 [4]
    (simt_loop hcs (.s _ (.s _ (.s _ (.n _ .nil)))) (pfX6_strays_b4_l q hcs a0 (0, 0) m) (fun o9 => 
      (simk_run hcs 3 []
        (simt_ret (some (some (aI o9.1), (ST0 q, o9.2))) (fun _ => rfl))
      (fun _ => rfl))))
  (fun _ => rfl))
noncomputable def kt_X6_ofKind (q : Nat) : Int32 × MM → Nat → Option Out := fun x _ => some (some (aI x.1), (ST0 q, x.2))
noncomputable def hfX6_ofKind_b19 (q : Nat) (a0 : Nat) (a1 : Int32) (s : Int32 × Int32) (m : MM) (n : Nat) : Option Out := brun false (0, 0) (csF q) (lkb tX6_ofKind) n 19 [some (aR 6 a0), some (aI a1), some (aI s.1), some (aI s.2), none] [] (ST0 q, m)
noncomputable def kxfX6_ofKind_b19 (q : Nat) (a0 : Nat) (a1 : Int32) (y : (Int32) × MM) (n : Nat) : Option Out := brun false (0, 0) (csF q) (lkb tX6_ofKind) n 63 [none, none, some (aI y.1), none, none] [] (ST0 q, y.2)
theorem pfX6_ofKind_b19 (q : Nat) (hcs : CSm (csF q)) (a0 : Nat) (a1 : Int32) (s : Int32 × Int32) (m : MM) : SimK (fX6_ofKind_b19 a0 a1 s m) (hfX6_ofKind_b19 q a0 a1 s m) (lpK (hfX6_ofKind_b19 q a0 a1) (kxfX6_ofKind_b19 q a0 a1)) :=
  (simk_run hcs 20 [19, 63]
    (simt_ite
      (simt_go hcs (.n _ (.n _ (.s _ (.n _ (.n _ .nil))))) (fun _ => rfl))
      (simt_bindO (fun o2 =>
        (simt_go hcs (.s _ (.s _ (.s _ (.s _ (.n _ .nil))))) (fun _ => rfl))) (fun o2 i3 =>
        (simt_ite
          (simt_go hcs (.s _ (.s _ (.s _ (.s _ (.n _ .nil))))) (fun _ => rfl))
          (simt_go hcs (.s _ (.s _ (.s _ (.s _ (.n _ .nil))))) (fun _ => rfl))))))
  (fun _ => rfl))
theorem pfX6_ofKind_b19_l (q : Nat) (hcs : CSm (csF q)) (a0 : Nat) (a1 : Int32) (s : Int32 × Int32) (m : MM) : SimK (loopF 1000 (fX6_ofKind_b19 a0 a1) s m) (hfX6_ofKind_b19 q a0 a1 s m) (kxfX6_ofKind_b19 q a0 a1) :=
  simk_loopF (fun s m => pfX6_ofKind_b19 q hcs a0 a1 s m) 1000 s m
theorem pfX6_ofKind (q : Nat) (hcs : CSm (csF q)) (a0 : Nat) (a1 : Int32) (m : MM) : SimK (fX6_ofKind_b a0 a1 m) (fun n => brun false (0, 0) (csF q) (lkb tX6_ofKind) n 0 (entL 5 [aR 6 a0, aI a1]) [] (ST0 q, m)) (kt_X6_ofKind q) :=
  (simk_run hcs 8 [19]
    (simt_bind fun o1 =>
      (simt_ite
        (simt_loop hcs (.s _ (.s _ (.s _ (.s _ (.n _ .nil))))) (pfX6_ofKind_b19_l q hcs a0 a1 (0, 0) o1.2) (fun o4 => 
          (simk_run hcs 3 []
            (simt_ret (some (some (aI o4.1), (ST0 q, o4.2))) (fun _ => rfl))
          (fun _ => rfl))))
        (simt_bind fun o5 =>
          (simt_ret (some (some (aI o5.1), (ST0 q, o5.2))) (fun _ => rfl)))))
  (fun _ => rfl))
noncomputable def kt_X6_judge (q : Nat) : Int32 × MM → Nat → Option Out := fun x _ => some (some (aI x.1), (ST0 q, x.2))
noncomputable def hfX6_judge_b109 (q : Nat) (a0 : Nat) (a2 : Int32) (a4 : Nat) (s : Int32) (m : MM) (n : Nat) : Option Out := brun false (0, 0) (csF q) (lkb tX6_judge) n 109 [some (aR 6 a0), none, some (aI a2), none, some (aR 1 a4), none, some (aI s)] [] (ST0 q, m)
noncomputable def kxfX6_judge_b109 (q : Nat) (a0 : Nat) (a2 : Int32) (a4 : Nat) (y : ((Unit) ⊕ (Int32)) × MM) (n : Nat) : Option Out := match y.1 with
  | Sum.inl x => brun false (0, 0) (csF q) (lkb tX6_judge) n 147 [none, none, none, none, none, none, none] [] (ST0 q, y.2)
  | Sum.inr x => brun false (0, 0) (csF q) (lkb tX6_judge) n 138 [none, none, none, none, none, none, some (aI x)] [] (ST0 q, y.2)
theorem pfX6_judge_b109 (q : Nat) (hcs : CSm (csF q)) (a0 : Nat) (a2 : Int32) (a4 : Nat) (s : Int32) (m : MM) : SimK (fX6_judge_b109 a0 a2 a4 s m) (hfX6_judge_b109 q a0 a2 a4 s m) (lpK (hfX6_judge_b109 q a0 a2 a4) (kxfX6_judge_b109 q a0 a2 a4)) :=
  (simk_run hcs 18 [109, 138, 147]
    (simt_ite
      (simt_go hcs (.n _ (.n _ (.n _ (.n _ (.n _ (.n _ (.n _ .nil))))))) (fun _ => rfl))
      (simt_bind fun o18 =>
        (simt_bind fun o19 =>
          (simt_ite
            (simt_go hcs (.s _ (.n _ (.s _ (.n _ (.s _ (.n _ (.s _ .nil))))))) (fun _ => rfl))
            (simt_go hcs (.n _ (.n _ (.n _ (.n _ (.n _ (.n _ (.s _ .nil))))))) (fun _ => rfl))))))
  (fun _ => rfl))
theorem pfX6_judge_b109_l (q : Nat) (hcs : CSm (csF q)) (a0 : Nat) (a2 : Int32) (a4 : Nat) (s : Int32) (m : MM) : SimK (loopF 1000 (fX6_judge_b109 a0 a2 a4) s m) (hfX6_judge_b109 q a0 a2 a4 s m) (kxfX6_judge_b109 q a0 a2 a4) :=
  simk_loopF (fun s m => pfX6_judge_b109 q hcs a0 a2 a4 s m) 1000 s m
theorem pfX6_judge (q : Nat) (hcs : CSm (csF q)) (a0 : Nat) (a1 : Int32) (a2 : Int32) (a3 : Int32) (m : MM) : SimK (fX6_judge_b a0 a1 a2 a3 m) (fun n => brun false (0, 0) (csF q) (lkb tX6_judge) n 0 (entL 7 [aR 6 a0, aI a1, aI a2, aI a3]) [] (ST0 q, m)) (kt_X6_judge q) :=
  (simk_run hcs 40 [109]
    (simt_bindO (fun o1 =>
      (simt_bindO (fun o3 =>
        (simt_bind fun o5 =>
          (simt_ret (some (some (aI o5.1), (ST0 q, o5.2))) (fun _ => rfl)))) (fun o3 i4 =>
        (simt_bind fun o6 =>
          (simt_ret (some (some (aI o6.1), (ST0 q, o6.2))) (fun _ => rfl)))))) (fun o1 i2 =>
      (simt_bindO (fun o7 =>
        (simt_bind fun o9 =>
          (simt_ite
            (simt_bind fun o10 =>
              (simt_ret (some (some (aI o10.1), (ST0 q, o10.2))) (fun _ => rfl)))
            (simt_bind fun o11 =>
              (simt_ret (some (some (aI o11.1), (ST0 q, o11.2))) (fun _ => rfl)))))) (fun o7 i8 =>
        (simt_bind fun o12 =>
          (simt_ite
            (simt_bind fun o13 =>
              (simt_ret (some (some (aI o13.1), (ST0 q, o13.2))) (fun _ => rfl)))
            (simt_bind fun o14 =>
              (simt_ite
                (simt_ite
                  (simt_bindO (fun o15 =>
                    (simt_bind fun o17 =>
                      (simt_loop hcs (.s _ (.n _ (.s _ (.n _ (.s _ (.n _ (.s _ .nil))))))) (pfX6_judge_b109_l q hcs a0 a2 i2 0 o17.2) (fun o20 => by
                        obtain ⟨o20x, o20m⟩ := o20
                        rcases o20x with x21 | x22
                        · exact
                          (simk_run hcs 3 []
                            (simt_ret (some (some (aI (-1)), (ST0 q, o20m))) (fun _ => rfl))
                          (fun _ => rfl))
                        · exact
                          (simk_run hcs 3 []
                            (simt_ret (some (some (aI x22), (ST0 q, o20m))) (fun _ => rfl))
                          (fun _ => rfl)))))) (fun o15 i16 =>
                    (simt_bind fun o23 =>
                      (simt_loop hcs (.s _ (.n _ (.s _ (.n _ (.s _ (.n _ (.s _ .nil))))))) (pfX6_judge_b109_l q hcs a0 a2 i2 0 o23.2) (fun o24 => by
                        obtain ⟨o24x, o24m⟩ := o24
                        rcases o24x with x25 | x26
                        · exact
                          (simk_run hcs 3 []
                            (simt_ret (some (some (aI (-1)), (ST0 q, o24m))) (fun _ => rfl))
                          (fun _ => rfl))
                        · exact
                          (simk_run hcs 3 []
                            (simt_ret (some (some (aI x26), (ST0 q, o24m))) (fun _ => rfl))
                          (fun _ => rfl)))))))
                  (simt_bind fun o27 =>
                    (simt_ret (some (some (aI o27.1), (ST0 q, o27.2))) (fun _ => rfl))))
                (simt_bind fun o28 =>
                  (simt_bind fun o29 =>
                    (simt_ret (some (some (aI o29.1), (ST0 q, o29.2))) (fun _ => rfl))))))))))))
  (fun _ => rfl))
noncomputable def kt_X6_thrown (q : Nat) : Int32 × MM → Nat → Option Out := fun x _ => some (some (aI x.1), (ST0 q, x.2))
theorem pfX6_thrown_j28 (q : Nat) (hcs : CSm (csF q)) (a0 : Nat) (a1 : Int32) (a2 : Int32) (a3 : Int32) (a4 : Int32) (z0 : Int32) (m : MM) : SimK (fX6_thrown_j28 a0 a1 a2 a3 a4 z0 m) (fun n => brun false (0, 0) (csF q) (lkb tX6_thrown) n 28 [some (aR 6 a0), some (aI a1), some (aI a2), some (aI a3), some (aI a4), none] [aI z0] (ST0 q, m)) (kt_X6_thrown q) :=
  (simk_run hcs 24 []
    (simt_bind fun o2 =>
      (simt_ite
        (simt_bind fun o3 =>
          (simt_ret (some (some (aI o3.1), (ST0 q, o3.2))) (fun _ => rfl)))
        (simt_bind fun o4 =>
          (simt_ite
            (simt_bind fun o5 =>
              (simt_ret (some (some (aI o5.1), (ST0 q, o5.2))) (fun _ => rfl)))
            (simt_ite
              (simt_bind fun o6 =>
                (simt_ite
                  (simt_bind fun o7 =>
                    (simt_ret (some (some (aI o7.1), (ST0 q, o7.2))) (fun _ => rfl)))
                  (simt_bind fun o8 =>
                    (simt_ret (some (some (aI o8.1), (ST0 q, o8.2))) (fun _ => rfl)))))
              (simt_bind fun o9 =>
                (simt_ret (some (some (aI o9.1), (ST0 q, o9.2))) (fun _ => rfl))))))))
  (fun _ => rfl))
theorem pfX6_thrown_j27 (q : Nat) (hcs : CSm (csF q)) (a0 : Nat) (a1 : Int32) (a2 : Int32) (a3 : Int32) (a4 : Int32) (m : MM) : SimK (fX6_thrown_j27 a0 a1 a2 a3 a4 m) (fun n => brun false (0, 0) (csF q) (lkb tX6_thrown) n 27 [some (aR 6 a0), some (aI a1), some (aI a2), some (aI a3), some (aI a4), none] [] (ST0 q, m)) (kt_X6_thrown q) :=
  (simk_run hcs 2 [28]
    (simt_join hcs (.s _ (.s _ (.s _ (.s _ (.s _ (.n _ .nil)))))) (pfX6_thrown_j28 q hcs a0 a1 a2 a3 a4 0 m))
  (fun _ => rfl))
theorem pfX6_thrown (q : Nat) (hcs : CSm (csF q)) (a0 : Nat) (a1 : Int32) (a2 : Int32) (a3 : Int32) (a4 : Int32) (m : MM) : SimK (fX6_thrown_b a0 a1 a2 a3 a4 m) (fun n => brun false (0, 0) (csF q) (lkb tX6_thrown) n 0 (entL 6 [aR 6 a0, aI a1, aI a2, aI a3, aI a4]) [] (ST0 q, m)) (kt_X6_thrown q) :=
  (simk_run hcs 13 [27, 28]
    (simt_bind fun o1 =>
      (simt_ite
        (simt_join hcs (.s _ (.s _ (.s _ (.s _ (.s _ (.n _ .nil)))))) (pfX6_thrown_j27 q hcs a0 a1 a2 a3 a4 o1.2))
        (simt_bindO (fun o10 =>
          (simt_join hcs (.s _ (.s _ (.s _ (.s _ (.s _ (.n _ .nil)))))) (pfX6_thrown_j27 q hcs a0 a1 a2 a3 a4 o10.2))) (fun o10 i11 =>
          (simt_join hcs (.s _ (.s _ (.s _ (.s _ (.s _ (.n _ .nil)))))) (pfX6_thrown_j28 q hcs a0 a1 a2 a3 a4 1 o10.2))))))
  (fun _ => rfl))
noncomputable def kt_X6_days (q : Nat) : Int32 × MM → Nat → Option Out := fun x _ => some (some (aI x.1), (ST0 q, x.2))
noncomputable def hfX6_days_b20 (q : Nat) (a0 : Nat) (a1 : Int32) (s : Int32) (m : MM) (n : Nat) : Option Out := brun false (0, 0) (csF q) (lkb tX6_days) n 20 [some (aR 6 a0), some (aI a1), some (aI s)] [] (ST0 q, m)
noncomputable def kxfX6_days_b20 (q : Nat) (a0 : Nat) (a1 : Int32) (y : (Unit) × MM) (n : Nat) : Option Out := brun false (0, 0) (csF q) (lkb tX6_days) n 39 [some (aR 6 a0), none, none] [] (ST0 q, y.2)
theorem pfX6_days_b20 (q : Nat) (hcs : CSm (csF q)) (a0 : Nat) (a1 : Int32) (s : Int32) (m : MM) : SimK (fX6_days_b20 a0 a1 s m) (hfX6_days_b20 q a0 a1 s m) (lpK (hfX6_days_b20 q a0 a1) (kxfX6_days_b20 q a0 a1)) :=
  (simk_run hcs 10 [20, 39]
    (simt_ite
      (simt_go hcs (.s _ (.n _ (.n _ .nil))) (fun _ => rfl))
      (simt_bind fun o2 =>
        (simt_go hcs (.s _ (.s _ (.s _ .nil))) (fun _ => rfl))))
  (fun _ => rfl))
theorem pfX6_days_b20_l (q : Nat) (hcs : CSm (csF q)) (a0 : Nat) (a1 : Int32) (s : Int32) (m : MM) : SimK (loopF 1000 (fX6_days_b20 a0 a1) s m) (hfX6_days_b20 q a0 a1 s m) (kxfX6_days_b20 q a0 a1) :=
  simk_loopF (fun s m => pfX6_days_b20 q hcs a0 a1 s m) 1000 s m
theorem pfX6_days (q : Nat) (hcs : CSm (csF q)) (a0 : Nat) (a1 : Int32) (m : MM) : SimK (fX6_days_b a0 a1 m) (fun n => brun false (0, 0) (csF q) (lkb tX6_days) n 0 (entL 3 [aR 6 a0, aI a1]) [] (ST0 q, m)) (kt_X6_days q) :=
  (simk_run hcs 10 [20]
    (simt_bind fun o1 =>
      (simt_ite
        (simt_loop hcs (.s _ (.s _ (.s _ .nil))) (pfX6_days_b20_l q hcs a0 a1 0 o1.2) (fun o3 => 
          (simk_run hcs 5 []
            (simt_ret (some (some (aI (o3.2.1 5 0 3)), (ST0 q, o3.2))) (fun _ => rfl))
          (fun _ => rfl))))
        (simt_bind fun o4 =>
          (simt_ret (some (some (aI o4.1), (ST0 q, o4.2))) (fun _ => rfl)))))
  (fun _ => rfl))
noncomputable def kt_X6_drawn (q : Nat) : Int32 × MM → Nat → Option Out := fun x _ => some (some (aI x.1), (ST0 q, x.2))
noncomputable def hfX6_drawn_b40 (q : Nat) (a0 : Nat) (a1 : Int32) (s : Int32 × Int32) (m : MM) (n : Nat) : Option Out := brun false (0, 0) (csF q) (lkb tX6_drawn) n 40 [some (aR 6 a0), some (aI a1), some (aI s.1), some (aI s.2)] [] (ST0 q, m)
noncomputable def kxfX6_drawn_b40 (q : Nat) (a0 : Nat) (a1 : Int32) (y : (Int32) × MM) (n : Nat) : Option Out := brun false (0, 0) (csF q) (lkb tX6_drawn) n 61 [none, none, some (aI y.1), none] [] (ST0 q, y.2)
theorem pfX6_drawn_b40 (q : Nat) (hcs : CSm (csF q)) (a0 : Nat) (a1 : Int32) (s : Int32 × Int32) (m : MM) : SimK (fX6_drawn_b40 a0 a1 s m) (hfX6_drawn_b40 q a0 a1 s m) (lpK (hfX6_drawn_b40 q a0 a1) (kxfX6_drawn_b40 q a0 a1)) :=
  (simk_run hcs 12 [40, 61]
    (simt_ite
      (simt_go hcs (.n _ (.n _ (.s _ (.n _ .nil)))) (fun _ => rfl))
      (simt_bind fun o2 =>
        (simt_go hcs (.s _ (.s _ (.s _ (.s _ .nil)))) (fun _ => rfl))))
  (fun _ => rfl))
theorem pfX6_drawn_b40_l (q : Nat) (hcs : CSm (csF q)) (a0 : Nat) (a1 : Int32) (s : Int32 × Int32) (m : MM) : SimK (loopF 1000 (fX6_drawn_b40 a0 a1) s m) (hfX6_drawn_b40 q a0 a1 s m) (kxfX6_drawn_b40 q a0 a1) :=
  simk_loopF (fun s m => pfX6_drawn_b40 q hcs a0 a1 s m) 1000 s m
theorem pfX6_drawn (q : Nat) (hcs : CSm (csF q)) (a0 : Nat) (a1 : Int32) (m : MM) : SimK (fX6_drawn_b a0 a1 m) (fun n => brun false (0, 0) (csF q) (lkb tX6_drawn) n 0 (entL 4 [aR 6 a0, aI a1]) [] (ST0 q, m)) (kt_X6_drawn q) :=
  (simk_run hcs 14 [40]
    (simt_bind fun o1 =>
      (simt_ite
        (simt_ite
          (simt_loop hcs (.s _ (.s _ (.s _ (.s _ .nil)))) (pfX6_drawn_b40_l q hcs a0 a1 (0, 0) o1.2) (fun o3 => 
            (simk_run hcs 3 []
              (simt_ret (some (some (aI o3.1), (ST0 q, o3.2))) (fun _ => rfl))
            (fun _ => rfl))))
          (simt_bind fun o4 =>
            (simt_ret (some (some (aI o4.1), (ST0 q, o4.2))) (fun _ => rfl))))
        (simt_bind fun o5 =>
          (simt_ret (some (some (aI o5.1), (ST0 q, o5.2))) (fun _ => rfl)))))
  (fun _ => rfl))
noncomputable def kt_X6_seed (q : Nat) : Int32 × MM → Nat → Option Out := fun x _ => some (some (aI x.1), (ST0 q, x.2))
theorem pfX6_seed (q : Nat) (hcs : CSm (csF q)) (a0 : Nat) (a1 : Int32) (m : MM) : SimK (fX6_seed_b a0 a1 m) (fun n => brun false (0, 0) (csF q) (lkb tX6_seed) n 0 (entL 3 [aR 6 a0, aI a1]) [] (ST0 q, m)) (kt_X6_seed q) :=
  (simk_run hcs 11 []
    (simt_ret (some (some (aI (m.1 5 0 4)), (ST0 q, ((upI m.1 5 0 4 a1), m.2)))) (fun _ => rfl))
  (fun _ => rfl))
noncomputable def kt_X6_image (q : Nat) : Int32 × MM → Nat → Option Out := fun x _ => some (some (aI x.1), (ST0 q, x.2))
theorem pfX6_image (q : Nat) (hcs : CSm (csF q)) (a0 : Nat) (m : MM) : SimK (fX6_image_b a0 m) (fun n => brun false (0, 0) (csF q) (lkb tX6_image) n 0 (entL 1 [aR 6 a0]) [] (ST0 q, m)) (kt_X6_image q) :=
  (simk_run hcs 11 []
    (simt_bind fun o1 =>
      (simt_ret (some (some (aI 1), (ST0 q, ((upI o1.2.1 6 a0 3 1), o1.2.2)))) (fun _ => rfl)))
  (fun _ => rfl))
noncomputable def kt_X6_back (q : Nat) : Int32 × MM → Nat → Option Out := fun x _ => some (some (aI x.1), (ST0 q, x.2))
noncomputable def hfX6_back_b28 (q : Nat) (a0 : Nat) (s : Int32) (m : MM) (n : Nat) : Option Out := brun false (0, 0) (csF q) (lkb tX6_back) n 28 [some (aR 6 a0), some (aI s), none] [] (ST0 q, m)
noncomputable def kxfX6_back_b28 (q : Nat) (a0 : Nat) (y : (Unit) × MM) (n : Nat) : Option Out := brun false (0, 0) (csF q) (lkb tX6_back) n 82 [none, none, none] [] (ST0 q, y.2)
theorem pfX6_back_b28 (q : Nat) (hcs : CSm (csF q)) (a0 : Nat) (s : Int32) (m : MM) : SimK (fX6_back_b28 a0 s m) (hfX6_back_b28 q a0 s m) (lpK (hfX6_back_b28 q a0) (kxfX6_back_b28 q a0)) :=
  (simk_run hcs 28 [28, 82]
    (simt_ite
      (simt_go hcs (.n _ (.n _ (.n _ .nil))) (fun _ => rfl))
      (simt_bindO (fun o2 =>
        (simt_go hcs (.s _ (.s _ (.n _ .nil))) (fun _ => rfl))) (fun o2 i3 =>
        (simt_bind fun o4 =>
          (simt_ite
            (simt_go hcs (.s _ (.s _ (.n _ .nil))) (fun _ => rfl))
            (simt_bindO (fun o5 =>
              (simt_go hcs (.s _ (.s _ (.n _ .nil))) (fun _ => rfl))) (fun o5 i6 =>
              (simt_go hcs (.s _ (.s _ (.n _ .nil))) (fun _ => rfl)))))))))
  (fun _ => rfl))
theorem pfX6_back_b28_l (q : Nat) (hcs : CSm (csF q)) (a0 : Nat) (s : Int32) (m : MM) : SimK (loopF 1000 (fX6_back_b28 a0) s m) (hfX6_back_b28 q a0 s m) (kxfX6_back_b28 q a0) :=
  simk_loopF (fun s m => pfX6_back_b28 q hcs a0 s m) 1000 s m
theorem pfX6_back (q : Nat) (hcs : CSm (csF q)) (a0 : Nat) (m : MM) : SimK (fX6_back_b a0 m) (fun n => brun false (0, 0) (csF q) (lkb tX6_back) n 0 (entL 3 [aR 6 a0]) [] (ST0 q, m)) (kt_X6_back q) :=
  (simk_run hcs 11 [28]
    (simt_ite
      (simt_bind fun o1 =>
        (simt_loop hcs (.s _ (.s _ (.n _ .nil))) (pfX6_back_b28_l q hcs a0 0 o1.2) (fun o7 => 
          (simk_run hcs 3 []
            (simt_ret (some (some (aI 1), (ST0 q, o7.2))) (fun _ => rfl))
          (fun _ => rfl)))))
      (simt_bind fun o8 =>
        (simt_ret (some (some (aI o8.1), (ST0 q, o8.2))) (fun _ => rfl))))
  (fun _ => rfl))
noncomputable def kt_J6_bitCount_0f7a4 (q : Nat) : Int32 × MM → Nat → Option Out := fun x _ => some (some (aI x.1), (ST0 q, x.2))
theorem pfJ6_bitCount_0f7a4 (q : Nat) (hcs : CSm (csF q)) (a0 : Int32) (m : MM) : SimK (fJ6_bitCount_0f7a4_b a0 m) (fun n => brun false (0, 0) (csF q) (lkb tJ6_bitCount_0f7a4) n 0 (entL 1 [aI a0]) [] (ST0 q, m)) (kt_J6_bitCount_0f7a4 q) :=
  (simk_run hcs 43 []
    (simt_ret (some (some (aI ((((((((a0 - ((usr a0 1) &&& 1431655765)) &&& 858993459) + ((usr (a0 - ((usr a0 1) &&& 1431655765)) 2) &&& 858993459)) + (usr (((a0 - ((usr a0 1) &&& 1431655765)) &&& 858993459) + ((usr (a0 - ((usr a0 1) &&& 1431655765)) 2) &&& 858993459)) 4)) &&& 252645135) + (usr (((((a0 - ((usr a0 1) &&& 1431655765)) &&& 858993459) + ((usr (a0 - ((usr a0 1) &&& 1431655765)) 2) &&& 858993459)) + (usr (((a0 - ((usr a0 1) &&& 1431655765)) &&& 858993459) + ((usr (a0 - ((usr a0 1) &&& 1431655765)) 2) &&& 858993459)) 4)) &&& 252645135) 8)) + (usr ((((((a0 - ((usr a0 1) &&& 1431655765)) &&& 858993459) + ((usr (a0 - ((usr a0 1) &&& 1431655765)) 2) &&& 858993459)) + (usr (((a0 - ((usr a0 1) &&& 1431655765)) &&& 858993459) + ((usr (a0 - ((usr a0 1) &&& 1431655765)) 2) &&& 858993459)) 4)) &&& 252645135) + (usr (((((a0 - ((usr a0 1) &&& 1431655765)) &&& 858993459) + ((usr (a0 - ((usr a0 1) &&& 1431655765)) 2) &&& 858993459)) + (usr (((a0 - ((usr a0 1) &&& 1431655765)) &&& 858993459) + ((usr (a0 - ((usr a0 1) &&& 1431655765)) 2) &&& 858993459)) 4)) &&& 252645135) 8)) 16)) &&& 63)), (ST0 q, m))) (fun _ => rfl))
  (fun _ => rfl))
noncomputable def kt_X6_shelvesInUse (q : Nat) : Int32 × MM → Nat → Option Out := fun x _ => some (some (aI x.1), (ST0 q, x.2))
noncomputable def hfX6_shelvesInUse_b4 (q : Nat) (a0 : Nat) (s : Int32 × Int32) (m : MM) (n : Nat) : Option Out := brun false (0, 0) (csF q) (lkb tX6_shelvesInUse) n 4 [some (aR 6 a0), some (aI s.1), some (aI s.2)] [] (ST0 q, m)
noncomputable def kxfX6_shelvesInUse_b4 (q : Nat) (a0 : Nat) (y : (Int32) × MM) (n : Nat) : Option Out := brun false (0, 0) (csF q) (lkb tX6_shelvesInUse) n 31 [none, some (aI y.1), none] [] (ST0 q, y.2)
theorem pfX6_shelvesInUse_b4 (q : Nat) (hcs : CSm (csF q)) (a0 : Nat) (s : Int32 × Int32) (m : MM) : SimK (fX6_shelvesInUse_b4 a0 s m) (hfX6_shelvesInUse_b4 q a0 s m) (lpK (hfX6_shelvesInUse_b4 q a0) (kxfX6_shelvesInUse_b4 q a0)) :=
  (simk_run hcs 14 [4, 31]
    (simt_ite
      (simt_go hcs (.n _ (.s _ (.n _ .nil))) (fun _ => rfl))
      (simt_bind fun o1 =>
        (simt_ite
          (simt_go hcs (.s _ (.s _ (.s _ .nil))) (fun _ => rfl))
          (simt_go hcs (.s _ (.s _ (.s _ .nil))) (fun _ => rfl)))))
  (fun _ => rfl))
theorem pfX6_shelvesInUse_b4_l (q : Nat) (hcs : CSm (csF q)) (a0 : Nat) (s : Int32 × Int32) (m : MM) : SimK (loopF 1000 (fX6_shelvesInUse_b4 a0) s m) (hfX6_shelvesInUse_b4 q a0 s m) (kxfX6_shelvesInUse_b4 q a0) :=
  simk_loopF (fun s m => pfX6_shelvesInUse_b4 q hcs a0 s m) 1000 s m
theorem pfX6_shelvesInUse (q : Nat) (hcs : CSm (csF q)) (a0 : Nat) (m : MM) : SimK (fX6_shelvesInUse_b a0 m) (fun n => brun false (0, 0) (csF q) (lkb tX6_shelvesInUse) n 0 (entL 3 [aR 6 a0]) [] (ST0 q, m)) (kt_X6_shelvesInUse q) :=
  (simk_run hcs 5 [4]
    (simt_loop hcs (.s _ (.s _ (.s _ .nil))) (pfX6_shelvesInUse_b4_l q hcs a0 (0, 0) m) (fun o2 => 
      (simk_run hcs 3 []
        (simt_ret (some (some (aI o2.1), (ST0 q, o2.2))) (fun _ => rfl))
      (fun _ => rfl))))
  (fun _ => rfl))
noncomputable def kt_X6_status (q : Nat) : Int32 × MM → Nat → Option Out := fun x _ => some (some (aI x.1), (ST0 q, x.2))
theorem pfX6_status (q : Nat) (hcs : CSm (csF q)) (a0 : Nat) (a1 : Int32) (m : MM) : SimK (fX6_status_b a0 a1 m) (fun n => brun false (0, 0) (csF q) (lkb tX6_status) n 0 (entL 2 [aR 6 a0, aI a1]) [] (ST0 q, m)) (kt_X6_status q) :=
  (simk_run hcs 16 []
    (simt_ite
      (simt_ret (some (some (aI (m.1 5 0 5)), (ST0 q, m))) (fun _ => rfl))
      (simt_ite
        (simt_ret (some (some (aI (m.1 5 0 6)), (ST0 q, m))) (fun _ => rfl))
        (simt_ite
          (simt_ret (some (some (aI (m.1 5 0 0)), (ST0 q, m))) (fun _ => rfl))
          (simt_ite
            (simt_ret (some (some (aI (m.1 5 0 1)), (ST0 q, m))) (fun _ => rfl))
            (simt_ite
              (simt_ret (some (some (aI (m.1 5 0 2)), (ST0 q, m))) (fun _ => rfl))
              (simt_ite
                (simt_ret (some (some (aI (m.1 5 0 3)), (ST0 q, m))) (fun _ => rfl))
                (simt_ite
                  (simt_bind fun o3 =>
                    (simt_bind fun o4 =>
                      (simt_ret (some (some (aI o4.1), (ST0 q, o4.2))) (fun _ => rfl))))
                  (simt_ite
                    (simt_ret (some (some (aI (m.1 2 0 0)), (ST0 q, m))) (fun _ => rfl))
                    (simt_ite
                      (simt_ret (some (some (aI (m.1 5 0 4)), (ST0 q, m))) (fun _ => rfl))
                      (simt_ite
                        (simt_bind fun o2 =>
                          (simt_ret (some (some (aI o2.1), (ST0 q, o2.2))) (fun _ => rfl)))
                        (simt_bind fun o1 =>
                          (simt_ite
                            (simt_ret (some (some (aI (-1)), (ST0 q, o1.2))) (fun _ => rfl))
                            (simt_bif
                              (simt_ret (some (some (aI (o1.2.1 47 0 (a1 - 12).toNatClampNeg)), (ST0 q, o1.2))) (fun _ => rfl)))))))))))))))
  (fun _ => rfl))
noncomputable def kt_X7_no (q : Nat) : Int32 × MM → Nat → Option Out := fun x _ => some (some (aI x.1), (ST0 q, x.2))
theorem pfX7_no_j9 (q : Nat) (hcs : CSm (csF q)) (a1 : Int32) (z0 : Nat) (z1 : Int32) (m : MM) : SimK (fX7_no_j9 a1 z0 z1 m) (fun n => brun false (0, 0) (csF q) (lkb tX7_no) n 9 [none, some (aI a1)] [aI z1, aR 61 z0] (ST0 q, m)) (kt_X7_no q) :=
  (simk_run hcs 8 []
    (simt_bif
      (simt_bif
        (simt_ret (some (some (aI a1), (ST0 q, ((upI m.1 61 z0 z1.toNatClampNeg ((m.1 61 z0 z1.toNatClampNeg) + 1)), m.2)))) (fun _ => rfl))))
  (fun _ => rfl))
theorem pfX7_no (q : Nat) (hcs : CSm (csF q)) (a0 : Nat) (a1 : Int32) (m : MM) : SimK (fX7_no_b a0 a1 m) (fun n => brun false (0, 0) (csF q) (lkb tX7_no) n 0 (entL 2 [aR 7 a0, aI a1]) [] (ST0 q, m)) (kt_X7_no q) :=
  (simk_run hcs 6 [9]
    (simt_join hcs (.n _ (.s _ .nil)) (pfX7_no_j9 q hcs a1 0 ((-1000) - a1) m))
  (fun _ => rfl))
noncomputable def kt_X7_within (q : Nat) : Bool × MM → Nat → Option Out := fun x _ => some (some (aI (bI x.1)), (ST0 q, x.2))
theorem pfX7_within (q : Nat) (hcs : CSm (csF q)) (a0 : Int32) (a1 : Int32) (a2 : Int32) (m : MM) : SimK (fX7_within_b a0 a1 a2 m) (fun n => brun false (0, 0) (csF q) (lkb tX7_within) n 0 (entL 3 [aI a0, aI a1, aI a2]) [] (ST0 q, m)) (kt_X7_within q) :=
  (simk_run hcs 10 []
    (simt_ite
      (simt_ret (some (some (aI 0), (ST0 q, m))) (fun _ => rfl))
      (simt_ite
        (simt_ret (some (some (aI 0), (ST0 q, m))) (fun _ => rfl))
        (simt_ret (some (some (aI 1), (ST0 q, m))) (fun _ => rfl))))
  (fun _ => rfl))
noncomputable def kt_X7_isCell (q : Nat) : Bool × MM → Nat → Option Out := fun x _ => some (some (aI (bI x.1)), (ST0 q, x.2))
theorem pfX7_isCell (q : Nat) (hcs : CSm (csF q)) (a0 : Nat) (a1 : Int32) (m : MM) : SimK (fX7_isCell_b a0 a1 m) (fun n => brun false (0, 0) (csF q) (lkb tX7_isCell) n 0 (entL 2 [aR 7 a0, aI a1]) [] (ST0 q, m)) (kt_X7_isCell q) :=
  (simk_run hcs 9 []
    (simt_bind fun o1 =>
      (simt_ret (some (some (aI (bI o1.1)), (ST0 q, o1.2))) (fun _ => rfl)))
  (fun _ => rfl))
noncomputable def kt_X7_isBottle (q : Nat) : Bool × MM → Nat → Option Out := fun x _ => some (some (aI (bI x.1)), (ST0 q, x.2))
theorem pfX7_isBottle (q : Nat) (hcs : CSm (csF q)) (a0 : Nat) (a1 : Int32) (m : MM) : SimK (fX7_isBottle_b a0 a1 m) (fun n => brun false (0, 0) (csF q) (lkb tX7_isBottle) n 0 (entL 2 [aR 7 a0, aI a1]) [] (ST0 q, m)) (kt_X7_isBottle q) :=
  (simk_run hcs 9 []
    (simt_bind fun o1 =>
      (simt_ret (some (some (aI (bI o1.1)), (ST0 q, o1.2))) (fun _ => rfl)))
  (fun _ => rfl))
noncomputable def kt_X7_isWalker (q : Nat) : Bool × MM → Nat → Option Out := fun x _ => some (some (aI (bI x.1)), (ST0 q, x.2))
theorem pfX7_isWalker (q : Nat) (hcs : CSm (csF q)) (a0 : Nat) (a1 : Int32) (m : MM) : SimK (fX7_isWalker_b a0 a1 m) (fun n => brun false (0, 0) (csF q) (lkb tX7_isWalker) n 0 (entL 2 [aR 7 a0, aI a1]) [] (ST0 q, m)) (kt_X7_isWalker q) :=
  (simk_run hcs 9 []
    (simt_bind fun o1 =>
      (simt_ret (some (some (aI (bI o1.1)), (ST0 q, o1.2))) (fun _ => rfl)))
  (fun _ => rfl))
noncomputable def kt_X7_isSuch (q : Nat) : Bool × MM → Nat → Option Out := fun x _ => some (some (aI (bI x.1)), (ST0 q, x.2))
theorem pfX7_isSuch (q : Nat) (hcs : CSm (csF q)) (a0 : Int32) (a1 : Int32) (m : MM) : SimK (fX7_isSuch_b a0 a1 m) (fun n => brun false (0, 0) (csF q) (lkb tX7_isSuch) n 0 (entL 2 [aI a0, aI a1]) [] (ST0 q, m)) (kt_X7_isSuch q) :=
  (simk_run hcs 14 []
    (simt_bind fun o1 =>
      (simt_ite
        (simt_ret (some (some (aI 0), (ST0 q, o1.2))) (fun _ => rfl))
        (simt_bind fun o2 =>
          (simt_ite
            (simt_ret (some (some (aI 0), (ST0 q, o2.2))) (fun _ => rfl))
            (simt_ret (some (some (aI 1), (ST0 q, o2.2))) (fun _ => rfl))))))
  (fun _ => rfl))
noncomputable def kt_X7_isTime (q : Nat) : Bool × MM → Nat → Option Out := fun x _ => some (some (aI (bI x.1)), (ST0 q, x.2))
theorem pfX7_isTime (q : Nat) (hcs : CSm (csF q)) (a0 : Int32) (m : MM) : SimK (fX7_isTime_b a0 m) (fun n => brun false (0, 0) (csF q) (lkb tX7_isTime) n 0 (entL 1 [aI a0]) [] (ST0 q, m)) (kt_X7_isTime q) :=
  (simk_run hcs 6 []
    (simt_bind fun o1 =>
      (simt_ret (some (some (aI (bI o1.1)), (ST0 q, o1.2))) (fun _ => rfl)))
  (fun _ => rfl))
noncomputable def kt_X7_isShelf (q : Nat) : Bool × MM → Nat → Option Out := fun x _ => some (some (aI (bI x.1)), (ST0 q, x.2))
theorem pfX7_isShelf (q : Nat) (hcs : CSm (csF q)) (a0 : Int32) (m : MM) : SimK (fX7_isShelf_b a0 m) (fun n => brun false (0, 0) (csF q) (lkb tX7_isShelf) n 0 (entL 1 [aI a0]) [] (ST0 q, m)) (kt_X7_isShelf q) :=
  (simk_run hcs 6 []
    (simt_bind fun o1 =>
      (simt_ret (some (some (aI (bI o1.1)), (ST0 q, o1.2))) (fun _ => rfl)))
  (fun _ => rfl))
noncomputable def kt_X7_isRow (q : Nat) : Bool × MM → Nat → Option Out := fun x _ => some (some (aI (bI x.1)), (ST0 q, x.2))
theorem pfX7_isRow (q : Nat) (hcs : CSm (csF q)) (a0 : Nat) (a1 : Int32) (m : MM) : SimK (fX7_isRow_b a0 a1 m) (fun n => brun false (0, 0) (csF q) (lkb tX7_isRow) n 0 (entL 2 [aR 7 a0, aI a1]) [] (ST0 q, m)) (kt_X7_isRow q) :=
  (simk_run hcs 9 []
    (simt_bif
      (simt_bind fun o1 =>
        (simt_ret (some (some (aI (bI o1.1)), (ST0 q, o1.2))) (fun _ => rfl))))
  (fun _ => rfl))
noncomputable def kt_X7_row (q : Nat) : Int32 × MM → Nat → Option Out := fun x _ => some (some (aI x.1), (ST0 q, x.2))
noncomputable def hfX7_row_b51 (q : Nat) (a0 : Nat) (a1 : Int32) (s : Int32) (m : MM) (n : Nat) : Option Out := brun false (0, 0) (csF q) (lkb tX7_row) n 51 [some (aR 7 a0), some (aI a1), none, none, some (aI s)] [] (ST0 q, m)
noncomputable def kxfX7_row_b51 (q : Nat) (a0 : Nat) (a1 : Int32) (y : (Unit) × MM) (n : Nat) : Option Out := brun false (0, 0) (csF q) (lkb tX7_row) n 77 [none, none, none, none, none] [] (ST0 q, y.2)
theorem pfX7_row_b51 (q : Nat) (hcs : CSm (csF q)) (a0 : Nat) (a1 : Int32) (s : Int32) (m : MM) : SimK (fX7_row_b51 a0 a1 s m) (hfX7_row_b51 q a0 a1 s m) (lpK (hfX7_row_b51 q a0 a1) (kxfX7_row_b51 q a0 a1)) :=
  (simk_run hcs 15 [51, 77]
    (simt_ite
      (simt_go hcs (.n _ (.n _ (.n _ (.n _ (.n _ .nil))))) (fun _ => rfl))
      (simt_bif
        (simt_go hcs (.s _ (.s _ (.n _ (.n _ (.s _ .nil))))) (fun _ => rfl))))
  (fun _ => rfl))
theorem pfX7_row_b51_l (q : Nat) (hcs : CSm (csF q)) (a0 : Nat) (a1 : Int32) (s : Int32) (m : MM) : SimK (loopF 1000 (fX7_row_b51 a0 a1) s m) (hfX7_row_b51 q a0 a1 s m) (kxfX7_row_b51 q a0 a1) :=
  simk_loopF (fun s m => pfX7_row_b51 q hcs a0 a1 s m) 1000 s m
theorem pfX7_row (q : Nat) (hcs : CSm (csF q)) (a0 : Nat) (a1 : Int32) (a2 : Int32) (a3 : Int32) (m : MM) : SimK (fX7_row_b a0 a1 a2 a3 m) (fun n => brun false (0, 0) (csF q) (lkb tX7_row) n 0 (entL 5 [aR 7 a0, aI a1, aI a2, aI a3]) [] (ST0 q, m)) (kt_X7_row q) :=
  (simk_run hcs 26 [51]
    (simt_bind fun o1 =>
      (simt_ite
        (simt_bind fun o2 =>
          (simt_ret (some (some (aI o2.1), (ST0 q, o2.2))) (fun _ => rfl)))
        (simt_bind fun o3 =>
          (simt_ite
            (simt_bind fun o4 =>
              (simt_ret (some (some (aI o4.1), (ST0 q, o4.2))) (fun _ => rfl)))
            (simt_bind fun o5 =>
              (simt_ite
                (simt_bif
                  (simt_bif
                    (simt_loop hcs (.s _ (.s _ (.n _ (.n _ (.s _ .nil))))) (pfX7_row_b51_l q hcs a0 a1 0 ((upI (upI o5.2.1 59 0 a1.toNatClampNeg a2) 60 0 a1.toNatClampNeg a3), o5.2.2)) (fun o6 => 
                      (simk_run hcs 3 []
                        (simt_ret (some (some (aI 1), (ST0 q, o6.2))) (fun _ => rfl))
                      (fun _ => rfl))))))
                (simt_bind fun o7 =>
                  (simt_ret (some (some (aI o7.1), (ST0 q, o7.2))) (fun _ => rfl)))))))))
  (fun _ => rfl))
noncomputable def kt_X7_noRow (q : Nat) : Int32 × MM → Nat → Option Out := fun x _ => some (some (aI x.1), (ST0 q, x.2))
theorem pfX7_noRow (q : Nat) (hcs : CSm (csF q)) (a0 : Nat) (a1 : Int32) (m : MM) : SimK (fX7_noRow_b a0 a1 m) (fun n => brun false (0, 0) (csF q) (lkb tX7_noRow) n 0 (entL 2 [aR 7 a0, aI a1]) [] (ST0 q, m)) (kt_X7_noRow q) :=
  (simk_run hcs 15 []
    (simt_bif
      (simt_ite
        (simt_bif
          (simt_ite
            (simt_ret (some (some (aI 0), (ST0 q, m))) (fun _ => rfl))
            (simt_ret (some (some (aI (-1004)), (ST0 q, m))) (fun _ => rfl))))
        (simt_ret (some (some (aI (-1003)), (ST0 q, m))) (fun _ => rfl))))
  (fun _ => rfl))
noncomputable def kt_X7_kept (q : Nat) : Int64 × MM → Nat → Option Out := fun x _ => some (some (aL x.1), (ST0 q, x.2))
theorem pfX7_kept (q : Nat) (hcs : CSm (csF q)) (a0 : Int32) (a1 : Int64) (m : MM) : SimK (fX7_kept_b a0 a1 m) (fun n => brun false (0, 0) (csF q) (lkb tX7_kept) n 0 (entL 3 [aI a0, aL a1]) [] (ST0 q, m)) (kt_X7_kept q) :=
  (simk_run hcs 10 []
    (simt_ite
      (simt_ret (some (some (aL a1.toInt32.toInt8.toInt32.toInt64), (ST0 q, m))) (fun _ => rfl))
      (simt_ite
        (simt_ret (some (some (aL a1.toInt32.toInt16.toInt32.toInt64), (ST0 q, m))) (fun _ => rfl))
        (simt_ite
          (simt_ret (some (some (aL a1.toInt32.toInt64), (ST0 q, m))) (fun _ => rfl))
          (simt_ite
            (simt_ret (some (some (aL a1), (ST0 q, m))) (fun _ => rfl))
            (simt_ite
              (simt_ret (some (some (aL 0), (ST0 q, m))) (fun _ => rfl))
              (simt_ret (some (some (aL 1), (ST0 q, m))) (fun _ => rfl)))))))
  (fun _ => rfl))
