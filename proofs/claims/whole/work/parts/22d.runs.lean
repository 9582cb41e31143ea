/-! THE FUNCTIONS ARE THE RUNS, 3 -/
set_option maxRecDepth 20000
set_option maxHeartbeats 4000000
noncomputable def kt_X6_walks (q : Nat) : Int32 × MM → Nat → Option Out := fun x _ => some (some (aI x.1), (ST0 q, x.2))
noncomputable def hfX6_walks_b42 (q : Nat) (a0 : Nat) (a2 : Int32) (s : Int32) (m : MM) (n : Nat) : Option Out := brun false (0, 0) (csF q) (lkb tX6_walks) n 42 [some (aR 6 a0), none, some (aI a2), none, some (aI s)] [] (ST0 q, m)
noncomputable def kxfX6_walks_b42 (q : Nat) (a0 : Nat) (a2 : Int32) (y : (Unit) × MM) (n : Nat) : Option Out := brun false (0, 0) (csF q) (lkb tX6_walks) n 68 [some (aR 6 a0), none, none, none, none] [] (ST0 q, y.2)
theorem pfX6_walks_b42 (q : Nat) (hcs : CSm (csF q)) (a0 : Nat) (a2 : Int32) (s : Int32) (m : MM) : SimK (fX6_walks_b42 a0 a2 s m) (hfX6_walks_b42 q a0 a2 s m) (lpK (hfX6_walks_b42 q a0 a2) (kxfX6_walks_b42 q a0 a2)) :=
  (simk_run hcs 12 [42, 68]
    (simt_ite
      (simt_go hcs (.s _ (.n _ (.n _ (.n _ (.n _ .nil))))) (fun _ => rfl))
      (simt_bind fun o6 =>
        (simt_go hcs (.s _ (.n _ (.s _ (.n _ (.s _ .nil))))) (fun _ => rfl))))
  (fun _ => rfl))
theorem pfX6_walks_b42_l (q : Nat) (hcs : CSm (csF q)) (a0 : Nat) (a2 : Int32) (s : Int32) (m : MM) : SimK (loopF 1000 (fX6_walks_b42 a0 a2) s m) (hfX6_walks_b42 q a0 a2 s m) (kxfX6_walks_b42 q a0 a2) :=
  simk_loopF (fun s m => pfX6_walks_b42 q hcs a0 a2 s m) 1000 s m
theorem pfX6_walks (q : Nat) (hcs : CSm (csF q)) (a0 : Nat) (a1 : Int32) (a2 : Int32) (m : MM) : SimK (fX6_walks_b a0 a1 a2 m) (fun n => brun false (0, 0) (csF q) (lkb tX6_walks) n 0 (entL 5 [aR 6 a0, aI a1, aI a2]) [] (ST0 q, m)) (kt_X6_walks q) :=
  (simk_run hcs 19 [42]
    (simt_bindO (fun o1 =>
      (simt_bind fun o3 =>
        (simt_ret (some (some (aI o3.1), (ST0 q, o3.2))) (fun _ => rfl)))) (fun o1 i2 =>
      (simt_bind fun o4 =>
        (simt_ite
          (simt_bind fun o5 =>
            (simt_loop hcs (.s _ (.n _ (.s _ (.n _ (.s _ .nil))))) (pfX6_walks_b42_l q hcs a0 a2 1 o5.2) (fun o7 => 
              (simk_run hcs 5 []
                (simt_ret (some (some (aI (o7.2.1 4 21 0)), (ST0 q, o7.2))) (fun _ => rfl))
              (fun _ => rfl)))))
          (simt_bind fun o8 =>
            (simt_ret (some (some (aI o8.1), (ST0 q, o8.2))) (fun _ => rfl)))))))
  (fun _ => rfl))
noncomputable def kt_X6_found (q : Nat) : Int32 × MM → Nat → Option Out := fun x _ => some (some (aI x.1), (ST0 q, x.2))
theorem pfX6_found (q : Nat) (hcs : CSm (csF q)) (a0 : Nat) (a1 : Int32) (m : MM) : SimK (fX6_found_b a0 a1 m) (fun n => brun false (0, 0) (csF q) (lkb tX6_found) n 0 (entL 2 [aR 6 a0, aI a1]) [] (ST0 q, m)) (kt_X6_found q) :=
  (simk_run hcs 12 []
    (simt_bind fun o1 =>
      (simt_ite
        (simt_bind fun o2 =>
          (simt_ret (some (some (aI o2.1), (ST0 q, o2.2))) (fun _ => rfl)))
        (simt_bind fun o3 =>
          (simt_ret (some (some (aI o3.1), (ST0 q, o3.2))) (fun _ => rfl)))))
  (fun _ => rfl))
noncomputable def kt_X6_when (q : Nat) : Int32 × MM → Nat → Option Out := fun x _ => some (some (aI x.1), (ST0 q, x.2))
theorem pfX6_when (q : Nat) (hcs : CSm (csF q)) (a0 : Nat) (a1 : Int32) (m : MM) : SimK (fX6_when_b a0 a1 m) (fun n => brun false (0, 0) (csF q) (lkb tX6_when) n 0 (entL 3 [aR 6 a0, aI a1]) [] (ST0 q, m)) (kt_X6_when q) :=
  (simk_run hcs 13 []
    (simt_bindO (fun o1 =>
      (simt_bind fun o3 =>
        (simt_ret (some (some (aI o3.1), (ST0 q, o3.2))) (fun _ => rfl)))) (fun o1 i2 =>
      (simt_bind fun o4 =>
        (simt_ret (some (some (aI o4.1), (ST0 q, o4.2))) (fun _ => rfl)))))
  (fun _ => rfl))
noncomputable def kt_X6_firstMeeting (q : Nat) : Int32 × MM → Nat → Option Out := fun x _ => some (some (aI x.1), (ST0 q, x.2))
noncomputable def hfX6_firstMeeting_b16 (q : Nat) (a0 : Nat) (a2 : Int32) (s : Int32) (m : MM) (n : Nat) : Option Out := brun false (0, 0) (csF q) (lkb tX6_firstMeeting) n 16 [some (aR 6 a0), none, some (aI a2), some (aI s)] [] (ST0 q, m)
noncomputable def kxfX6_firstMeeting_b16 (q : Nat) (a0 : Nat) (a2 : Int32) (y : ((Unit) ⊕ (Int32)) × MM) (n : Nat) : Option Out := match y.1 with
  | Sum.inl x => brun false (0, 0) (csF q) (lkb tX6_firstMeeting) n 72 [none, none, none, none] [] (ST0 q, y.2)
  | Sum.inr x => brun false (0, 0) (csF q) (lkb tX6_firstMeeting) n 64 [none, none, none, some (aI x)] [] (ST0 q, y.2)
theorem pfX6_firstMeeting_b16 (q : Nat) (hcs : CSm (csF q)) (a0 : Nat) (a2 : Int32) (s : Int32) (m : MM) : SimK (fX6_firstMeeting_b16 a0 a2 s m) (hfX6_firstMeeting_b16 q a0 a2 s m) (lpK (hfX6_firstMeeting_b16 q a0 a2) (kxfX6_firstMeeting_b16 q a0 a2)) :=
  (simk_run hcs 25 [16, 64, 72]
    (simt_ite
      (simt_go hcs (.n _ (.n _ (.n _ (.n _ .nil)))) (fun _ => rfl))
      (simt_bind fun o2 =>
        (simt_bind fun o3 =>
          (simt_ite
            (simt_go hcs (.s _ (.n _ (.s _ (.s _ .nil)))) (fun _ => rfl))
            (simt_bind fun o4 =>
              (simt_ite
                (simt_go hcs (.s _ (.n _ (.s _ (.s _ .nil)))) (fun _ => rfl))
                (simt_go hcs (.n _ (.n _ (.n _ (.s _ .nil)))) (fun _ => rfl))))))))
  (fun _ => rfl))
theorem pfX6_firstMeeting_b16_l (q : Nat) (hcs : CSm (csF q)) (a0 : Nat) (a2 : Int32) (s : Int32) (m : MM) : SimK (loopF 1000 (fX6_firstMeeting_b16 a0 a2) s m) (hfX6_firstMeeting_b16 q a0 a2 s m) (kxfX6_firstMeeting_b16 q a0 a2) :=
  simk_loopF (fun s m => pfX6_firstMeeting_b16 q hcs a0 a2 s m) 1000 s m
theorem pfX6_firstMeeting0 (q : Nat) (hcs : CSm (csF q)) (a0 : Nat) (a2 : Int32) (m : MM) : SimK (fX6_firstMeeting_0 a0 a2 m) (fun n => brun false (0, 0) (csF q) (lkb tX6_firstMeeting) n 0 (entL 4 [aR 6 a0, aN, aI a2]) [] (ST0 q, m)) (kt_X6_firstMeeting q) :=
  (simk_run hcs 5 []
    (simt_ret (some (some (aI (-1)), (ST0 q, m))) (fun _ => rfl))
  (fun _ => rfl))
theorem pfX6_firstMeeting1 (q : Nat) (hcs : CSm (csF q)) (a0 : Nat) (a1 : Nat) (a2 : Int32) (m : MM) : SimK (fX6_firstMeeting_1 a0 a1 a2 m) (fun n => brun false (0, 0) (csF q) (lkb tX6_firstMeeting) n 0 (entL 4 [aR 6 a0, aR 4 a1, aI a2]) [] (ST0 q, m)) (kt_X6_firstMeeting q) :=
  (simk_run hcs 9 [16]
    (simt_bind fun o1 =>
      (simt_loop hcs (.s _ (.n _ (.s _ (.s _ .nil)))) (pfX6_firstMeeting_b16_l q hcs a0 a2 1 o1.2) (fun o5 => by
        obtain ⟨o5x, o5m⟩ := o5
        rcases o5x with x6 | x7
        · exact
          (simk_run hcs 3 []
            (simt_ret (some (some (aI (-1)), (ST0 q, o5m))) (fun _ => rfl))
          (fun _ => rfl))
        · exact
          (simk_run hcs 3 []
            (simt_ret (some (some (aI x7), (ST0 q, o5m))) (fun _ => rfl))
          (fun _ => rfl)))))
  (fun _ => rfl))
noncomputable def kt_X6_meets (q : Nat) : Int32 × MM → Nat → Option Out := fun x _ => some (some (aI x.1), (ST0 q, x.2))
theorem pfX6_meets (q : Nat) (hcs : CSm (csF q)) (a0 : Nat) (a1 : Int32) (a2 : Int32) (m : MM) : SimK (fX6_meets_b a0 a1 a2 m) (fun n => brun false (0, 0) (csF q) (lkb tX6_meets) n 0 (entL 5 [aR 6 a0, aI a1, aI a2]) [] (ST0 q, m)) (kt_X6_meets q) :=
  (simk_run hcs 28 []
    (simt_bindO (fun o1 =>
      (simt_bindO (fun o3 =>
        (simt_bind fun o5 =>
          (simt_ret (some (some (aI o5.1), (ST0 q, o5.2))) (fun _ => rfl)))) (fun o3 i4 =>
        (simt_bind fun o6 =>
          (simt_ret (some (some (aI o6.1), (ST0 q, o6.2))) (fun _ => rfl)))))) (fun o1 i2 =>
      (simt_bindO (fun o7 =>
        (simt_bind fun o9 =>
          (simt_ret (some (some (aI o9.1), (ST0 q, o9.2))) (fun _ => rfl)))) (fun o7 i8 =>
        (simt_bind fun o10 =>
          (simt_bind fun o11 =>
            (simt_ret (some (some (aI o11.1), (ST0 q, o11.2))) (fun _ => rfl))))))))
  (fun _ => rfl))
noncomputable def kt_X6_finder (q : Nat) : Int32 × MM → Nat → Option Out := fun x _ => some (some (aI x.1), (ST0 q, x.2))
noncomputable def hfX6_finder_b45 (q : Nat) (a0 : Nat) (s : Int32 × Int32 × Int32) (m : MM) (n : Nat) : Option Out := brun false (0, 0) (csF q) (lkb tX6_finder) n 45 [some (aR 6 a0), none, none, some (aI s.1), some (aI s.2.1), some (aI s.2.2), none] [] (ST0 q, m)
noncomputable def kxfX6_finder_b45 (q : Nat) (a0 : Nat) (y : (Int32) × MM) (n : Nat) : Option Out := brun false (0, 0) (csF q) (lkb tX6_finder) n 100 [none, none, none, some (aI y.1), none, none, none] [] (ST0 q, y.2)
theorem pfX6_finder_b45 (q : Nat) (hcs : CSm (csF q)) (a0 : Nat) (s : Int32 × Int32 × Int32) (m : MM) : SimK (fX6_finder_b45 a0 s m) (hfX6_finder_b45 q a0 s m) (lpK (hfX6_finder_b45 q a0) (kxfX6_finder_b45 q a0)) :=
  (simk_run hcs 26 [45, 100]
    (simt_ite
      (simt_go hcs (.n _ (.n _ (.n _ (.s _ (.n _ (.n _ (.n _ .nil))))))) (fun _ => rfl))
      (simt_bindO (fun o5 =>
        (simt_bind fun o7 =>
          (simt_ite
            (simt_go hcs (.s _ (.n _ (.n _ (.s _ (.s _ (.s _ (.n _ .nil))))))) (fun _ => rfl))
            (simt_ite
              (simt_go hcs (.s _ (.n _ (.n _ (.s _ (.s _ (.s _ (.n _ .nil))))))) (fun _ => rfl))
              (simt_go hcs (.s _ (.n _ (.n _ (.s _ (.s _ (.s _ (.n _ .nil))))))) (fun _ => rfl)))))) (fun o5 i6 =>
        (simt_bind fun o8 =>
          (simt_ite
            (simt_go hcs (.s _ (.n _ (.n _ (.s _ (.s _ (.s _ (.n _ .nil))))))) (fun _ => rfl))
            (simt_ite
              (simt_go hcs (.s _ (.n _ (.n _ (.s _ (.s _ (.s _ (.n _ .nil))))))) (fun _ => rfl))
              (simt_go hcs (.s _ (.n _ (.n _ (.s _ (.s _ (.s _ (.n _ .nil))))))) (fun _ => rfl))))))))
  (fun _ => rfl))
theorem pfX6_finder_b45_l (q : Nat) (hcs : CSm (csF q)) (a0 : Nat) (s : Int32 × Int32 × Int32) (m : MM) : SimK (loopF 1000 (fX6_finder_b45 a0) s m) (hfX6_finder_b45 q a0 s m) (kxfX6_finder_b45 q a0) :=
  simk_loopF (fun s m => pfX6_finder_b45 q hcs a0 s m) 1000 s m
theorem pfX6_finder (q : Nat) (hcs : CSm (csF q)) (a0 : Nat) (a1 : Int32) (m : MM) : SimK (fX6_finder_b a0 a1 m) (fun n => brun false (0, 0) (csF q) (lkb tX6_finder) n 0 (entL 7 [aR 6 a0, aI a1]) [] (ST0 q, m)) (kt_X6_finder q) :=
  (simk_run hcs 22 [45]
    (simt_bindO (fun o1 =>
      (simt_bind fun o3 =>
        (simt_ret (some (some (aI o3.1), (ST0 q, o3.2))) (fun _ => rfl)))) (fun o1 i2 =>
      (simt_bind fun o4 =>
        (simt_loop hcs (.s _ (.n _ (.n _ (.s _ (.s _ (.s _ (.n _ .nil))))))) (pfX6_finder_b45_l q hcs a0 ((-1), 61, 0) o4.2) (fun o9 => 
          (simk_run hcs 3 []
            (simt_ret (some (some (aI o9.1), (ST0 q, o9.2))) (fun _ => rfl))
          (fun _ => rfl)))))))
  (fun _ => rfl))
noncomputable def kt_X6_two (q : Nat) : Int32 × MM → Nat → Option Out := fun x _ => some (some (aI x.1), (ST0 q, x.2))
noncomputable def hfX6_two_b61 (q : Nat) (a0 : Nat) (s : Int32) (m : MM) (n : Nat) : Option Out := brun false (0, 0) (csF q) (lkb tX6_two) n 61 [some (aR 6 a0), none, none, none, none, some (aI s)] [] (ST0 q, m)
noncomputable def kxfX6_two_b61 (q : Nat) (a0 : Nat) (y : ((Unit) ⊕ (Int32)) × MM) (n : Nat) : Option Out := match y.1 with
  | Sum.inl x => brun false (0, 0) (csF q) (lkb tX6_two) n 122 [none, none, none, none, none, none] [] (ST0 q, y.2)
  | Sum.inr x => brun false (0, 0) (csF q) (lkb tX6_two) n 85 [none, none, none, none, none, some (aI x)] [] (ST0 q, y.2)
theorem pfX6_two_b61 (q : Nat) (hcs : CSm (csF q)) (a0 : Nat) (s : Int32) (m : MM) : SimK (fX6_two_b61 a0 s m) (hfX6_two_b61 q a0 s m) (lpK (hfX6_two_b61 q a0) (kxfX6_two_b61 q a0)) :=
  (simk_run hcs 25 [61, 85, 122]
    (simt_ite
      (simt_go hcs (.n _ (.n _ (.n _ (.n _ (.n _ (.n _ .nil)))))) (fun _ => rfl))
      (simt_ite
        (simt_bind fun o12 =>
          (simt_bind fun o13 =>
            (simt_go hcs (.s _ (.n _ (.n _ (.n _ (.n _ (.s _ .nil)))))) (fun _ => rfl))))
        (simt_go hcs (.n _ (.n _ (.n _ (.n _ (.n _ (.s _ .nil)))))) (fun _ => rfl))))
  (fun _ => rfl))
theorem pfX6_two_b61_l (q : Nat) (hcs : CSm (csF q)) (a0 : Nat) (s : Int32) (m : MM) : SimK (loopF 1000 (fX6_two_b61 a0) s m) (hfX6_two_b61 q a0 s m) (kxfX6_two_b61 q a0) :=
  simk_loopF (fun s m => pfX6_two_b61 q hcs a0 s m) 1000 s m
theorem pfX6_two (q : Nat) (hcs : CSm (csF q)) (a0 : Nat) (a1 : Int32) (a2 : Int32) (m : MM) : SimK (fX6_two_b a0 a1 a2 m) (fun n => brun false (0, 0) (csF q) (lkb tX6_two) n 0 (entL 6 [aR 6 a0, aI a1, aI a2]) [] (ST0 q, m)) (kt_X6_two q) :=
  (simk_run hcs 28 [61]
    (simt_bindO (fun o1 =>
      (simt_bindO (fun o3 =>
        (simt_bind fun o5 =>
          (simt_ret (some (some (aI o5.1), (ST0 q, o5.2))) (fun _ => rfl)))) (fun o3 i4 =>
        (simt_bind fun o6 =>
          (simt_ret (some (some (aI o6.1), (ST0 q, o6.2))) (fun _ => rfl)))))) (fun o1 i2 =>
      (simt_bindO (fun o7 =>
        (simt_bind fun o9 =>
          (simt_ret (some (some (aI o9.1), (ST0 q, o9.2))) (fun _ => rfl)))) (fun o7 i8 =>
        (simt_ite
          (simt_bind fun o10 =>
            (simt_bind fun o11 =>
              (simt_loop hcs (.s _ (.n _ (.n _ (.n _ (.n _ (.s _ .nil)))))) (pfX6_two_b61_l q hcs a0 0 o11.2) (fun o14 => by
                obtain ⟨o14x, o14m⟩ := o14
                rcases o14x with x15 | x16
                · exact
                  (simk_run hcs 3 []
                    (simt_ret (some (some (aI (-1)), (ST0 q, o14m))) (fun _ => rfl))
                  (fun _ => rfl))
                · exact
                  (simk_run hcs 3 []
                    (simt_ret (some (some (aI x16), (ST0 q, o14m))) (fun _ => rfl))
                  (fun _ => rfl))))))
          (simt_bind fun o17 =>
            (simt_ret (some (some (aI o17.1), (ST0 q, o17.2))) (fun _ => rfl))))))))
  (fun _ => rfl))
noncomputable def kt_X6_aim (q : Nat) : Int32 × MM → Nat → Option Out := fun x _ => some (some (aI x.1), (ST0 q, x.2))
noncomputable def hfX6_aim_b59 (q : Nat) (a0 : Nat) (a1 : Int32) (a2 : Int32) (a3 : Int32) (a4 : Int32) (a5 : Nat) (s : Int32 × Int32 × Int32) (m : MM) (n : Nat) : Option Out := brun false (0, 0) (csF q) (lkb tX6_aim) n 59 [some (aR 6 a0), some (aI a1), some (aI a2), some (aI a3), some (aI a4), some (aR 4 a5), some (aI s.1), some (aI s.2.1), some (aI s.2.2), none] [] (ST0 q, m)
noncomputable def kxfX6_aim_b59 (q : Nat) (a0 : Nat) (a1 : Int32) (a2 : Int32) (a3 : Int32) (a4 : Int32) (a5 : Nat) (y : (Int32 × Int32) × MM) (n : Nat) : Option Out := brun false (0, 0) (csF q) (lkb tX6_aim) n 133 [none, none, none, none, some (aI a4), none, some (aI y.1.1), some (aI y.1.2), none, none] [] (ST0 q, y.2)
theorem pfX6_aim_b59 (q : Nat) (hcs : CSm (csF q)) (a0 : Nat) (a1 : Int32) (a2 : Int32) (a3 : Int32) (a4 : Int32) (a5 : Nat) (s : Int32 × Int32 × Int32) (m : MM) : SimK (fX6_aim_b59 a0 a1 a2 a3 a4 a5 s m) (hfX6_aim_b59 q a0 a1 a2 a3 a4 a5 s m) (lpK (hfX6_aim_b59 q a0 a1 a2 a3 a4 a5) (kxfX6_aim_b59 q a0 a1 a2 a3 a4 a5)) :=
  (simk_run hcs 36 [59, 133]
    (simt_ite
      (simt_go hcs (.n _ (.n _ (.n _ (.n _ (.s _ (.n _ (.s _ (.s _ (.n _ (.n _ .nil)))))))))) (fun _ => rfl))
      (simt_bind fun o13 =>
        (simt_bind fun o14 =>
          (simt_ite
            (simt_go hcs (.s _ (.s _ (.s _ (.s _ (.s _ (.s _ (.s _ (.s _ (.s _ (.n _ .nil)))))))))) (fun _ => rfl))
            (simt_ite
              (simt_go hcs (.s _ (.s _ (.s _ (.s _ (.s _ (.s _ (.s _ (.s _ (.s _ (.n _ .nil)))))))))) (fun _ => rfl))
              (simt_ite
                (simt_go hcs (.s _ (.s _ (.s _ (.s _ (.s _ (.s _ (.s _ (.s _ (.s _ (.n _ .nil)))))))))) (fun _ => rfl))
                (simt_go hcs (.s _ (.s _ (.s _ (.s _ (.s _ (.s _ (.s _ (.s _ (.s _ (.n _ .nil)))))))))) (fun _ => rfl))))))))
  (fun _ => rfl))
theorem pfX6_aim_b59_l (q : Nat) (hcs : CSm (csF q)) (a0 : Nat) (a1 : Int32) (a2 : Int32) (a3 : Int32) (a4 : Int32) (a5 : Nat) (s : Int32 × Int32 × Int32) (m : MM) : SimK (loopF 1000 (fX6_aim_b59 a0 a1 a2 a3 a4 a5) s m) (hfX6_aim_b59 q a0 a1 a2 a3 a4 a5 s m) (kxfX6_aim_b59 q a0 a1 a2 a3 a4 a5) :=
  simk_loopF (fun s m => pfX6_aim_b59 q hcs a0 a1 a2 a3 a4 a5 s m) 1000 s m
theorem pfX6_aim (q : Nat) (hcs : CSm (csF q)) (a0 : Nat) (a1 : Int32) (a2 : Int32) (a3 : Int32) (a4 : Int32) (m : MM) : SimK (fX6_aim_b a0 a1 a2 a3 a4 m) (fun n => brun false (0, 0) (csF q) (lkb tX6_aim) n 0 (entL 10 [aR 6 a0, aI a1, aI a2, aI a3, aI a4]) [] (ST0 q, m)) (kt_X6_aim q) :=
  (simk_run hcs 27 [59]
    (simt_bindO (fun o1 =>
      (simt_bind fun o3 =>
        (simt_ite
          (simt_bind fun o4 =>
            (simt_ret (some (some (aI o4.1), (ST0 q, o4.2))) (fun _ => rfl)))
          (simt_bind fun o5 =>
            (simt_ite
              (simt_bind fun o6 =>
                (simt_ret (some (some (aI o6.1), (ST0 q, o6.2))) (fun _ => rfl)))
              (simt_bind fun o7 =>
                (simt_ret (some (some (aI o7.1), (ST0 q, o7.2))) (fun _ => rfl)))))))) (fun o1 i2 =>
      (simt_bind fun o8 =>
        (simt_ite
          (simt_bind fun o9 =>
            (simt_ret (some (some (aI o9.1), (ST0 q, o9.2))) (fun _ => rfl)))
          (simt_bind fun o10 =>
            (simt_ite
              (simt_bind fun o11 =>
                (simt_ret (some (some (aI o11.1), (ST0 q, o11.2))) (fun _ => rfl)))
              (simt_bind fun o12 =>
                (simt_ite
                  (simt_loop hcs (.s _ (.s _ (.s _ (.s _ (.s _ (.s _ (.s _ (.s _ (.s _ (.n _ .nil)))))))))) (pfX6_aim_b59_l q hcs a0 a1 a2 a3 a4 i2 ((-1), (-1), 0) o12.2) (fun o15 => 
                    (simk_run hcs 6 []
                      (simt_ite
                        (simt_ret (some (some (aI o15.1.2), (ST0 q, o15.2))) (fun _ => rfl))
                        (simt_ret (some (some (aI o15.1.1), (ST0 q, o15.2))) (fun _ => rfl)))
                    (fun _ => rfl))))
                  (simt_bind fun o16 =>
                    (simt_ret (some (some (aI o16.1), (ST0 q, o16.2))) (fun _ => rfl)))))))))))
  (fun _ => rfl))
noncomputable def kt_X6_foundWalking (q : Nat) : Int32 × MM → Nat → Option Out := fun x _ => some (some (aI x.1), (ST0 q, x.2))
noncomputable def hfX6_foundWalking_b37 (q : Nat) (a0 : Nat) (a1 : Int32) (a4 : Int32) (s : Int32 × Int32) (m : MM) (n : Nat) : Option Out := brun false (0, 0) (csF q) (lkb tX6_foundWalking) n 37 [some (aR 6 a0), some (aI a1), none, none, some (aI a4), none, some (aI s.1), some (aI s.2), none] [] (ST0 q, m)
noncomputable def kxfX6_foundWalking_b37 (q : Nat) (a0 : Nat) (a1 : Int32) (a4 : Int32) (y : (Int32) × MM) (n : Nat) : Option Out := brun false (0, 0) (csF q) (lkb tX6_foundWalking) n 110 [none, none, none, none, none, none, some (aI y.1), none, none] [] (ST0 q, y.2)
theorem pfX6_foundWalking_b37 (q : Nat) (hcs : CSm (csF q)) (a0 : Nat) (a1 : Int32) (a4 : Int32) (s : Int32 × Int32) (m : MM) : SimK (fX6_foundWalking_b37 a0 a1 a4 s m) (hfX6_foundWalking_b37 q a0 a1 a4 s m) (lpK (hfX6_foundWalking_b37 q a0 a1 a4) (kxfX6_foundWalking_b37 q a0 a1 a4)) :=
  (simk_run hcs 32 [37, 110]
    (simt_ite
      (simt_go hcs (.n _ (.n _ (.n _ (.n _ (.n _ (.n _ (.s _ (.n _ (.n _ .nil))))))))) (fun _ => rfl))
      (simt_bindO (fun o4 =>
        (simt_go hcs (.s _ (.s _ (.n _ (.n _ (.s _ (.n _ (.s _ (.s _ (.n _ .nil))))))))) (fun _ => rfl))) (fun o4 i5 =>
        (simt_ite
          (simt_go hcs (.s _ (.s _ (.n _ (.n _ (.s _ (.n _ (.s _ (.s _ (.n _ .nil))))))))) (fun _ => rfl))
          (simt_ite
            (simt_go hcs (.s _ (.s _ (.n _ (.n _ (.s _ (.n _ (.s _ (.s _ (.n _ .nil))))))))) (fun _ => rfl))
            (simt_bind fun o6 =>
              (simt_ite
                (simt_go hcs (.s _ (.s _ (.n _ (.n _ (.s _ (.n _ (.s _ (.s _ (.n _ .nil))))))))) (fun _ => rfl))
                (simt_go hcs (.s _ (.s _ (.n _ (.n _ (.s _ (.n _ (.s _ (.s _ (.n _ .nil))))))))) (fun _ => rfl)))))))))
  (fun _ => rfl))
theorem pfX6_foundWalking_b37_l (q : Nat) (hcs : CSm (csF q)) (a0 : Nat) (a1 : Int32) (a4 : Int32) (s : Int32 × Int32) (m : MM) : SimK (loopF 1000 (fX6_foundWalking_b37 a0 a1 a4) s m) (hfX6_foundWalking_b37 q a0 a1 a4 s m) (kxfX6_foundWalking_b37 q a0 a1 a4) :=
  simk_loopF (fun s m => pfX6_foundWalking_b37 q hcs a0 a1 a4 s m) 1000 s m
theorem pfX6_foundWalking (q : Nat) (hcs : CSm (csF q)) (a0 : Nat) (a1 : Int32) (a2 : Int32) (a3 : Int32) (a4 : Int32) (m : MM) : SimK (fX6_foundWalking_b a0 a1 a2 a3 a4 m) (fun n => brun false (0, 0) (csF q) (lkb tX6_foundWalking) n 0 (entL 9 [aR 6 a0, aI a1, aI a2, aI a3, aI a4]) [] (ST0 q, m)) (kt_X6_foundWalking q) :=
  (simk_run hcs 19 [37]
    (simt_bindO (fun o1 =>
      (simt_ret (some (some (aI 0), (ST0 q, o1.2))) (fun _ => rfl))) (fun o1 i2 =>
      (simt_bind fun o3 =>
        (simt_loop hcs (.s _ (.s _ (.n _ (.n _ (.s _ (.n _ (.s _ (.s _ (.n _ .nil))))))))) (pfX6_foundWalking_b37_l q hcs a0 a1 a4 (0, 0) o3.2) (fun o7 => 
          (simk_run hcs 3 []
            (simt_ret (some (some (aI o7.1), (ST0 q, o7.2))) (fun _ => rfl))
          (fun _ => rfl)))))))
  (fun _ => rfl))
noncomputable def kt_X6_walk (q : Nat) : Int32 × MM → Nat → Option Out := fun x _ => some (some (aI x.1), (ST0 q, x.2))
noncomputable def hfX6_walk_b56 (q : Nat) (a0 : Nat) (a1 : Int32) (a2 : Int32) (a3 : Int32) (a6 : Int32) (s : Int32 × Int32 × Int32) (m : MM) (n : Nat) : Option Out := brun false (0, 0) (csF q) (lkb tX6_walk) n 56 [some (aR 6 a0), some (aI a1), some (aI a2), some (aI a3), some (aI s.1), some (aI s.2.1), some (aI a6), some (aI s.2.2), none] [] (ST0 q, m)
noncomputable def kxfX6_walk_b56 (q : Nat) (a0 : Nat) (a1 : Int32) (a2 : Int32) (a3 : Int32) (a6 : Int32) (y : (Int32 × Int32) × MM) (n : Nat) : Option Out := brun false (0, 0) (csF q) (lkb tX6_walk) n 101 [some (aR 6 a0), some (aI a1), some (aI a2), some (aI a3), some (aI y.1.1), some (aI y.1.2), some (aI a6), none, none] [] (ST0 q, y.2)
theorem pfX6_walk_b56 (q : Nat) (hcs : CSm (csF q)) (a0 : Nat) (a1 : Int32) (a2 : Int32) (a3 : Int32) (a6 : Int32) (s : Int32 × Int32 × Int32) (m : MM) : SimK (fX6_walk_b56 a0 a1 a2 a3 a6 s m) (hfX6_walk_b56 q a0 a1 a2 a3 a6 s m) (lpK (hfX6_walk_b56 q a0 a1 a2 a3 a6) (kxfX6_walk_b56 q a0 a1 a2 a3 a6)) :=
  (simk_run hcs 24 [56, 101]
    (simt_ite
      (simt_go hcs (.s _ (.s _ (.s _ (.s _ (.s _ (.s _ (.s _ (.n _ (.n _ .nil))))))))) (fun _ => rfl))
      (simt_bind fun o7 =>
        (simt_ite
          (simt_go hcs (.s _ (.s _ (.s _ (.s _ (.s _ (.s _ (.s _ (.s _ (.n _ .nil))))))))) (fun _ => rfl))
          (simt_go hcs (.s _ (.s _ (.s _ (.s _ (.s _ (.s _ (.s _ (.s _ (.n _ .nil))))))))) (fun _ => rfl)))))
  (fun _ => rfl))
theorem pfX6_walk_b56_l (q : Nat) (hcs : CSm (csF q)) (a0 : Nat) (a1 : Int32) (a2 : Int32) (a3 : Int32) (a6 : Int32) (s : Int32 × Int32 × Int32) (m : MM) : SimK (loopF 1000 (fX6_walk_b56 a0 a1 a2 a3 a6) s m) (hfX6_walk_b56 q a0 a1 a2 a3 a6 s m) (kxfX6_walk_b56 q a0 a1 a2 a3 a6) :=
  simk_loopF (fun s m => pfX6_walk_b56 q hcs a0 a1 a2 a3 a6 s m) 1000 s m
noncomputable def hfX6_walk_b47 (q : Nat) (a0 : Nat) (a1 : Int32) (a2 : Int32) (a3 : Int32) (s : Int32 × Int32 × Int32) (m : MM) (n : Nat) : Option Out := brun false (0, 0) (csF q) (lkb tX6_walk) n 47 [some (aR 6 a0), some (aI a1), some (aI a2), some (aI a3), some (aI s.1), some (aI s.2.1), some (aI s.2.2), none, none] [] (ST0 q, m)
noncomputable def kxfX6_walk_b47 (q : Nat) (a0 : Nat) (a1 : Int32) (a2 : Int32) (a3 : Int32) (y : (Int32 × Int32) × MM) (n : Nat) : Option Out := brun false (0, 0) (csF q) (lkb tX6_walk) n 107 [none, none, none, some (aI a3), some (aI y.1.1), some (aI y.1.2), none, none, none] [] (ST0 q, y.2)
theorem pfX6_walk_b47 (q : Nat) (hcs : CSm (csF q)) (a0 : Nat) (a1 : Int32) (a2 : Int32) (a3 : Int32) (s : Int32 × Int32 × Int32) (m : MM) : SimK (fX6_walk_b47 a0 a1 a2 a3 s m) (hfX6_walk_b47 q a0 a1 a2 a3 s m) (lpK (hfX6_walk_b47 q a0 a1 a2 a3) (kxfX6_walk_b47 q a0 a1 a2 a3)) :=
  (simk_run hcs 6 [56, 107]
    (simt_ite
      (simt_go hcs (.n _ (.n _ (.n _ (.s _ (.s _ (.s _ (.n _ (.n _ (.n _ .nil))))))))) (fun _ => rfl))
      (simt_loop hcs (.s _ (.s _ (.s _ (.s _ (.s _ (.s _ (.s _ (.s _ (.n _ .nil))))))))) (pfX6_walk_b56_l q hcs a0 a1 a2 a3 s.2.2 (s.1, s.2.1, 0) m) (fun o8 => 
        (simk_run hcs 3 [47]
          (simt_go hcs (.s _ (.s _ (.s _ (.s _ (.s _ (.s _ (.s _ (.n _ (.n _ .nil))))))))) (fun _ => rfl))
        (fun _ => rfl)))))
  (fun _ => rfl))
theorem pfX6_walk_b47_l (q : Nat) (hcs : CSm (csF q)) (a0 : Nat) (a1 : Int32) (a2 : Int32) (a3 : Int32) (s : Int32 × Int32 × Int32) (m : MM) : SimK (loopF 1000 (fX6_walk_b47 a0 a1 a2 a3) s m) (hfX6_walk_b47 q a0 a1 a2 a3 s m) (kxfX6_walk_b47 q a0 a1 a2 a3) :=
  simk_loopF (fun s m => pfX6_walk_b47 q hcs a0 a1 a2 a3 s m) 1000 s m
theorem pfX6_walk (q : Nat) (hcs : CSm (csF q)) (a0 : Nat) (a1 : Int32) (a2 : Int32) (a3 : Int32) (m : MM) : SimK (fX6_walk_b a0 a1 a2 a3 m) (fun n => brun false (0, 0) (csF q) (lkb tX6_walk) n 0 (entL 9 [aR 6 a0, aI a1, aI a2, aI a3]) [] (ST0 q, m)) (kt_X6_walk q) :=
  (simk_run hcs 22 [47]
    (simt_bindO (fun o1 =>
      (simt_bind fun o3 =>
        (simt_ret (some (some (aI o3.1), (ST0 q, o3.2))) (fun _ => rfl)))) (fun o1 i2 =>
      (simt_bind fun o4 =>
        (simt_ite
          (simt_bind fun o5 =>
            (simt_ret (some (some (aI o5.1), (ST0 q, o5.2))) (fun _ => rfl)))
          (simt_bind fun o6 =>
            (simt_ite
              (simt_loop hcs (.s _ (.s _ (.s _ (.s _ (.s _ (.s _ (.s _ (.n _ (.n _ .nil))))))))) (pfX6_walk_b47_l q hcs a0 a1 a2 a3 (0, (-1), 0) o6.2) (fun o9 => 
                (simk_run hcs 6 []
                  (simt_ite
                    (simt_ret (some (some (aI o9.1.2), (ST0 q, o9.2))) (fun _ => rfl))
                    (simt_ret (some (some (aI o9.1.1), (ST0 q, o9.2))) (fun _ => rfl)))
                (fun _ => rfl))))
              (simt_bind fun o10 =>
                (simt_ret (some (some (aI o10.1), (ST0 q, o10.2))) (fun _ => rfl)))))))))
  (fun _ => rfl))
noncomputable def kt_X6_driftsAlong (q : Nat) : Bool × MM → Nat → Option Out := fun x _ => some (some (aI (bI x.1)), (ST0 q, x.2))
noncomputable def hfX6_driftsAlong_b47 (q : Nat) (a0 : Nat) (a1 : Nat) (a2 : Int32) (s : Int32) (m : MM) (n : Nat) : Option Out := brun false (0, 0) (csF q) (lkb tX6_driftsAlong) n 47 [some (aR 6 a0), some (aR 1 a1), some (aI a2), none, none, none, none, some (aI s)] [] (ST0 q, m)
noncomputable def kxfX6_driftsAlong_b47 (q : Nat) (a0 : Nat) (a1 : Nat) (a2 : Int32) (y : ((Unit) ⊕ (Unit)) × MM) (n : Nat) : Option Out := match y.1 with
  | Sum.inl x => brun false (0, 0) (csF q) (lkb tX6_driftsAlong) n 113 [none, none, none, none, none, none, none, none] [] (ST0 q, y.2)
  | Sum.inr x => brun false (0, 0) (csF q) (lkb tX6_driftsAlong) n 105 [none, none, none, none, none, none, none, none] [] (ST0 q, y.2)
theorem pfX6_driftsAlong_b47 (q : Nat) (hcs : CSm (csF q)) (a0 : Nat) (a1 : Nat) (a2 : Int32) (s : Int32) (m : MM) : SimK (fX6_driftsAlong_b47 a0 a1 a2 s m) (hfX6_driftsAlong_b47 q a0 a1 a2 s m) (lpK (hfX6_driftsAlong_b47 q a0 a1 a2) (kxfX6_driftsAlong_b47 q a0 a1 a2)) :=
  (simk_run hcs 32 [47, 105, 113]
    (simt_ite
      (simt_go hcs (.n _ (.n _ (.n _ (.n _ (.n _ (.n _ (.n _ (.n _ .nil)))))))) (fun _ => rfl))
      (simt_bind fun o3 =>
        (simt_bind fun o4 =>
          (simt_ite
            (simt_go hcs (.n _ (.n _ (.n _ (.n _ (.n _ (.n _ (.n _ (.n _ .nil)))))))) (fun _ => rfl))
            (simt_bind fun o5 =>
              (simt_ite
                (simt_go hcs (.s _ (.s _ (.s _ (.n _ (.n _ (.n _ (.n _ (.s _ .nil)))))))) (fun _ => rfl))
                (simt_go hcs (.n _ (.n _ (.n _ (.n _ (.n _ (.n _ (.n _ (.n _ .nil)))))))) (fun _ => rfl))))))))
  (fun _ => rfl))
theorem pfX6_driftsAlong_b47_l (q : Nat) (hcs : CSm (csF q)) (a0 : Nat) (a1 : Nat) (a2 : Int32) (s : Int32) (m : MM) : SimK (loopF 1000 (fX6_driftsAlong_b47 a0 a1 a2) s m) (hfX6_driftsAlong_b47 q a0 a1 a2 s m) (kxfX6_driftsAlong_b47 q a0 a1 a2) :=
  simk_loopF (fun s m => pfX6_driftsAlong_b47 q hcs a0 a1 a2 s m) 1000 s m
theorem pfX6_driftsAlong (q : Nat) (hcs : CSm (csF q)) (a0 : Nat) (a1 : Nat) (a2 : Int32) (a3 : Int32) (a4 : Int32) (m : MM) : SimK (fX6_driftsAlong_b a0 a1 a2 a3 a4 m) (fun n => brun false (0, 0) (csF q) (lkb tX6_driftsAlong) n 0 (entL 8 [aR 6 a0, aR 1 a1, aI a2, aI a3, aI a4]) [] (ST0 q, m)) (kt_X6_driftsAlong q) :=
  (simk_run hcs 26 [47]
    (simt_bind fun o1 =>
      (simt_ite
        (simt_ret (some (some (aI 0), (ST0 q, o1.2))) (fun _ => rfl))
        (simt_ite
          (simt_bind fun o2 =>
            (simt_loop hcs (.s _ (.s _ (.s _ (.n _ (.n _ (.n _ (.n _ (.s _ .nil)))))))) (pfX6_driftsAlong_b47_l q hcs a0 a1 a2 1 o2.2) (fun o6 => by
              obtain ⟨o6x, o6m⟩ := o6
              rcases o6x with x7 | x8
              · exact
                (simk_run hcs 3 []
                  (simt_ret (some (some (aI 1), (ST0 q, o6m))) (fun _ => rfl))
                (fun _ => rfl))
              · exact
                (simk_run hcs 3 []
                  (simt_ret (some (some (aI 0), (ST0 q, o6m))) (fun _ => rfl))
                (fun _ => rfl)))))
          (simt_ret (some (some (aI 0), (ST0 q, o1.2))) (fun _ => rfl)))))
  (fun _ => rfl))
noncomputable def kt_X6_fits (q : Nat) : Int32 × MM → Nat → Option Out := fun x _ => some (some (aI x.1), (ST0 q, x.2))
noncomputable def hfX6_fits_b120 (q : Nat) (a0 : Nat) (a2 : Int32) (a4 : Int32) (a5 : Nat) (a6 : Nat) (a7 : Int32) (s : Int32 × Int32) (m : MM) (n : Nat) : Option Out := brun false (0, 0) (csF q) (lkb tX6_fits) n 120 [some (aR 6 a0), none, some (aI a2), none, some (aI a4), some (aR 1 a5), some (aR 0 a6), some (aI a7), some (aI s.1), some (aI s.2)] [] (ST0 q, m)
noncomputable def kxfX6_fits_b120 (q : Nat) (a0 : Nat) (a2 : Int32) (a4 : Int32) (a5 : Nat) (a6 : Nat) (a7 : Int32) (y : (Int32) × MM) (n : Nat) : Option Out := brun false (0, 0) (csF q) (lkb tX6_fits) n 186 [none, none, none, none, none, none, none, none, some (aI y.1), none] [] (ST0 q, y.2)
theorem pfX6_fits_j141 (q : Nat) (hcs : CSm (csF q)) (a0 : Nat) (a2 : Int32) (a4 : Int32) (a5 : Nat) (a6 : Nat) (a7 : Int32) (a8 : Int32) (a9 : Int32) (m : MM) : SimK (fX6_fits_j141 a0 a2 a4 a5 a6 a7 a8 a9 m) (fun n => brun false (0, 0) (csF q) (lkb tX6_fits) n 141 [some (aR 6 a0), none, some (aI a2), none, some (aI a4), some (aR 1 a5), some (aR 0 a6), some (aI a7), some (aI a8), some (aI a9)] [] (ST0 q, m)) (lpK (hfX6_fits_b120 q a0 a2 a4 a5 a6 a7) (kxfX6_fits_b120 q a0 a2 a4 a5 a6 a7)) :=
  (simk_run hcs 21 [120]
    (simt_ite
      (simt_bind fun o17 =>
        (simt_ite
          (simt_go hcs (.s _ (.n _ (.s _ (.n _ (.s _ (.s _ (.s _ (.s _ (.s _ (.s _ .nil)))))))))) (fun _ => rfl))
          (simt_go hcs (.s _ (.n _ (.s _ (.n _ (.s _ (.s _ (.s _ (.s _ (.s _ (.s _ .nil)))))))))) (fun _ => rfl))))
      (simt_bind fun o18 =>
        (simt_ite
          (simt_go hcs (.s _ (.n _ (.s _ (.n _ (.s _ (.s _ (.s _ (.s _ (.s _ (.s _ .nil)))))))))) (fun _ => rfl))
          (simt_go hcs (.s _ (.n _ (.s _ (.n _ (.s _ (.s _ (.s _ (.s _ (.s _ (.s _ .nil)))))))))) (fun _ => rfl)))))
  (fun _ => rfl))
theorem pfX6_fits_b120 (q : Nat) (hcs : CSm (csF q)) (a0 : Nat) (a2 : Int32) (a4 : Int32) (a5 : Nat) (a6 : Nat) (a7 : Int32) (s : Int32 × Int32) (m : MM) : SimK (fX6_fits_b120 a0 a2 a4 a5 a6 a7 s m) (hfX6_fits_b120 q a0 a2 a4 a5 a6 a7 s m) (lpK (hfX6_fits_b120 q a0 a2 a4 a5 a6 a7) (kxfX6_fits_b120 q a0 a2 a4 a5 a6 a7)) :=
  (simk_run hcs 10 [141, 186]
    (simt_ite
      (simt_go hcs (.n _ (.n _ (.n _ (.n _ (.n _ (.n _ (.n _ (.n _ (.s _ (.n _ .nil)))))))))) (fun _ => rfl))
      (simt_ite
        (simt_join hcs (.s _ (.n _ (.s _ (.n _ (.s _ (.s _ (.s _ (.s _ (.s _ (.s _ .nil)))))))))) (pfX6_fits_j141 q hcs a0 a2 a4 a5 a6 a7 s.1 s.2 m))
        (simt_join hcs (.s _ (.n _ (.s _ (.n _ (.s _ (.s _ (.s _ (.s _ (.s _ (.s _ .nil)))))))))) (pfX6_fits_j141 q hcs a0 a2 a4 a5 a6 a7 s.1 s.2 ((upI m.1 5 2 1 s.2), m.2)))))
  (fun _ => rfl))
theorem pfX6_fits_b120_l (q : Nat) (hcs : CSm (csF q)) (a0 : Nat) (a2 : Int32) (a4 : Int32) (a5 : Nat) (a6 : Nat) (a7 : Int32) (s : Int32 × Int32) (m : MM) : SimK (loopF 1000 (fX6_fits_b120 a0 a2 a4 a5 a6 a7) s m) (hfX6_fits_b120 q a0 a2 a4 a5 a6 a7 s m) (kxfX6_fits_b120 q a0 a2 a4 a5 a6 a7) :=
  simk_loopF (fun s m => pfX6_fits_b120 q hcs a0 a2 a4 a5 a6 a7 s m) 1000 s m
theorem pfX6_fits_j101 (q : Nat) (hcs : CSm (csF q)) (a0 : Nat) (a2 : Int32) (a4 : Int32) (a5 : Nat) (a6 : Nat) (z0 : Int32) (m : MM) : SimK (fX6_fits_j101 a0 a2 a4 a5 a6 z0 m) (fun n => brun false (0, 0) (csF q) (lkb tX6_fits) n 101 [some (aR 6 a0), none, some (aI a2), none, some (aI a4), some (aR 1 a5), some (aR 0 a6), none, none, none] [aI z0] (ST0 q, m)) (kt_X6_fits q) :=
  (simk_run hcs 11 [120]
    (simt_bind fun o16 =>
      (simt_loop hcs (.s _ (.n _ (.s _ (.n _ (.s _ (.s _ (.s _ (.s _ (.s _ (.s _ .nil)))))))))) (pfX6_fits_b120_l q hcs a0 a2 a4 a5 a6 z0 (0, 0) o16.2) (fun o19 => 
        (simk_run hcs 3 []
          (simt_ret (some (some (aI o19.1), (ST0 q, o19.2))) (fun _ => rfl))
        (fun _ => rfl)))))
  (fun _ => rfl))
theorem pfX6_fits (q : Nat) (hcs : CSm (csF q)) (a0 : Nat) (a1 : Int32) (a2 : Int32) (a3 : Int32) (a4 : Int32) (m : MM) : SimK (fX6_fits_b a0 a1 a2 a3 a4 m) (fun n => brun false (0, 0) (csF q) (lkb tX6_fits) n 0 (entL 10 [aR 6 a0, aI a1, aI a2, aI a3, aI a4]) [] (ST0 q, m)) (kt_X6_fits q) :=
  (simk_run hcs 35 [101]
    (simt_bindO (fun o1 =>
      (simt_bindO (fun o3 =>
        (simt_bind fun o5 =>
          (simt_ret (some (some (aI o5.1), (ST0 q, o5.2))) (fun _ => rfl)))) (fun o3 i4 =>
        (simt_bind fun o6 =>
          (simt_ret (some (some (aI o6.1), (ST0 q, o6.2))) (fun _ => rfl)))))) (fun o1 i2 =>
      (simt_bindO (fun o7 =>
        (simt_bind fun o9 =>
          (simt_ite
            (simt_bind fun o10 =>
              (simt_ret (some (some (aI o10.1), (ST0 q, o10.2))) (fun _ => rfl)))
            (simt_bind fun o11 =>
              (simt_ret (some (some (aI o11.1), (ST0 q, o11.2))) (fun _ => rfl)))))) (fun o7 i8 =>
        (simt_bind fun o12 =>
          (simt_ite
            (simt_bind fun o13 =>
              (simt_ret (some (some (aI o13.1), (ST0 q, o13.2))) (fun _ => rfl)))
            (simt_bind fun o14 =>
              (simt_ite
                (simt_bind fun o15 =>
                  (simt_ite
                    (simt_ite
                      (simt_ite
                        (simt_join hcs (.s _ (.n _ (.s _ (.n _ (.s _ (.s _ (.s _ (.n _ (.n _ (.n _ .nil)))))))))) (pfX6_fits_j101 q hcs a0 a2 a4 i2 i8 6 o15.2))
                        (simt_join hcs (.s _ (.n _ (.s _ (.n _ (.s _ (.s _ (.s _ (.n _ (.n _ (.n _ .nil)))))))))) (pfX6_fits_j101 q hcs a0 a2 a4 i2 i8 5 o15.2)))
                      (simt_bind fun o20 =>
                        (simt_ret (some (some (aI o20.1), (ST0 q, o20.2))) (fun _ => rfl))))
                    (simt_bind fun o21 =>
                      (simt_bind fun o22 =>
                        (simt_ret (some (some (aI o22.1), (ST0 q, o22.2))) (fun _ => rfl))))))
                (simt_bind fun o23 =>
                  (simt_ret (some (some (aI o23.1), (ST0 q, o23.2))) (fun _ => rfl)))))))))))
  (fun _ => rfl))
noncomputable def kt_X6_from (q : Nat) : Int32 × MM → Nat → Option Out := fun x _ => some (some (aI x.1), (ST0 q, x.2))
noncomputable def hfX6_from_b50 (q : Nat) (a0 : Nat) (a2 : Int32) (a3 : Int32) (a4 : Nat) (s : Int32 × Int32) (m : MM) (n : Nat) : Option Out := brun false (0, 0) (csF q) (lkb tX6_from) n 50 [some (aR 6 a0), none, some (aI a2), some (aI a3), some (aR 0 a4), some (aI s.1), some (aI s.2)] [] (ST0 q, m)
noncomputable def kxfX6_from_b50 (q : Nat) (a0 : Nat) (a2 : Int32) (a3 : Int32) (a4 : Nat) (y : (Int32) × MM) (n : Nat) : Option Out := brun false (0, 0) (csF q) (lkb tX6_from) n 137 [none, none, none, none, none, some (aI y.1), none] [] (ST0 q, y.2)
theorem pfX6_from_b50 (q : Nat) (hcs : CSm (csF q)) (a0 : Nat) (a2 : Int32) (a3 : Int32) (a4 : Nat) (s : Int32 × Int32) (m : MM) : SimK (fX6_from_b50 a0 a2 a3 a4 s m) (hfX6_from_b50 q a0 a2 a3 a4 s m) (lpK (hfX6_from_b50 q a0 a2 a3 a4) (kxfX6_from_b50 q a0 a2 a3 a4)) :=
  (simk_run hcs 43 [50, 137]
    (simt_ite
      (simt_go hcs (.n _ (.n _ (.n _ (.n _ (.n _ (.s _ (.n _ .nil))))))) (fun _ => rfl))
      (simt_bind fun o7 =>
        (simt_bind fun o8 =>
          (simt_bind fun o9 =>
            (simt_ite
              (simt_go hcs (.s _ (.n _ (.s _ (.s _ (.s _ (.s _ (.s _ .nil))))))) (fun _ => rfl))
              (simt_bind fun o10 =>
                (simt_ite
                  (simt_go hcs (.s _ (.n _ (.s _ (.s _ (.s _ (.s _ (.s _ .nil))))))) (fun _ => rfl))
                  (simt_go hcs (.s _ (.n _ (.s _ (.s _ (.s _ (.s _ (.s _ .nil))))))) (fun _ => rfl)))))))))
  (fun _ => rfl))
theorem pfX6_from_b50_l (q : Nat) (hcs : CSm (csF q)) (a0 : Nat) (a2 : Int32) (a3 : Int32) (a4 : Nat) (s : Int32 × Int32) (m : MM) : SimK (loopF 1000 (fX6_from_b50 a0 a2 a3 a4) s m) (hfX6_from_b50 q a0 a2 a3 a4 s m) (kxfX6_from_b50 q a0 a2 a3 a4) :=
  simk_loopF (fun s m => pfX6_from_b50 q hcs a0 a2 a3 a4 s m) 1000 s m
theorem pfX6_from (q : Nat) (hcs : CSm (csF q)) (a0 : Nat) (a1 : Int32) (a2 : Int32) (a3 : Int32) (m : MM) : SimK (fX6_from_b a0 a1 a2 a3 m) (fun n => brun false (0, 0) (csF q) (lkb tX6_from) n 0 (entL 7 [aR 6 a0, aI a1, aI a2, aI a3]) [] (ST0 q, m)) (kt_X6_from q) :=
  (simk_run hcs 22 [50]
    (simt_bindO (fun o1 =>
      (simt_bind fun o3 =>
        (simt_ret (some (some (aI o3.1), (ST0 q, o3.2))) (fun _ => rfl)))) (fun o1 i2 =>
      (simt_bind fun o4 =>
        (simt_ite
          (simt_bind fun o5 =>
            (simt_ret (some (some (aI o5.1), (ST0 q, o5.2))) (fun _ => rfl)))
          (simt_bind fun o6 =>
            (simt_ite
              (simt_loop hcs (.s _ (.n _ (.s _ (.s _ (.s _ (.s _ (.s _ .nil))))))) (pfX6_from_b50_l q hcs a0 a2 a3 i2 (0, 0) o6.2) (fun o11 => 
                (simk_run hcs 3 []
                  (simt_ret (some (some (aI o11.1), (ST0 q, o11.2))) (fun _ => rfl))
                (fun _ => rfl))))
              (simt_bind fun o12 =>
                (simt_ret (some (some (aI o12.1), (ST0 q, o12.2))) (fun _ => rfl)))))))))
  (fun _ => rfl))
noncomputable def kt_X6_bestFrom (q : Nat) : Int32 × MM → Nat → Option Out := fun x _ => some (some (aI x.1), (ST0 q, x.2))
theorem pfX6_bestFrom (q : Nat) (hcs : CSm (csF q)) (a0 : Nat) (a1 : Int32) (a2 : Int32) (m : MM) : SimK (fX6_bestFrom_b a0 a1 a2 m) (fun n => brun false (0, 0) (csF q) (lkb tX6_bestFrom) n 0 (entL 3 [aR 6 a0, aI a1, aI a2]) [] (ST0 q, m)) (kt_X6_bestFrom q) :=
  (simk_run hcs 19 []
    (simt_bind fun o1 =>
      (simt_ite
        (simt_ret (some (some (aI 0), (ST0 q, o1.2))) (fun _ => rfl))
        (simt_bind fun o2 =>
          (simt_ite
            (simt_ret (some (some (aI 0), (ST0 q, o2.2))) (fun _ => rfl))
            (simt_bif
              (simt_bif
                (simt_ret (some (some (aI (o2.2.1 44 a1.toNatClampNeg a2.toNatClampNeg)), (ST0 q, o2.2))) (fun _ => rfl))))))))
  (fun _ => rfl))
noncomputable def kt_X6_pairingScore (q : Nat) : Int32 × MM → Nat → Option Out := fun x _ => some (some (aI x.1), (ST0 q, x.2))
theorem pfX6_pairingScore (q : Nat) (hcs : CSm (csF q)) (a0 : Nat) (a1 : Int32) (a2 : Int32) (a3 : Int32) (m : MM) : SimK (fX6_pairingScore_b a0 a1 a2 a3 m) (fun n => brun false (0, 0) (csF q) (lkb tX6_pairingScore) n 0 (entL 5 [aR 6 a0, aI a1, aI a2, aI a3]) [] (ST0 q, m)) (kt_X6_pairingScore q) :=
  (simk_run hcs 42 []
    (simt_bind fun o1 =>
      (simt_ite
        (simt_ret (some (some (aI (-1)), (ST0 q, o1.2))) (fun _ => rfl))
        (simt_bind fun o2 =>
          (simt_ite
            (simt_bif
              (simt_bif
                (simt_ite
                  (simt_ret (some (some (aI (-1)), (ST0 q, o2.2))) (fun _ => rfl))
                  (simt_ite
                    (simt_bind fun o3 =>
                      (simt_ret (some (some (aI ((1000 - (o2.2.1 43 a1.toNatClampNeg a2.toNatClampNeg)) + o3.1)), (ST0 q, o3.2))) (fun _ => rfl)))
                    (simt_ret (some (some (aI (-1)), (ST0 q, o2.2))) (fun _ => rfl))))))
            (simt_ret (some (some (aI (-1)), (ST0 q, o2.2))) (fun _ => rfl))))))
  (fun _ => rfl))
noncomputable def kt_X6_fillBestPairs (q : Nat) : Unit × MM → Nat → Option Out := fun x _ => some (none, (ST0 q, x.2))
noncomputable def hfX6_fillBestPairs_b2 (q : Nat) (a0 : Nat) (s : Int32) (m : MM) (n : Nat) : Option Out := brun false (0, 0) (csF q) (lkb tX6_fillBestPairs) n 2 [some (aR 6 a0), some (aI s), none, none, none] [] (ST0 q, m)
noncomputable def kxfX6_fillBestPairs_b2 (q : Nat) (a0 : Nat) (y : (Unit) × MM) (n : Nat) : Option Out := brun false (0, 0) (csF q) (lkb tX6_fillBestPairs) n 24 [some (aR 6 a0), none, none, none, none] [] (ST0 q, y.2)
theorem pfX6_fillBestPairs_b2 (q : Nat) (hcs : CSm (csF q)) (a0 : Nat) (s : Int32) (m : MM) : SimK (fX6_fillBestPairs_b2 a0 s m) (hfX6_fillBestPairs_b2 q a0 s m) (lpK (hfX6_fillBestPairs_b2 q a0) (kxfX6_fillBestPairs_b2 q a0)) :=
  (simk_run hcs 13 [2, 24]
    (simt_ite
      (simt_go hcs (.s _ (.n _ (.n _ (.n _ (.n _ .nil))))) (fun _ => rfl))
      (simt_bif
        (simt_bif
          (simt_go hcs (.s _ (.s _ (.n _ (.n _ (.n _ .nil))))) (fun _ => rfl)))))
  (fun _ => rfl))
theorem pfX6_fillBestPairs_b2_l (q : Nat) (hcs : CSm (csF q)) (a0 : Nat) (s : Int32) (m : MM) : SimK (loopF 1000 (fX6_fillBestPairs_b2 a0) s m) (hfX6_fillBestPairs_b2 q a0 s m) (kxfX6_fillBestPairs_b2 q a0) :=
  simk_loopF (fun s m => pfX6_fillBestPairs_b2 q hcs a0 s m) 1000 s m
noncomputable def hfX6_fillBestPairs_b51 (q : Nat) (a0 : Nat) (a1 : Int32) (a2 : Int32) (s : Int32 × Int32) (m : MM) (n : Nat) : Option Out := brun false (0, 0) (csF q) (lkb tX6_fillBestPairs) n 51 [some (aR 6 a0), some (aI a1), some (aI a2), some (aI s.1), some (aI s.2)] [] (ST0 q, m)
noncomputable def kxfX6_fillBestPairs_b51 (q : Nat) (a0 : Nat) (a1 : Int32) (a2 : Int32) (y : (Int32) × MM) (n : Nat) : Option Out := brun false (0, 0) (csF q) (lkb tX6_fillBestPairs) n 77 [some (aR 6 a0), some (aI a1), some (aI a2), some (aI y.1), none] [] (ST0 q, y.2)
theorem pfX6_fillBestPairs_b51 (q : Nat) (hcs : CSm (csF q)) (a0 : Nat) (a1 : Int32) (a2 : Int32) (s : Int32 × Int32) (m : MM) : SimK (fX6_fillBestPairs_b51 a0 a1 a2 s m) (hfX6_fillBestPairs_b51 q a0 a1 a2 s m) (lpK (hfX6_fillBestPairs_b51 q a0 a1 a2) (kxfX6_fillBestPairs_b51 q a0 a1 a2)) :=
  (simk_run hcs 14 [51, 77]
    (simt_ite
      (simt_go hcs (.s _ (.s _ (.s _ (.s _ (.n _ .nil))))) (fun _ => rfl))
      (simt_bind fun o3 =>
        (simt_go hcs (.s _ (.s _ (.s _ (.s _ (.s _ .nil))))) (fun _ => rfl))))
  (fun _ => rfl))
theorem pfX6_fillBestPairs_b51_l (q : Nat) (hcs : CSm (csF q)) (a0 : Nat) (a1 : Int32) (a2 : Int32) (s : Int32 × Int32) (m : MM) : SimK (loopF 1000 (fX6_fillBestPairs_b51 a0 a1 a2) s m) (hfX6_fillBestPairs_b51 q a0 a1 a2 s m) (kxfX6_fillBestPairs_b51 q a0 a1 a2) :=
  simk_loopF (fun s m => pfX6_fillBestPairs_b51 q hcs a0 a1 a2 s m) 1000 s m
noncomputable def hfX6_fillBestPairs_b33 (q : Nat) (a0 : Nat) (a1 : Int32) (s : Int32) (m : MM) (n : Nat) : Option Out := brun false (0, 0) (csF q) (lkb tX6_fillBestPairs) n 33 [some (aR 6 a0), some (aI a1), some (aI s), none, none] [] (ST0 q, m)
noncomputable def kxfX6_fillBestPairs_b33 (q : Nat) (a0 : Nat) (a1 : Int32) (y : (Unit) × MM) (n : Nat) : Option Out := brun false (0, 0) (csF q) (lkb tX6_fillBestPairs) n 92 [some (aR 6 a0), some (aI a1), none, none, none] [] (ST0 q, y.2)
theorem pfX6_fillBestPairs_b33 (q : Nat) (hcs : CSm (csF q)) (a0 : Nat) (a1 : Int32) (s : Int32) (m : MM) : SimK (fX6_fillBestPairs_b33 a0 a1 s m) (hfX6_fillBestPairs_b33 q a0 a1 s m) (lpK (hfX6_fillBestPairs_b33 q a0 a1) (kxfX6_fillBestPairs_b33 q a0 a1)) :=
  (simk_run hcs 13 [51, 92]
    (simt_ite
      (simt_go hcs (.s _ (.s _ (.n _ (.n _ (.n _ .nil))))) (fun _ => rfl))
      (simt_bind fun o2 =>
        (simt_loop hcs (.s _ (.s _ (.s _ (.s _ (.s _ .nil))))) (pfX6_fillBestPairs_b51_l q hcs a0 a1 s (o2.1, 0) o2.2) (fun o4 => 
          (simk_run hcs 10 [33]
            (simt_bif
              (simt_bif
                (simt_go hcs (.s _ (.s _ (.s _ (.n _ (.n _ .nil))))) (fun _ => rfl))))
          (fun _ => rfl))))))
  (fun _ => rfl))
theorem pfX6_fillBestPairs_b33_l (q : Nat) (hcs : CSm (csF q)) (a0 : Nat) (a1 : Int32) (s : Int32) (m : MM) : SimK (loopF 1000 (fX6_fillBestPairs_b33 a0 a1) s m) (hfX6_fillBestPairs_b33 q a0 a1 s m) (kxfX6_fillBestPairs_b33 q a0 a1) :=
  simk_loopF (fun s m => pfX6_fillBestPairs_b33 q hcs a0 a1 s m) 1000 s m
noncomputable def hfX6_fillBestPairs_b27 (q : Nat) (a0 : Nat) (s : Int32) (m : MM) (n : Nat) : Option Out := brun false (0, 0) (csF q) (lkb tX6_fillBestPairs) n 27 [some (aR 6 a0), some (aI s), none, none, none] [] (ST0 q, m)
noncomputable def kxfX6_fillBestPairs_b27 (q : Nat) (a0 : Nat) (y : (Unit) × MM) (n : Nat) : Option Out := brun false (0, 0) (csF q) (lkb tX6_fillBestPairs) n 98 [none, none, none, none, none] [] (ST0 q, y.2)
theorem pfX6_fillBestPairs_b27 (q : Nat) (hcs : CSm (csF q)) (a0 : Nat) (s : Int32) (m : MM) : SimK (fX6_fillBestPairs_b27 a0 s m) (hfX6_fillBestPairs_b27 q a0 s m) (lpK (hfX6_fillBestPairs_b27 q a0) (kxfX6_fillBestPairs_b27 q a0)) :=
  (simk_run hcs 5 [33, 98]
    (simt_ite
      (simt_go hcs (.n _ (.n _ (.n _ (.n _ (.n _ .nil))))) (fun _ => rfl))
      (simt_loop hcs (.s _ (.s _ (.s _ (.n _ (.n _ .nil))))) (pfX6_fillBestPairs_b33_l q hcs a0 s 0 m) (fun o5 => 
        (simk_run hcs 3 [27]
          (simt_go hcs (.s _ (.s _ (.n _ (.n _ (.n _ .nil))))) (fun _ => rfl))
        (fun _ => rfl)))))
  (fun _ => rfl))
theorem pfX6_fillBestPairs_b27_l (q : Nat) (hcs : CSm (csF q)) (a0 : Nat) (s : Int32) (m : MM) : SimK (loopF 1000 (fX6_fillBestPairs_b27 a0) s m) (hfX6_fillBestPairs_b27 q a0 s m) (kxfX6_fillBestPairs_b27 q a0) :=
  simk_loopF (fun s m => pfX6_fillBestPairs_b27 q hcs a0 s m) 1000 s m
theorem pfX6_fillBestPairs (q : Nat) (hcs : CSm (csF q)) (a0 : Nat) (m : MM) : SimK (fX6_fillBestPairs_b a0 m) (fun n => brun false (0, 0) (csF q) (lkb tX6_fillBestPairs) n 0 (entL 5 [aR 6 a0]) [] (ST0 q, m)) (kt_X6_fillBestPairs q) :=
  (simk_run hcs 3 [2]
    (simt_loop hcs (.s _ (.s _ (.n _ (.n _ (.n _ .nil))))) (pfX6_fillBestPairs_b2_l q hcs a0 0 m) (fun o1 => 
      (simk_run hcs 3 [27]
        (simt_loop hcs (.s _ (.s _ (.n _ (.n _ (.n _ .nil))))) (pfX6_fillBestPairs_b27_l q hcs a0 7 o1.2) (fun o6 => 
          (simk_run hcs 2 []
            (simt_ret (some (none, (ST0 q, o6.2))) (fun _ => rfl))
          (fun _ => rfl))))
      (fun _ => rfl))))
  (fun _ => rfl))
noncomputable def kt_X6_fillMeetings (q : Nat) : Unit × MM → Nat → Option Out := fun x _ => some (none, (ST0 q, x.2))
noncomputable def hfX6_fillMeetings_b38n3 (q : Nat) (a0 : Nat) (a1 : Int32) (a2 : Int32) (s : Int32) (m : MM) (n : Nat) : Option Out := brun false (0, 0) (csF q) (lkb tX6_fillMeetings) n 38 [some (aR 6 a0), some (aI a1), some (aI a2), some (aN), some (aI s)] [] (ST0 q, m)
noncomputable def kxfX6_fillMeetings_b38n3 (q : Nat) (a0 : Nat) (a1 : Int32) (a2 : Int32) (y : (Unit) × MM) (n : Nat) : Option Out := brun false (0, 0) (csF q) (lkb tX6_fillMeetings) n 82 [some (aR 6 a0), some (aI a1), some (aI a2), none, none] [] (ST0 q, y.2)
theorem pfX6_fillMeetings_b38n3 (q : Nat) (hcs : CSm (csF q)) (a0 : Nat) (a1 : Int32) (a2 : Int32) (s : Int32) (m : MM) : SimK (fX6_fillMeetings_b38n3 a0 a1 a2 s m) (hfX6_fillMeetings_b38n3 q a0 a1 a2 s m) (lpK (hfX6_fillMeetings_b38n3 q a0 a1 a2) (kxfX6_fillMeetings_b38n3 q a0 a1 a2)) :=
  (simk_run hcs 16 [38, 82]
    (simt_ite
      (simt_go hcs (.s _ (.s _ (.s _ (.n _ (.n _ .nil))))) (fun _ => rfl))
      (simt_bif
        (simt_bif
          (simt_go hcs (.s _ (.s _ (.s _ (.s _ (.s _ .nil))))) (fun _ => rfl)))))
  (fun _ => rfl))
theorem pfX6_fillMeetings_b38n3_l (q : Nat) (hcs : CSm (csF q)) (a0 : Nat) (a1 : Int32) (a2 : Int32) (s : Int32) (m : MM) : SimK (loopF 1000 (fX6_fillMeetings_b38n3 a0 a1 a2) s m) (hfX6_fillMeetings_b38n3 q a0 a1 a2 s m) (kxfX6_fillMeetings_b38n3 q a0 a1 a2) :=
  simk_loopF (fun s m => pfX6_fillMeetings_b38n3 q hcs a0 a1 a2 s m) 1000 s m
noncomputable def hfX6_fillMeetings_b38 (q : Nat) (a0 : Nat) (a1 : Int32) (a2 : Int32) (a3 : Nat) (s : Int32) (m : MM) (n : Nat) : Option Out := brun false (0, 0) (csF q) (lkb tX6_fillMeetings) n 38 [some (aR 6 a0), some (aI a1), some (aI a2), some (aR 0 a3), some (aI s)] [] (ST0 q, m)
noncomputable def kxfX6_fillMeetings_b38 (q : Nat) (a0 : Nat) (a1 : Int32) (a2 : Int32) (a3 : Nat) (y : (Unit) × MM) (n : Nat) : Option Out := brun false (0, 0) (csF q) (lkb tX6_fillMeetings) n 82 [some (aR 6 a0), some (aI a1), some (aI a2), none, none] [] (ST0 q, y.2)
theorem pfX6_fillMeetings_b38 (q : Nat) (hcs : CSm (csF q)) (a0 : Nat) (a1 : Int32) (a2 : Int32) (a3 : Nat) (s : Int32) (m : MM) : SimK (fX6_fillMeetings_b38 a0 a1 a2 a3 s m) (hfX6_fillMeetings_b38 q a0 a1 a2 a3 s m) (lpK (hfX6_fillMeetings_b38 q a0 a1 a2 a3) (kxfX6_fillMeetings_b38 q a0 a1 a2 a3)) :=
  (simk_run hcs 21 [38, 82]
    (simt_ite
      (simt_go hcs (.s _ (.s _ (.s _ (.n _ (.n _ .nil))))) (fun _ => rfl))
      (simt_bif
        (simt_bindO (fun o5 =>
          (simt_bind fun o7 =>
            (simt_bif
              (simt_go hcs (.s _ (.s _ (.s _ (.s _ (.s _ .nil))))) (fun _ => rfl))))) (fun o5 i6 =>
          (simt_bind fun o8 =>
            (simt_bif
              (simt_go hcs (.s _ (.s _ (.s _ (.s _ (.s _ .nil))))) (fun _ => rfl))))))))
  (fun _ => rfl))
theorem pfX6_fillMeetings_b38_l (q : Nat) (hcs : CSm (csF q)) (a0 : Nat) (a1 : Int32) (a2 : Int32) (a3 : Nat) (s : Int32) (m : MM) : SimK (loopF 1000 (fX6_fillMeetings_b38 a0 a1 a2 a3) s m) (hfX6_fillMeetings_b38 q a0 a1 a2 a3 s m) (kxfX6_fillMeetings_b38 q a0 a1 a2 a3) :=
  simk_loopF (fun s m => pfX6_fillMeetings_b38 q hcs a0 a1 a2 a3 s m) 1000 s m
noncomputable def hfX6_fillMeetings_b2 (q : Nat) (a0 : Nat) (a1 : Int32) (s : Int32) (m : MM) (n : Nat) : Option Out := brun false (0, 0) (csF q) (lkb tX6_fillMeetings) n 2 [some (aR 6 a0), some (aI a1), some (aI s), none, none] [] (ST0 q, m)
noncomputable def kxfX6_fillMeetings_b2 (q : Nat) (a0 : Nat) (a1 : Int32) (y : (Unit) × MM) (n : Nat) : Option Out := brun false (0, 0) (csF q) (lkb tX6_fillMeetings) n 88 [none, none, none, none, none] [] (ST0 q, y.2)
theorem pfX6_fillMeetings_j35 (q : Nat) (hcs : CSm (csF q)) (a0 : Nat) (a1 : Int32) (a2 : Int32) (m : MM) : SimK (fX6_fillMeetings_j35 a0 a1 a2 m) (fun n => brun false (0, 0) (csF q) (lkb tX6_fillMeetings) n 35 [some (aR 6 a0), some (aI a1), some (aI a2), some (aN), none] [] (ST0 q, m)) (lpK (hfX6_fillMeetings_b2 q a0 a1) (kxfX6_fillMeetings_b2 q a0 a1)) :=
  (simk_run hcs 3 [38]
    (simt_loop hcs (.s _ (.s _ (.s _ (.s _ (.s _ .nil))))) (pfX6_fillMeetings_b38n3_l q hcs a0 a1 a2 0 m) (fun o3 => 
      (simk_run hcs 3 [2]
        (simt_go hcs (.s _ (.s _ (.s _ (.n _ (.n _ .nil))))) (fun _ => rfl))
      (fun _ => rfl))))
  (fun _ => rfl))
theorem pfX6_fillMeetings_j35_1_2 (q : Nat) (hcs : CSm (csF q)) (a0 : Nat) (a1 : Int32) (a2 : Int32) (a3 : Nat) (m : MM) : SimK (fX6_fillMeetings_j35_1_2 a0 a1 a2 a3 m) (fun n => brun false (0, 0) (csF q) (lkb tX6_fillMeetings) n 35 [some (aR 6 a0), some (aI a1), some (aI a2), some (aR 0 a3), none] [] (ST0 q, m)) (lpK (hfX6_fillMeetings_b2 q a0 a1) (kxfX6_fillMeetings_b2 q a0 a1)) :=
  (simk_run hcs 3 [38]
    (simt_loop hcs (.s _ (.s _ (.s _ (.s _ (.s _ .nil))))) (pfX6_fillMeetings_b38_l q hcs a0 a1 a2 a3 0 m) (fun o9 => 
      (simk_run hcs 3 [2]
        (simt_go hcs (.s _ (.s _ (.s _ (.n _ (.n _ .nil))))) (fun _ => rfl))
      (fun _ => rfl))))
  (fun _ => rfl))
theorem pfX6_fillMeetings_b2 (q : Nat) (hcs : CSm (csF q)) (a0 : Nat) (a1 : Int32) (s : Int32) (m : MM) : SimK (fX6_fillMeetings_b2 a0 a1 s m) (hfX6_fillMeetings_b2 q a0 a1 s m) (lpK (hfX6_fillMeetings_b2 q a0 a1) (kxfX6_fillMeetings_b2 q a0 a1)) :=
  (simk_run hcs 19 [35, 88]
    (simt_ite
      (simt_go hcs (.n _ (.n _ (.n _ (.n _ (.n _ .nil))))) (fun _ => rfl))
      (simt_bindO (fun o1 =>
        (simt_join hcs (.s _ (.s _ (.s _ (.s _ (.n _ .nil))))) (pfX6_fillMeetings_j35 q hcs a0 a1 s o1.2))) (fun o1 i2 =>
        (simt_bind fun o4 =>
          (simt_join hcs (.s _ (.s _ (.s _ (.s _ (.n _ .nil))))) (pfX6_fillMeetings_j35_1_2 q hcs a0 a1 s i2 o4.2))))))
  (fun _ => rfl))
theorem pfX6_fillMeetings_b2_l (q : Nat) (hcs : CSm (csF q)) (a0 : Nat) (a1 : Int32) (s : Int32) (m : MM) : SimK (loopF 1000 (fX6_fillMeetings_b2 a0 a1) s m) (hfX6_fillMeetings_b2 q a0 a1 s m) (kxfX6_fillMeetings_b2 q a0 a1) :=
  simk_loopF (fun s m => pfX6_fillMeetings_b2 q hcs a0 a1 s m) 1000 s m
theorem pfX6_fillMeetings (q : Nat) (hcs : CSm (csF q)) (a0 : Nat) (a1 : Int32) (m : MM) : SimK (fX6_fillMeetings_b a0 a1 m) (fun n => brun false (0, 0) (csF q) (lkb tX6_fillMeetings) n 0 (entL 5 [aR 6 a0, aI a1]) [] (ST0 q, m)) (kt_X6_fillMeetings q) :=
  (simk_run hcs 3 [2]
    (simt_loop hcs (.s _ (.s _ (.s _ (.n _ (.n _ .nil))))) (pfX6_fillMeetings_b2_l q hcs a0 a1 0 m) (fun o10 => 
      (simk_run hcs 2 []
        (simt_ret (some (none, (ST0 q, o10.2))) (fun _ => rfl))
      (fun _ => rfl))))
  (fun _ => rfl))
noncomputable def kt_X6_partnerOf (q : Nat) : Int32 × MM → Nat → Option Out := fun x _ => some (some (aI x.1), (ST0 q, x.2))
noncomputable def hfX6_partnerOf_b25 (q : Nat) (a0 : Nat) (a1 : Int32) (a2 : Int32) (a4 : Int32) (s : Int32 × Int32) (m : MM) (n : Nat) : Option Out := brun false (0, 0) (csF q) (lkb tX6_partnerOf) n 25 [some (aR 6 a0), some (aI a1), some (aI a2), some (aI s.1), some (aI a4), some (aI s.2)] [] (ST0 q, m)
noncomputable def kxfX6_partnerOf_b25 (q : Nat) (a0 : Nat) (a1 : Int32) (a2 : Int32) (a4 : Int32) (y : (Int32) × MM) (n : Nat) : Option Out := brun false (0, 0) (csF q) (lkb tX6_partnerOf) n 65 [some (aR 6 a0), some (aI a1), some (aI a2), some (aI y.1), some (aI a4), none] [] (ST0 q, y.2)
theorem pfX6_partnerOf_b25 (q : Nat) (hcs : CSm (csF q)) (a0 : Nat) (a1 : Int32) (a2 : Int32) (a4 : Int32) (s : Int32 × Int32) (m : MM) : SimK (fX6_partnerOf_b25 a0 a1 a2 a4 s m) (hfX6_partnerOf_b25 q a0 a1 a2 a4 s m) (lpK (hfX6_partnerOf_b25 q a0 a1 a2 a4) (kxfX6_partnerOf_b25 q a0 a1 a2 a4)) :=
  (simk_run hcs 21 [25, 65]
    (simt_ite
      (simt_go hcs (.s _ (.s _ (.s _ (.s _ (.s _ (.n _ .nil)))))) (fun _ => rfl))
      (simt_ite
        (simt_go hcs (.s _ (.s _ (.s _ (.s _ (.s _ (.n _ .nil)))))) (fun _ => rfl))
        (simt_bind fun o1 =>
          (simt_bind fun o2 =>
            (simt_ite
              (simt_go hcs (.s _ (.s _ (.s _ (.s _ (.s _ (.s _ .nil)))))) (fun _ => rfl))
              (simt_go hcs (.s _ (.s _ (.s _ (.s _ (.s _ (.s _ .nil)))))) (fun _ => rfl)))))))
  (fun _ => rfl))
theorem pfX6_partnerOf_b25_l (q : Nat) (hcs : CSm (csF q)) (a0 : Nat) (a1 : Int32) (a2 : Int32) (a4 : Int32) (s : Int32 × Int32) (m : MM) : SimK (loopF 1000 (fX6_partnerOf_b25 a0 a1 a2 a4) s m) (hfX6_partnerOf_b25 q a0 a1 a2 a4 s m) (kxfX6_partnerOf_b25 q a0 a1 a2 a4) :=
  simk_loopF (fun s m => pfX6_partnerOf_b25 q hcs a0 a1 a2 a4 s m) 1000 s m
noncomputable def hfX6_partnerOf_b7 (q : Nat) (a0 : Nat) (a1 : Int32) (s : Int32 × Int32 × Int32) (m : MM) (n : Nat) : Option Out := brun false (0, 0) (csF q) (lkb tX6_partnerOf) n 7 [some (aR 6 a0), some (aI a1), some (aI s.1), some (aI s.2.1), some (aI s.2.2), none] [] (ST0 q, m)
noncomputable def kxfX6_partnerOf_b7 (q : Nat) (a0 : Nat) (a1 : Int32) (y : (Int32) × MM) (n : Nat) : Option Out := brun false (0, 0) (csF q) (lkb tX6_partnerOf) n 82 [none, none, none, some (aI y.1), none, none] [] (ST0 q, y.2)
theorem pfX6_partnerOf_b7 (q : Nat) (hcs : CSm (csF q)) (a0 : Nat) (a1 : Int32) (s : Int32 × Int32 × Int32) (m : MM) : SimK (fX6_partnerOf_b7 a0 a1 s m) (hfX6_partnerOf_b7 q a0 a1 s m) (lpK (hfX6_partnerOf_b7 q a0 a1) (kxfX6_partnerOf_b7 q a0 a1)) :=
  (simk_run hcs 11 [25, 82]
    (simt_ite
      (simt_go hcs (.n _ (.n _ (.n _ (.s _ (.n _ (.n _ .nil)))))) (fun _ => rfl))
      (simt_ite
        (simt_go hcs (.n _ (.n _ (.n _ (.s _ (.n _ (.n _ .nil)))))) (fun _ => rfl))
        (simt_loop hcs (.s _ (.s _ (.s _ (.s _ (.s _ (.s _ .nil)))))) (pfX6_partnerOf_b25_l q hcs a0 a1 s.1 s.2.2 ((-1), 0) m) (fun o3 => 
          (simk_run hcs 12 [7]
            (simt_ite
              (simt_go hcs (.s _ (.s _ (.s _ (.s _ (.s _ (.n _ .nil)))))) (fun _ => rfl))
              (simt_go hcs (.s _ (.s _ (.s _ (.s _ (.s _ (.n _ .nil)))))) (fun _ => rfl)))
          (fun _ => rfl))))))
  (fun _ => rfl))
theorem pfX6_partnerOf_b7_l (q : Nat) (hcs : CSm (csF q)) (a0 : Nat) (a1 : Int32) (s : Int32 × Int32 × Int32) (m : MM) : SimK (loopF 1000 (fX6_partnerOf_b7 a0 a1) s m) (hfX6_partnerOf_b7 q a0 a1 s m) (kxfX6_partnerOf_b7 q a0 a1) :=
  simk_loopF (fun s m => pfX6_partnerOf_b7 q hcs a0 a1 s m) 1000 s m
theorem pfX6_partnerOf (q : Nat) (hcs : CSm (csF q)) (a0 : Nat) (a1 : Int32) (m : MM) : SimK (fX6_partnerOf_b a0 a1 m) (fun n => brun false (0, 0) (csF q) (lkb tX6_partnerOf) n 0 (entL 6 [aR 6 a0, aI a1]) [] (ST0 q, m)) (kt_X6_partnerOf q) :=
  (simk_run hcs 7 [7]
    (simt_loop hcs (.s _ (.s _ (.s _ (.s _ (.s _ (.n _ .nil)))))) (pfX6_partnerOf_b7_l q hcs a0 a1 (0, (-1), 0) m) (fun o4 => 
      (simk_run hcs 3 []
        (simt_ret (some (some (aI o4.1), (ST0 q, o4.2))) (fun _ => rfl))
      (fun _ => rfl))))
  (fun _ => rfl))
noncomputable def kt_X6_pairs (q : Nat) : Int32 × MM → Nat → Option Out := fun x _ => some (some (aI x.1), (ST0 q, x.2))
theorem pfX6_pairs_j27 (q : Nat) (hcs : CSm (csF q)) (a0 : Nat) (a1 : Int32) (a2 : Int32) (z0 : Int32) (m : MM) : SimK (fX6_pairs_j27 a0 a1 a2 z0 m) (fun n => brun false (0, 0) (csF q) (lkb tX6_pairs) n 27 [some (aR 6 a0), some (aI a1), some (aI a2), none, none, none] [aI z0] (ST0 q, m)) (kt_X6_pairs q) :=
  (simk_run hcs 39 []
    (simt_bind fun o1 =>
      (simt_ite
        (simt_bind fun o2 =>
          (simt_ret (some (some (aI o2.1), (ST0 q, o2.2))) (fun _ => rfl)))
        (simt_ite
          (simt_bind fun o3 =>
            (simt_bind fun o4 =>
              (simt_ite
                (simt_bind fun o5 =>
                  (simt_ite
                    (simt_ret (some (some (aI (((o5.1 + 1000) - 1) / 1000)), (ST0 q, o5.2))) (fun _ => rfl))
                    (simt_ret (some (some (aI (((((o5.1 + 1000) - 1) / 1000) * 1000) - o5.1)), (ST0 q, o5.2))) (fun _ => rfl))))
                (simt_bind fun o6 =>
                  (simt_ret (some (some (aI o6.1), (ST0 q, o6.2))) (fun _ => rfl))))))
          (simt_bind fun o7 =>
            (simt_ret (some (some (aI o7.1), (ST0 q, o7.2))) (fun _ => rfl))))))
  (fun _ => rfl))
theorem pfX6_pairs_j22 (q : Nat) (hcs : CSm (csF q)) (a0 : Nat) (a1 : Int32) (a2 : Int32) (m : MM) : SimK (fX6_pairs_j22 a0 a1 a2 m) (fun n => brun false (0, 0) (csF q) (lkb tX6_pairs) n 22 [some (aR 6 a0), some (aI a1), some (aI a2), none, none, none] [] (ST0 q, m)) (kt_X6_pairs q) :=
  (simk_run hcs 3 [27]
    (simt_join hcs (.s _ (.s _ (.s _ (.n _ (.n _ (.n _ .nil)))))) (pfX6_pairs_j27 q hcs a0 a1 a2 1 m))
  (fun _ => rfl))
theorem pfX6_pairs (q : Nat) (hcs : CSm (csF q)) (a0 : Nat) (a1 : Int32) (a2 : Int32) (m : MM) : SimK (fX6_pairs_b a0 a1 a2 m) (fun n => brun false (0, 0) (csF q) (lkb tX6_pairs) n 0 (entL 6 [aR 6 a0, aI a1, aI a2]) [] (ST0 q, m)) (kt_X6_pairs q) :=
  (simk_run hcs 13 [22, 27]
    (simt_ite
      (simt_join hcs (.s _ (.s _ (.s _ (.n _ (.n _ (.n _ .nil)))))) (pfX6_pairs_j22 q hcs a0 a1 a2 m))
      (simt_ite
        (simt_join hcs (.s _ (.s _ (.s _ (.n _ (.n _ (.n _ .nil)))))) (pfX6_pairs_j22 q hcs a0 a1 a2 m))
        (simt_bindO (fun o8 =>
          (simt_join hcs (.s _ (.s _ (.s _ (.n _ (.n _ (.n _ .nil)))))) (pfX6_pairs_j27 q hcs a0 a1 a2 0 o8.2))) (fun o8 i9 =>
          (simt_join hcs (.s _ (.s _ (.s _ (.n _ (.n _ (.n _ .nil)))))) (pfX6_pairs_j22 q hcs a0 a1 a2 o8.2))))))
  (fun _ => rfl))
noncomputable def kt_X6_mended (q : Nat) : Int32 × MM → Nat → Option Out := fun x _ => some (some (aI x.1), (ST0 q, x.2))
noncomputable def hfX6_mended_b139 (q : Nat) (a0 : Nat) (a2 : Int32) (a3 : Nat) (a4 : Int32) (a5 : Int32) (a8 : Int32) (a9 : Int32) (a10 : Int32) (s : Int32 × Int32 × Int32) (m : MM) (n : Nat) : Option Out := brun false (0, 0) (csF q) (lkb tX6_mended) n 139 [some (aR 6 a0), none, some (aI a2), some (aR 0 a3), some (aI a4), some (aI a5), some (aI s.1), some (aI s.2.1), some (aI a8), some (aI a9), some (aI a10), some (aI s.2.2), none] [] (ST0 q, m)
noncomputable def kxfX6_mended_b139 (q : Nat) (a0 : Nat) (a2 : Int32) (a3 : Nat) (a4 : Int32) (a5 : Int32) (a8 : Int32) (a9 : Int32) (a10 : Int32) (y : (Int32 × Int32) × MM) (n : Nat) : Option Out := brun false (0, 0) (csF q) (lkb tX6_mended) n 227 [some (aR 6 a0), none, some (aI a2), some (aR 0 a3), some (aI a4), some (aI a5), some (aI y.1.1), some (aI y.1.2), some (aI a8), none, some (aI a10), none, none] [] (ST0 q, y.2)
theorem pfX6_mended_j186 (q : Nat) (hcs : CSm (csF q)) (a0 : Nat) (a2 : Int32) (a3 : Nat) (a4 : Int32) (a5 : Int32) (a6 : Int32) (a7 : Int32) (a8 : Int32) (a9 : Int32) (a10 : Int32) (a11 : Int32) (z0 : Int32) (m : MM) : SimK (fX6_mended_j186 a0 a2 a3 a4 a5 a6 a7 a8 a9 a10 a11 z0 m) (fun n => brun false (0, 0) (csF q) (lkb tX6_mended) n 186 [some (aR 6 a0), none, some (aI a2), some (aR 0 a3), some (aI a4), some (aI a5), some (aI a6), some (aI a7), some (aI a8), some (aI a9), some (aI a10), some (aI a11), none] [aI z0] (ST0 q, m)) (lpK (hfX6_mended_b139 q a0 a2 a3 a4 a5 a8 a9 a10) (kxfX6_mended_b139 q a0 a2 a3 a4 a5 a8 a9 a10)) :=
  (simk_run hcs 21 [139]
    (simt_ite
      (simt_go hcs (.s _ (.n _ (.s _ (.s _ (.s _ (.s _ (.s _ (.s _ (.s _ (.s _ (.s _ (.s _ (.n _ .nil))))))))))))) (fun _ => rfl))
      (simt_ite
        (simt_go hcs (.s _ (.n _ (.s _ (.s _ (.s _ (.s _ (.s _ (.s _ (.s _ (.s _ (.s _ (.s _ (.n _ .nil))))))))))))) (fun _ => rfl))
        (simt_ite
          (simt_go hcs (.s _ (.n _ (.s _ (.s _ (.s _ (.s _ (.s _ (.s _ (.s _ (.s _ (.s _ (.s _ (.n _ .nil))))))))))))) (fun _ => rfl))
          (simt_go hcs (.s _ (.n _ (.s _ (.s _ (.s _ (.s _ (.s _ (.s _ (.s _ (.s _ (.s _ (.s _ (.n _ .nil))))))))))))) (fun _ => rfl)))))
  (fun _ => rfl))
theorem pfX6_mended_b139 (q : Nat) (hcs : CSm (csF q)) (a0 : Nat) (a2 : Int32) (a3 : Nat) (a4 : Int32) (a5 : Int32) (a8 : Int32) (a9 : Int32) (a10 : Int32) (s : Int32 × Int32 × Int32) (m : MM) : SimK (fX6_mended_b139 a0 a2 a3 a4 a5 a8 a9 a10 s m) (hfX6_mended_b139 q a0 a2 a3 a4 a5 a8 a9 a10 s m) (lpK (hfX6_mended_b139 q a0 a2 a3 a4 a5 a8 a9 a10) (kxfX6_mended_b139 q a0 a2 a3 a4 a5 a8 a9 a10)) :=
  (simk_run hcs 19 [186, 227]
    (simt_ite
      (simt_go hcs (.s _ (.n _ (.s _ (.s _ (.s _ (.s _ (.s _ (.s _ (.s _ (.n _ (.s _ (.n _ (.n _ .nil))))))))))))) (fun _ => rfl))
      (simt_bind fun o12 =>
        (simt_ite
          (simt_ite
            (simt_join hcs (.s _ (.n _ (.s _ (.s _ (.s _ (.s _ (.s _ (.s _ (.s _ (.s _ (.s _ (.s _ (.n _ .nil))))))))))))) (pfX6_mended_j186 q hcs a0 a2 a3 a4 a5 s.1 s.2.1 a8 a9 a10 s.2.2 a4 o12.2))
            (simt_bind fun o13 =>
              (simt_join hcs (.s _ (.n _ (.s _ (.s _ (.s _ (.s _ (.s _ (.s _ (.s _ (.s _ (.s _ (.s _ (.n _ .nil))))))))))))) (pfX6_mended_j186 q hcs a0 a2 a3 a4 a5 s.1 s.2.1 a8 a9 a10 s.2.2 o13.1 o13.2))))
          (simt_join hcs (.s _ (.n _ (.s _ (.s _ (.s _ (.s _ (.s _ (.s _ (.s _ (.s _ (.s _ (.s _ (.n _ .nil))))))))))))) (pfX6_mended_j186 q hcs a0 a2 a3 a4 a5 s.1 s.2.1 a8 a9 a10 s.2.2 (-1) o12.2)))))
  (fun _ => rfl))
theorem pfX6_mended_b139_l (q : Nat) (hcs : CSm (csF q)) (a0 : Nat) (a2 : Int32) (a3 : Nat) (a4 : Int32) (a5 : Int32) (a8 : Int32) (a9 : Int32) (a10 : Int32) (s : Int32 × Int32 × Int32) (m : MM) : SimK (loopF 1000 (fX6_mended_b139 a0 a2 a3 a4 a5 a8 a9 a10) s m) (hfX6_mended_b139 q a0 a2 a3 a4 a5 a8 a9 a10 s m) (kxfX6_mended_b139 q a0 a2 a3 a4 a5 a8 a9 a10) :=
  simk_loopF (fun s m => pfX6_mended_b139 q hcs a0 a2 a3 a4 a5 a8 a9 a10 s m) 1000 s m
noncomputable def hfX6_mended_b96 (q : Nat) (a0 : Nat) (a2 : Int32) (a3 : Nat) (a4 : Int32) (a5 : Int32) (s : Int32 × Int32 × Int32) (m : MM) (n : Nat) : Option Out := brun false (0, 0) (csF q) (lkb tX6_mended) n 96 [some (aR 6 a0), none, some (aI a2), some (aR 0 a3), some (aI a4), some (aI a5), some (aI s.1), some (aI s.2.1), some (aI s.2.2), none, none, none, none] [] (ST0 q, m)
noncomputable def kxfX6_mended_b96 (q : Nat) (a0 : Nat) (a2 : Int32) (a3 : Nat) (a4 : Int32) (a5 : Int32) (y : (Int32 × Int32) × MM) (n : Nat) : Option Out := brun false (0, 0) (csF q) (lkb tX6_mended) n 244 [none, none, some (aI a2), none, none, none, some (aI y.1.1), some (aI y.1.2), none, none, none, none, none] [] (ST0 q, y.2)
theorem pfX6_mended_j123 (q : Nat) (hcs : CSm (csF q)) (a0 : Nat) (a2 : Int32) (a3 : Nat) (a4 : Int32) (a5 : Int32) (a6 : Int32) (a7 : Int32) (a8 : Int32) (z0 : Int32) (m : MM) : SimK (fX6_mended_j123 a0 a2 a3 a4 a5 a6 a7 a8 z0 m) (fun n => brun false (0, 0) (csF q) (lkb tX6_mended) n 123 [some (aR 6 a0), none, some (aI a2), some (aR 0 a3), some (aI a4), some (aI a5), some (aI a6), some (aI a7), some (aI a8), none, none, none, none] [aI z0] (ST0 q, m)) (lpK (hfX6_mended_b96 q a0 a2 a3 a4 a5) (kxfX6_mended_b96 q a0 a2 a3 a4 a5)) :=
  (simk_run hcs 9 [139]
    (simt_bind fun o11 =>
      (simt_loop hcs (.s _ (.n _ (.s _ (.s _ (.s _ (.s _ (.s _ (.s _ (.s _ (.s _ (.s _ (.s _ (.n _ .nil))))))))))))) (pfX6_mended_b139_l q hcs a0 a2 a3 a4 a5 a8 z0 o11.1 (a6, a7, 0) o11.2) (fun o14 => 
        (simk_run hcs 8 [96]
          (simt_bind fun o15 =>
            (simt_go hcs (.s _ (.n _ (.s _ (.s _ (.s _ (.s _ (.s _ (.s _ (.s _ (.n _ (.n _ (.n _ (.n _ .nil))))))))))))) (fun _ => rfl)))
        (fun _ => rfl)))))
  (fun _ => rfl))
theorem pfX6_mended_b96 (q : Nat) (hcs : CSm (csF q)) (a0 : Nat) (a2 : Int32) (a3 : Nat) (a4 : Int32) (a5 : Int32) (s : Int32 × Int32 × Int32) (m : MM) : SimK (fX6_mended_b96 a0 a2 a3 a4 a5 s m) (hfX6_mended_b96 q a0 a2 a3 a4 a5 s m) (lpK (hfX6_mended_b96 q a0 a2 a3 a4 a5) (kxfX6_mended_b96 q a0 a2 a3 a4 a5)) :=
  (simk_run hcs 14 [123, 244]
    (simt_ite
      (simt_go hcs (.n _ (.n _ (.s _ (.n _ (.n _ (.n _ (.s _ (.s _ (.n _ (.n _ (.n _ (.n _ (.n _ .nil))))))))))))) (fun _ => rfl))
      (simt_ite
        (simt_join hcs (.s _ (.n _ (.s _ (.s _ (.s _ (.s _ (.s _ (.s _ (.s _ (.n _ (.n _ (.n _ (.n _ .nil))))))))))))) (pfX6_mended_j123 q hcs a0 a2 a3 a4 a5 s.1 s.2.1 s.2.2 0 m))
        (simt_join hcs (.s _ (.n _ (.s _ (.s _ (.s _ (.s _ (.s _ (.s _ (.s _ (.n _ (.n _ (.n _ (.n _ .nil))))))))))))) (pfX6_mended_j123 q hcs a0 a2 a3 a4 a5 s.1 s.2.1 s.2.2 1 m))))
  (fun _ => rfl))
theorem pfX6_mended_b96_l (q : Nat) (hcs : CSm (csF q)) (a0 : Nat) (a2 : Int32) (a3 : Nat) (a4 : Int32) (a5 : Int32) (s : Int32 × Int32 × Int32) (m : MM) : SimK (loopF 1000 (fX6_mended_b96 a0 a2 a3 a4 a5) s m) (hfX6_mended_b96 q a0 a2 a3 a4 a5 s m) (kxfX6_mended_b96 q a0 a2 a3 a4 a5) :=
  simk_loopF (fun s m => pfX6_mended_b96 q hcs a0 a2 a3 a4 a5 s m) 1000 s m
theorem pfX6_mended (q : Nat) (hcs : CSm (csF q)) (a0 : Nat) (a1 : Int32) (a2 : Int32) (m : MM) : SimK (fX6_mended_b a0 a1 a2 m) (fun n => brun false (0, 0) (csF q) (lkb tX6_mended) n 0 (entL 13 [aR 6 a0, aI a1, aI a2]) [] (ST0 q, m)) (kt_X6_mended q) :=
  (simk_run hcs 46 [96]
    (simt_bindO (fun o1 =>
      (simt_bind fun o3 =>
        (simt_ret (some (some (aI o3.1), (ST0 q, o3.2))) (fun _ => rfl)))) (fun o1 i2 =>
      (simt_bind fun o4 =>
        (simt_ite
          (simt_bind fun o5 =>
            (simt_bindO (fun o6 =>
              (simt_bind fun o8 =>
                (simt_bind fun o9 =>
                  (simt_bind fun o10 =>
                    (simt_loop hcs (.s _ (.n _ (.s _ (.s _ (.s _ (.s _ (.s _ (.s _ (.s _ (.n _ (.n _ (.n _ (.n _ .nil))))))))))))) (pfX6_mended_b96_l q hcs a0 a2 i2 o5.1 o9.1 ((-1), (-1), 0) o10.2) (fun o16 => 
                      (simk_run hcs 6 []
                        (simt_ite
                          (simt_ret (some (some (aI o16.1.2), (ST0 q, o16.2))) (fun _ => rfl))
                          (simt_ret (some (some (aI o16.1.1), (ST0 q, o16.2))) (fun _ => rfl)))
                      (fun _ => rfl)))))))) (fun o6 i7 =>
              (simt_bind fun o17 =>
                (simt_bind fun o18 =>
                  (simt_bind fun o19 =>
                    (simt_loop hcs (.s _ (.n _ (.s _ (.s _ (.s _ (.s _ (.s _ (.s _ (.s _ (.n _ (.n _ (.n _ (.n _ .nil))))))))))))) (pfX6_mended_b96_l q hcs a0 a2 i2 o5.1 o18.1 ((-1), (-1), 0) o19.2) (fun o20 => 
                      (simk_run hcs 6 []
                        (simt_ite
                          (simt_ret (some (some (aI o20.1.2), (ST0 q, o20.2))) (fun _ => rfl))
                          (simt_ret (some (some (aI o20.1.1), (ST0 q, o20.2))) (fun _ => rfl)))
                      (fun _ => rfl))))))))))
          (simt_bind fun o21 =>
            (simt_ret (some (some (aI o21.1), (ST0 q, o21.2))) (fun _ => rfl)))))))
  (fun _ => rfl))
noncomputable def kt_X6_endsBy (q : Nat) : Int32 × MM → Nat → Option Out := fun x _ => some (some (aI x.1), (ST0 q, x.2))
noncomputable def hfX6_endsBy_b46 (q : Nat) (a0 : Nat) (a2 : Int32) (s : Int32 × Int32) (m : MM) (n : Nat) : Option Out := brun false (0, 0) (csF q) (lkb tX6_endsBy) n 46 [some (aR 6 a0), none, some (aI a2), none, none, some (aI s.1), some (aI s.2)] [] (ST0 q, m)
noncomputable def kxfX6_endsBy_b46 (q : Nat) (a0 : Nat) (a2 : Int32) (y : (Unit) × MM) (n : Nat) : Option Out := brun false (0, 0) (csF q) (lkb tX6_endsBy) n 116 [some (aR 6 a0), none, none, none, none, none, none] [] (ST0 q, y.2)
theorem pfX6_endsBy_b46 (q : Nat) (hcs : CSm (csF q)) (a0 : Nat) (a2 : Int32) (s : Int32 × Int32) (m : MM) : SimK (fX6_endsBy_b46 a0 a2 s m) (hfX6_endsBy_b46 q a0 a2 s m) (lpK (hfX6_endsBy_b46 q a0 a2) (kxfX6_endsBy_b46 q a0 a2)) :=
  (simk_run hcs 34 [46, 116]
    (simt_ite
      (simt_go hcs (.s _ (.n _ (.n _ (.n _ (.n _ (.n _ (.n _ .nil))))))) (fun _ => rfl))
      (simt_bind fun o5 =>
        (simt_bind fun o6 =>
          (simt_bind fun o7 =>
            (simt_go hcs (.s _ (.n _ (.s _ (.n _ (.n _ (.s _ (.s _ .nil))))))) (fun _ => rfl))))))
  (fun _ => rfl))
theorem pfX6_endsBy_b46_l (q : Nat) (hcs : CSm (csF q)) (a0 : Nat) (a2 : Int32) (s : Int32 × Int32) (m : MM) : SimK (loopF 1000 (fX6_endsBy_b46 a0 a2) s m) (hfX6_endsBy_b46 q a0 a2 s m) (kxfX6_endsBy_b46 q a0 a2) :=
  simk_loopF (fun s m => pfX6_endsBy_b46 q hcs a0 a2 s m) 1000 s m
theorem pfX6_endsBy (q : Nat) (hcs : CSm (csF q)) (a0 : Nat) (a1 : Nat) (a2 : Int32) (a3 : Int32) (m : MM) : SimK (fX6_endsBy_b a0 a1 a2 a3 m) (fun n => brun false (0, 0) (csF q) (lkb tX6_endsBy) n 0 (entL 7 [aR 6 a0, aR 0 a1, aI a2, aI a3]) [] (ST0 q, m)) (kt_X6_endsBy q) :=
  (simk_run hcs 21 [46]
    (simt_bindO (fun o1 =>
      (simt_ret (some (some (aI (o1.2.1 0 a1 4)), (ST0 q, o1.2))) (fun _ => rfl))) (fun o1 i2 =>
      (simt_bind fun o3 =>
        (simt_bind fun o4 =>
          (simt_loop hcs (.s _ (.n _ (.s _ (.n _ (.n _ (.s _ (.s _ .nil))))))) (pfX6_endsBy_b46_l q hcs a0 a2 (a3, 0) o4.2) (fun o8 => 
            (simk_run hcs 5 []
              (simt_ret (some (some (aI (o8.2.1 0 27 4)), (ST0 q, o8.2))) (fun _ => rfl))
            (fun _ => rfl))))))))
  (fun _ => rfl))
noncomputable def kt_X6_odds (q : Nat) : Int32 × MM → Nat → Option Out := fun x _ => some (some (aI x.1), (ST0 q, x.2))
noncomputable def hfX6_odds_b58 (q : Nat) (a0 : Nat) (a2 : Int32) (a4 : Nat) (a5 : Int32) (s : Int32 × Int32) (m : MM) (n : Nat) : Option Out := brun false (0, 0) (csF q) (lkb tX6_odds) n 58 [some (aR 6 a0), none, some (aI a2), none, some (aR 0 a4), some (aI a5), some (aI s.1), some (aI s.2), none] [] (ST0 q, m)
noncomputable def kxfX6_odds_b58 (q : Nat) (a0 : Nat) (a2 : Int32) (a4 : Nat) (a5 : Int32) (y : (Int32) × MM) (n : Nat) : Option Out := brun false (0, 0) (csF q) (lkb tX6_odds) n 76 [some (aR 6 a0), none, some (aI a2), none, some (aR 0 a4), some (aI a5), some (aI y.1), none, none] [] (ST0 q, y.2)
theorem pfX6_odds_b58 (q : Nat) (hcs : CSm (csF q)) (a0 : Nat) (a2 : Int32) (a4 : Nat) (a5 : Int32) (s : Int32 × Int32) (m : MM) : SimK (fX6_odds_b58 a0 a2 a4 a5 s m) (hfX6_odds_b58 q a0 a2 a4 a5 s m) (lpK (hfX6_odds_b58 q a0 a2 a4 a5) (kxfX6_odds_b58 q a0 a2 a4 a5)) :=
  (simk_run hcs 10 [58, 76]
    (simt_ite
      (simt_go hcs (.s _ (.n _ (.s _ (.n _ (.s _ (.s _ (.s _ (.n _ (.n _ .nil))))))))) (fun _ => rfl))
      (simt_go hcs (.s _ (.n _ (.s _ (.n _ (.s _ (.s _ (.s _ (.s _ (.n _ .nil))))))))) (fun _ => rfl)))
  (fun _ => rfl))
theorem pfX6_odds_b58_l (q : Nat) (hcs : CSm (csF q)) (a0 : Nat) (a2 : Int32) (a4 : Nat) (a5 : Int32) (s : Int32 × Int32) (m : MM) : SimK (loopF 1000 (fX6_odds_b58 a0 a2 a4 a5) s m) (hfX6_odds_b58 q a0 a2 a4 a5 s m) (kxfX6_odds_b58 q a0 a2 a4 a5) :=
  simk_loopF (fun s m => pfX6_odds_b58 q hcs a0 a2 a4 a5 s m) 1000 s m
noncomputable def hfX6_odds_b93 (q : Nat) (a0 : Nat) (a2 : Int32) (a4 : Nat) (a5 : Int32) (a6 : Int32) (s : Int32 × Int32) (m : MM) (n : Nat) : Option Out := brun false (0, 0) (csF q) (lkb tX6_odds) n 93 [some (aR 6 a0), none, some (aI a2), none, some (aR 0 a4), some (aI a5), some (aI a6), some (aI s.1), some (aI s.2)] [] (ST0 q, m)
noncomputable def kxfX6_odds_b93 (q : Nat) (a0 : Nat) (a2 : Int32) (a4 : Nat) (a5 : Int32) (a6 : Int32) (y : (Int32) × MM) (n : Nat) : Option Out := brun false (0, 0) (csF q) (lkb tX6_odds) n 123 [none, none, none, none, none, none, some (aI a6), some (aI y.1), none] [] (ST0 q, y.2)
theorem pfX6_odds_b93 (q : Nat) (hcs : CSm (csF q)) (a0 : Nat) (a2 : Int32) (a4 : Nat) (a5 : Int32) (a6 : Int32) (s : Int32 × Int32) (m : MM) : SimK (fX6_odds_b93 a0 a2 a4 a5 a6 s m) (hfX6_odds_b93 q a0 a2 a4 a5 a6 s m) (lpK (hfX6_odds_b93 q a0 a2 a4 a5 a6) (kxfX6_odds_b93 q a0 a2 a4 a5 a6)) :=
  (simk_run hcs 14 [93, 123]
    (simt_ite
      (simt_go hcs (.n _ (.n _ (.n _ (.n _ (.n _ (.n _ (.s _ (.s _ (.n _ .nil))))))))) (fun _ => rfl))
      (simt_bind fun o9 =>
        (simt_ite
          (simt_go hcs (.s _ (.n _ (.s _ (.n _ (.s _ (.s _ (.s _ (.s _ (.s _ .nil))))))))) (fun _ => rfl))
          (simt_go hcs (.s _ (.n _ (.s _ (.n _ (.s _ (.s _ (.s _ (.s _ (.s _ .nil))))))))) (fun _ => rfl)))))
  (fun _ => rfl))
theorem pfX6_odds_b93_l (q : Nat) (hcs : CSm (csF q)) (a0 : Nat) (a2 : Int32) (a4 : Nat) (a5 : Int32) (a6 : Int32) (s : Int32 × Int32) (m : MM) : SimK (loopF 1000 (fX6_odds_b93 a0 a2 a4 a5 a6) s m) (hfX6_odds_b93 q a0 a2 a4 a5 a6 s m) (kxfX6_odds_b93 q a0 a2 a4 a5 a6) :=
  simk_loopF (fun s m => pfX6_odds_b93 q hcs a0 a2 a4 a5 a6 s m) 1000 s m
theorem pfX6_odds_j50 (q : Nat) (hcs : CSm (csF q)) (a0 : Nat) (a2 : Int32) (a4 : Nat) (z0 : Int32) (m : MM) : SimK (fX6_odds_j50 a0 a2 a4 z0 m) (fun n => brun false (0, 0) (csF q) (lkb tX6_odds) n 50 [some (aR 6 a0), none, some (aI a2), none, some (aR 0 a4), none, none, none, none] [aI z0] (ST0 q, m)) (kt_X6_odds q) :=
  (simk_run hcs 6 [58]
    (simt_loop hcs (.s _ (.n _ (.s _ (.n _ (.s _ (.s _ (.s _ (.s _ (.n _ .nil))))))))) (pfX6_odds_b58_l q hcs a0 a2 a4 z0 (1, 0) m) (fun o7 => 
      (simk_run hcs 10 [93]
        (simt_bind fun o8 =>
          (simt_loop hcs (.s _ (.n _ (.s _ (.n _ (.s _ (.s _ (.s _ (.s _ (.s _ .nil))))))))) (pfX6_odds_b93_l q hcs a0 a2 a4 z0 o7.1 (0, 0) o8.2) (fun o10 => 
            (simk_run hcs 9 []
              (simt_ite
                (simt_ite
                  simt_none
                  (simt_ret (some (some (aI ((o10.1 * 1000000) / o7.1)), (ST0 q, o10.2))) (fun _ => rfl)))
                (simt_ret (some (some (aI 0), (ST0 q, o10.2))) (fun _ => rfl)))
            (fun _ => rfl)))))
      (fun _ => rfl))))
  (fun _ => rfl))
theorem pfX6_odds (q : Nat) (hcs : CSm (csF q)) (a0 : Nat) (a1 : Int32) (a2 : Int32) (a3 : Int32) (m : MM) : SimK (fX6_odds_b a0 a1 a2 a3 m) (fun n => brun false (0, 0) (csF q) (lkb tX6_odds) n 0 (entL 9 [aR 6 a0, aI a1, aI a2, aI a3]) [] (ST0 q, m)) (kt_X6_odds q) :=
  (simk_run hcs 22 [50]
    (simt_bindO (fun o1 =>
      (simt_bind fun o3 =>
        (simt_ret (some (some (aI o3.1), (ST0 q, o3.2))) (fun _ => rfl)))) (fun o1 i2 =>
      (simt_bind fun o4 =>
        (simt_ite
          (simt_bind fun o5 =>
            (simt_ret (some (some (aI o5.1), (ST0 q, o5.2))) (fun _ => rfl)))
          (simt_bind fun o6 =>
            (simt_ite
              (simt_ite
                (simt_join hcs (.s _ (.n _ (.s _ (.n _ (.s _ (.n _ (.n _ (.n _ (.n _ .nil))))))))) (pfX6_odds_j50 q hcs a0 a2 i2 2 o6.2))
                (simt_join hcs (.s _ (.n _ (.s _ (.n _ (.s _ (.n _ (.n _ (.n _ (.n _ .nil))))))))) (pfX6_odds_j50 q hcs a0 a2 i2 1 o6.2)))
              (simt_bind fun o11 =>
                (simt_ret (some (some (aI o11.1), (ST0 q, o11.2))) (fun _ => rfl)))))))))
  (fun _ => rfl))
noncomputable def kt_X6_windFor (q : Nat) : Int32 × MM → Nat → Option Out := fun x _ => some (some (aI x.1), (ST0 q, x.2))
noncomputable def hfX6_windFor_b40 (q : Nat) (a0 : Nat) (a2 : Nat) (s : Int32 × Int32 × Int32) (m : MM) (n : Nat) : Option Out := brun false (0, 0) (csF q) (lkb tX6_windFor) n 40 [some (aR 6 a0), none, some (aR 0 a2), some (aI s.1), some (aI s.2.1), some (aI s.2.2), none] [] (ST0 q, m)
noncomputable def kxfX6_windFor_b40 (q : Nat) (a0 : Nat) (a2 : Nat) (y : (Int32) × MM) (n : Nat) : Option Out := brun false (0, 0) (csF q) (lkb tX6_windFor) n 97 [none, none, none, some (aI y.1), none, none, none] [] (ST0 q, y.2)
theorem pfX6_windFor_b40 (q : Nat) (hcs : CSm (csF q)) (a0 : Nat) (a2 : Nat) (s : Int32 × Int32 × Int32) (m : MM) : SimK (fX6_windFor_b40 a0 a2 s m) (hfX6_windFor_b40 q a0 a2 s m) (lpK (hfX6_windFor_b40 q a0 a2) (kxfX6_windFor_b40 q a0 a2)) :=
  (simk_run hcs 28 [40, 97]
    (simt_ite
      (simt_go hcs (.n _ (.n _ (.n _ (.s _ (.n _ (.n _ (.n _ .nil))))))) (fun _ => rfl))
      (simt_bind fun o5 =>
        (simt_ite
          (simt_go hcs (.s _ (.n _ (.s _ (.s _ (.s _ (.s _ (.n _ .nil))))))) (fun _ => rfl))
          (simt_ite
            (simt_go hcs (.s _ (.n _ (.s _ (.s _ (.s _ (.s _ (.n _ .nil))))))) (fun _ => rfl))
            (simt_ite
              (simt_go hcs (.s _ (.n _ (.s _ (.s _ (.s _ (.s _ (.n _ .nil))))))) (fun _ => rfl))
              (simt_go hcs (.s _ (.n _ (.s _ (.s _ (.s _ (.s _ (.n _ .nil))))))) (fun _ => rfl)))))))
  (fun _ => rfl))
theorem pfX6_windFor_b40_l (q : Nat) (hcs : CSm (csF q)) (a0 : Nat) (a2 : Nat) (s : Int32 × Int32 × Int32) (m : MM) : SimK (loopF 1000 (fX6_windFor_b40 a0 a2) s m) (hfX6_windFor_b40 q a0 a2 s m) (kxfX6_windFor_b40 q a0 a2) :=
  simk_loopF (fun s m => pfX6_windFor_b40 q hcs a0 a2 s m) 1000 s m
theorem pfX6_windFor (q : Nat) (hcs : CSm (csF q)) (a0 : Nat) (a1 : Int32) (m : MM) : SimK (fX6_windFor_b a0 a1 m) (fun n => brun false (0, 0) (csF q) (lkb tX6_windFor) n 0 (entL 7 [aR 6 a0, aI a1]) [] (ST0 q, m)) (kt_X6_windFor q) :=
  (simk_run hcs 19 [40]
    (simt_bindO (fun o1 =>
      (simt_bind fun o3 =>
        (simt_ret (some (some (aI o3.1), (ST0 q, o3.2))) (fun _ => rfl)))) (fun o1 i2 =>
      (simt_bind fun o4 =>
        (simt_loop hcs (.s _ (.n _ (.s _ (.s _ (.s _ (.s _ (.n _ .nil))))))) (pfX6_windFor_b40_l q hcs a0 i2 ((-1), (-1), 0) o4.2) (fun o6 => 
          (simk_run hcs 3 []
            (simt_ret (some (some (aI o6.1), (ST0 q, o6.2))) (fun _ => rfl))
          (fun _ => rfl)))))))
  (fun _ => rfl))
noncomputable def kt_X6_bestWind (q : Nat) : Int32 × MM → Nat → Option Out := fun x _ => some (some (aI x.1), (ST0 q, x.2))
noncomputable def hfX6_bestWind_b46 (q : Nat) (a0 : Nat) (a1 : Int32) (a2 : Int32) (s : Int32 × Int32 × Int32) (m : MM) (n : Nat) : Option Out := brun false (0, 0) (csF q) (lkb tX6_bestWind) n 46 [some (aR 6 a0), some (aI a1), some (aI a2), some (aI s.1), some (aI s.2.1), some (aI s.2.2), none] [] (ST0 q, m)
noncomputable def kxfX6_bestWind_b46 (q : Nat) (a0 : Nat) (a1 : Int32) (a2 : Int32) (y : (Int32 × Int32) × MM) (n : Nat) : Option Out := brun false (0, 0) (csF q) (lkb tX6_bestWind) n 91 [none, none, some (aI a2), some (aI y.1.1), some (aI y.1.2), none, none] [] (ST0 q, y.2)
theorem pfX6_bestWind_b46 (q : Nat) (hcs : CSm (csF q)) (a0 : Nat) (a1 : Int32) (a2 : Int32) (s : Int32 × Int32 × Int32) (m : MM) : SimK (fX6_bestWind_b46 a0 a1 a2 s m) (hfX6_bestWind_b46 q a0 a1 a2 s m) (lpK (hfX6_bestWind_b46 q a0 a1 a2) (kxfX6_bestWind_b46 q a0 a1 a2)) :=
  (simk_run hcs 22 [46, 91]
    (simt_ite
      (simt_go hcs (.n _ (.n _ (.s _ (.s _ (.s _ (.n _ (.n _ .nil))))))) (fun _ => rfl))
      (simt_bind fun o5 =>
        (simt_ite
          (simt_go hcs (.s _ (.s _ (.s _ (.s _ (.s _ (.s _ (.n _ .nil))))))) (fun _ => rfl))
          (simt_go hcs (.s _ (.s _ (.s _ (.s _ (.s _ (.s _ (.n _ .nil))))))) (fun _ => rfl)))))
  (fun _ => rfl))
theorem pfX6_bestWind_b46_l (q : Nat) (hcs : CSm (csF q)) (a0 : Nat) (a1 : Int32) (a2 : Int32) (s : Int32 × Int32 × Int32) (m : MM) : SimK (loopF 1000 (fX6_bestWind_b46 a0 a1 a2) s m) (hfX6_bestWind_b46 q a0 a1 a2 s m) (kxfX6_bestWind_b46 q a0 a1 a2) :=
  simk_loopF (fun s m => pfX6_bestWind_b46 q hcs a0 a1 a2 s m) 1000 s m
theorem pfX6_bestWind (q : Nat) (hcs : CSm (csF q)) (a0 : Nat) (a1 : Int32) (a2 : Int32) (m : MM) : SimK (fX6_bestWind_b a0 a1 a2 m) (fun n => brun false (0, 0) (csF q) (lkb tX6_bestWind) n 0 (entL 7 [aR 6 a0, aI a1, aI a2]) [] (ST0 q, m)) (kt_X6_bestWind q) :=
  (simk_run hcs 22 [46]
    (simt_bind fun o1 =>
      (simt_ite
        (simt_bind fun o2 =>
          (simt_ret (some (some (aI o2.1), (ST0 q, o2.2))) (fun _ => rfl)))
        (simt_bind fun o3 =>
          (simt_ite
            (simt_bind fun o4 =>
              (simt_loop hcs (.s _ (.s _ (.s _ (.s _ (.s _ (.s _ (.n _ .nil))))))) (pfX6_bestWind_b46_l q hcs a0 a1 a2 (0, (-1), 0) o4.2) (fun o6 => 
                (simk_run hcs 6 []
                  (simt_ite
                    (simt_ret (some (some (aI o6.1.2), (ST0 q, o6.2))) (fun _ => rfl))
                    (simt_ret (some (some (aI o6.1.1), (ST0 q, o6.2))) (fun _ => rfl)))
                (fun _ => rfl)))))
            (simt_bind fun o7 =>
              (simt_ret (some (some (aI o7.1), (ST0 q, o7.2))) (fun _ => rfl)))))))
  (fun _ => rfl))
noncomputable def kt_X6_who (q : Nat) : Int32 × MM → Nat → Option Out := fun x _ => some (some (aI x.1), (ST0 q, x.2))
noncomputable def hfX6_who_b21 (q : Nat) (a0 : Nat) (a1 : Int32) (s : Int32 × Int32) (m : MM) (n : Nat) : Option Out := brun false (0, 0) (csF q) (lkb tX6_who) n 21 [some (aR 6 a0), some (aI a1), some (aI s.1), some (aI s.2), none, none] [] (ST0 q, m)
noncomputable def kxfX6_who_b21 (q : Nat) (a0 : Nat) (a1 : Int32) (y : (Int32) × MM) (n : Nat) : Option Out := brun false (0, 0) (csF q) (lkb tX6_who) n 117 [none, none, some (aI y.1), none, none, none] [] (ST0 q, y.2)
theorem pfX6_who_b21 (q : Nat) (hcs : CSm (csF q)) (a0 : Nat) (a1 : Int32) (s : Int32 × Int32) (m : MM) : SimK (fX6_who_b21 a0 a1 s m) (hfX6_who_b21 q a0 a1 s m) (lpK (hfX6_who_b21 q a0 a1) (kxfX6_who_b21 q a0 a1)) :=
  (simk_run hcs 38 [21, 117]
    (simt_ite
      (simt_go hcs (.n _ (.n _ (.s _ (.n _ (.n _ (.n _ .nil)))))) (fun _ => rfl))
      (simt_bindO (fun o2 =>
        (simt_go hcs (.s _ (.s _ (.s _ (.s _ (.n _ (.n _ .nil)))))) (fun _ => rfl))) (fun o2 i3 =>
        (simt_ite
          (simt_ite
            (simt_go hcs (.s _ (.s _ (.s _ (.s _ (.n _ (.n _ .nil)))))) (fun _ => rfl))
            (simt_go hcs (.s _ (.s _ (.s _ (.s _ (.n _ (.n _ .nil)))))) (fun _ => rfl)))
          (simt_ite
            (simt_go hcs (.s _ (.s _ (.s _ (.s _ (.n _ (.n _ .nil)))))) (fun _ => rfl))
            (simt_bind fun o4 =>
              (simt_ite
                (simt_go hcs (.s _ (.s _ (.s _ (.s _ (.n _ (.n _ .nil)))))) (fun _ => rfl))
                (simt_go hcs (.s _ (.s _ (.s _ (.s _ (.n _ (.n _ .nil)))))) (fun _ => rfl)))))))))
  (fun _ => rfl))
theorem pfX6_who_b21_l (q : Nat) (hcs : CSm (csF q)) (a0 : Nat) (a1 : Int32) (s : Int32 × Int32) (m : MM) : SimK (loopF 1000 (fX6_who_b21 a0 a1) s m) (hfX6_who_b21 q a0 a1 s m) (kxfX6_who_b21 q a0 a1) :=
  simk_loopF (fun s m => pfX6_who_b21 q hcs a0 a1 s m) 1000 s m
theorem pfX6_who (q : Nat) (hcs : CSm (csF q)) (a0 : Nat) (a1 : Int32) (m : MM) : SimK (fX6_who_b a0 a1 m) (fun n => brun false (0, 0) (csF q) (lkb tX6_who) n 0 (entL 6 [aR 6 a0, aI a1]) [] (ST0 q, m)) (kt_X6_who q) :=
  (simk_run hcs 10 [21]
    (simt_bind fun o1 =>
      (simt_ite
        (simt_loop hcs (.s _ (.s _ (.s _ (.s _ (.n _ (.n _ .nil)))))) (pfX6_who_b21_l q hcs a0 a1 (0, 0) o1.2) (fun o5 => 
          (simk_run hcs 3 []
            (simt_ret (some (some (aI o5.1), (ST0 q, o5.2))) (fun _ => rfl))
          (fun _ => rfl))))
        (simt_bind fun o6 =>
          (simt_ret (some (some (aI o6.1), (ST0 q, o6.2))) (fun _ => rfl)))))
  (fun _ => rfl))
noncomputable def kt_X6_there (q : Nat) : Int32 × MM → Nat → Option Out := fun x _ => some (some (aI x.1), (ST0 q, x.2))
theorem pfX6_there (q : Nat) (hcs : CSm (csF q)) (a0 : Nat) (a1 : Int32) (a2 : Int32) (m : MM) : SimK (fX6_there_b a0 a1 a2 m) (fun n => brun false (0, 0) (csF q) (lkb tX6_there) n 0 (entL 3 [aR 6 a0, aI a1, aI a2]) [] (ST0 q, m)) (kt_X6_there q) :=
  (simk_run hcs 19 []
    (simt_bind fun o1 =>
      (simt_ite
        (simt_bind fun o2 =>
          (simt_ret (some (some (aI o2.1), (ST0 q, o2.2))) (fun _ => rfl)))
        (simt_bind fun o3 =>
          (simt_ite
            (simt_ite
              (simt_bind fun o4 =>
                (simt_ret (some (some (aI o4.1), (ST0 q, o4.2))) (fun _ => rfl)))
              (simt_bind fun o5 =>
                (simt_ret (some (some (aI o5.1), (ST0 q, o5.2))) (fun _ => rfl))))
            (simt_bind fun o6 =>
              (simt_ret (some (some (aI o6.1), (ST0 q, o6.2))) (fun _ => rfl)))))))
  (fun _ => rfl))
noncomputable def kt_X6_settles (q : Nat) : Int32 × MM → Nat → Option Out := fun x _ => some (some (aI x.1), (ST0 q, x.2))
noncomputable def hfX6_settles_b50 (q : Nat) (a0 : Nat) (s : Int32 × Int32) (m : MM) (n : Nat) : Option Out := brun false (0, 0) (csF q) (lkb tX6_settles) n 50 [some (aR 6 a0), none, none, some (aI s.1), some (aI s.2), none] [] (ST0 q, m)
noncomputable def kxfX6_settles_b50 (q : Nat) (a0 : Nat) (y : ((Unit) ⊕ ((Int32) ⊕ (Unit))) × MM) (n : Nat) : Option Out := match y.1 with
  | Sum.inl x => brun false (0, 0) (csF q) (lkb tX6_settles) n 106 [none, none, none, none, none, none] [] (ST0 q, y.2)
  | Sum.inr (Sum.inl x) => brun false (0, 0) (csF q) (lkb tX6_settles) n 92 [none, none, none, none, some (aI x), none] [] (ST0 q, y.2)
  | Sum.inr (Sum.inr x) => brun false (0, 0) (csF q) (lkb tX6_settles) n 83 [none, none, none, none, none, none] [] (ST0 q, y.2)
theorem pfX6_settles_b50 (q : Nat) (hcs : CSm (csF q)) (a0 : Nat) (s : Int32 × Int32) (m : MM) : SimK (fX6_settles_b50 a0 s m) (hfX6_settles_b50 q a0 s m) (lpK (hfX6_settles_b50 q a0) (kxfX6_settles_b50 q a0)) :=
  (simk_run hcs 27 [50, 83, 92, 106]
    (simt_ite
      (simt_go hcs (.n _ (.n _ (.n _ (.n _ (.n _ (.n _ .nil)))))) (fun _ => rfl))
      (simt_bind fun o6 =>
        (simt_bind fun o7 =>
          (simt_ite
            (simt_ite
              (simt_go hcs (.s _ (.n _ (.n _ (.s _ (.s _ (.n _ .nil)))))) (fun _ => rfl))
              (simt_go hcs (.n _ (.n _ (.n _ (.n _ (.s _ (.n _ .nil)))))) (fun _ => rfl)))
            (simt_go hcs (.n _ (.n _ (.n _ (.n _ (.n _ (.n _ .nil)))))) (fun _ => rfl))))))
  (fun _ => rfl))
theorem pfX6_settles_b50_l (q : Nat) (hcs : CSm (csF q)) (a0 : Nat) (s : Int32 × Int32) (m : MM) : SimK (loopF 1000 (fX6_settles_b50 a0) s m) (hfX6_settles_b50 q a0 s m) (kxfX6_settles_b50 q a0) :=
  simk_loopF (fun s m => pfX6_settles_b50 q hcs a0 s m) 1000 s m
theorem pfX6_settles (q : Nat) (hcs : CSm (csF q)) (a0 : Nat) (a1 : Int32) (m : MM) : SimK (fX6_settles_b a0 a1 m) (fun n => brun false (0, 0) (csF q) (lkb tX6_settles) n 0 (entL 6 [aR 6 a0, aI a1]) [] (ST0 q, m)) (kt_X6_settles q) :=
  (simk_run hcs 25 [50]
    (simt_bindO (fun o1 =>
      (simt_bind fun o3 =>
        (simt_ret (some (some (aI o3.1), (ST0 q, o3.2))) (fun _ => rfl)))) (fun o1 i2 =>
      (simt_bind fun o4 =>
        (simt_bind fun o5 =>
          (simt_loop hcs (.s _ (.n _ (.n _ (.s _ (.s _ (.n _ .nil)))))) (pfX6_settles_b50_l q hcs a0 ((1 <<< (o5.1 &&& 31)), 1) o5.2) (fun o8 => by
            obtain ⟨o8x, o8m⟩ := o8
            rcases o8x with x9 | (x10 | x11)
            · exact
              (simk_run hcs 3 []
                (simt_ret (some (some (aI (-1)), (ST0 q, o8m))) (fun _ => rfl))
              (fun _ => rfl))
            · exact
              (simk_run hcs 3 []
                (simt_ret (some (some (aI x10), (ST0 q, o8m))) (fun _ => rfl))
              (fun _ => rfl))
            · exact
              (simk_run hcs 3 []
                (simt_ret (some (some (aI (-1)), (ST0 q, o8m))) (fun _ => rfl))
              (fun _ => rfl))))))))
  (fun _ => rfl))
noncomputable def kt_X6_reach (q : Nat) : Int32 × MM → Nat → Option Out := fun x _ => some (some (aI x.1), (ST0 q, x.2))
noncomputable def hfX6_reach_b58 (q : Nat) (a0 : Nat) (a2 : Int32) (s : Int32 × Int32) (m : MM) (n : Nat) : Option Out := brun false (0, 0) (csF q) (lkb tX6_reach) n 58 [some (aR 6 a0), none, some (aI a2), none, some (aI s.1), some (aI s.2), none] [] (ST0 q, m)
noncomputable def kxfX6_reach_b58 (q : Nat) (a0 : Nat) (a2 : Int32) (y : (Int32) × MM) (n : Nat) : Option Out := brun false (0, 0) (csF q) (lkb tX6_reach) n 105 [none, none, none, none, some (aI y.1), none, none] [] (ST0 q, y.2)
theorem pfX6_reach_b58 (q : Nat) (hcs : CSm (csF q)) (a0 : Nat) (a2 : Int32) (s : Int32 × Int32) (m : MM) : SimK (fX6_reach_b58 a0 a2 s m) (hfX6_reach_b58 q a0 a2 s m) (lpK (hfX6_reach_b58 q a0 a2) (kxfX6_reach_b58 q a0 a2)) :=
  (simk_run hcs 18 [58, 105]
    (simt_ite
      (simt_go hcs (.n _ (.n _ (.n _ (.n _ (.s _ (.n _ (.n _ .nil))))))) (fun _ => rfl))
      (simt_bind fun o7 =>
        (simt_ite
          (simt_go hcs (.s _ (.n _ (.s _ (.n _ (.s _ (.s _ (.n _ .nil))))))) (fun _ => rfl))
          (simt_go hcs (.s _ (.n _ (.s _ (.n _ (.s _ (.s _ (.n _ .nil))))))) (fun _ => rfl)))))
  (fun _ => rfl))
theorem pfX6_reach_b58_l (q : Nat) (hcs : CSm (csF q)) (a0 : Nat) (a2 : Int32) (s : Int32 × Int32) (m : MM) : SimK (loopF 1000 (fX6_reach_b58 a0 a2) s m) (hfX6_reach_b58 q a0 a2 s m) (kxfX6_reach_b58 q a0 a2) :=
  simk_loopF (fun s m => pfX6_reach_b58 q hcs a0 a2 s m) 1000 s m
theorem pfX6_reach (q : Nat) (hcs : CSm (csF q)) (a0 : Nat) (a1 : Int32) (a2 : Int32) (m : MM) : SimK (fX6_reach_b a0 a1 a2 m) (fun n => brun false (0, 0) (csF q) (lkb tX6_reach) n 0 (entL 7 [aR 6 a0, aI a1, aI a2]) [] (ST0 q, m)) (kt_X6_reach q) :=
  (simk_run hcs 28 [58]
    (simt_bindO (fun o1 =>
      (simt_bind fun o3 =>
        (simt_ret (some (some (aI o3.1), (ST0 q, o3.2))) (fun _ => rfl)))) (fun o1 i2 =>
      (simt_bind fun o4 =>
        (simt_ite
          (simt_bind fun o5 =>
            (simt_bind fun o6 =>
              (simt_loop hcs (.s _ (.n _ (.s _ (.n _ (.s _ (.s _ (.n _ .nil))))))) (pfX6_reach_b58_l q hcs a0 a2 (o6.1, 1) o6.2) (fun o8 => 
                (simk_run hcs 3 []
                  (simt_ret (some (some (aI o8.1), (ST0 q, o8.2))) (fun _ => rfl))
                (fun _ => rfl))))))
          (simt_bind fun o9 =>
            (simt_ret (some (some (aI o9.1), (ST0 q, o9.2))) (fun _ => rfl)))))))
  (fun _ => rfl))
noncomputable def kt_X6_fillVisited (q : Nat) : Unit × MM → Nat → Option Out := fun x _ => some (none, (ST0 q, x.2))
noncomputable def hfX6_fillVisited_b2 (q : Nat) (a0 : Nat) (s : Int32) (m : MM) (n : Nat) : Option Out := brun false (0, 0) (csF q) (lkb tX6_fillVisited) n 2 [some (aR 6 a0), some (aI s), none] [] (ST0 q, m)
noncomputable def kxfX6_fillVisited_b2 (q : Nat) (a0 : Nat) (y : (Unit) × MM) (n : Nat) : Option Out := brun false (0, 0) (csF q) (lkb tX6_fillVisited) n 67 [none, none, none] [] (ST0 q, y.2)
theorem pfX6_fillVisited_b2 (q : Nat) (hcs : CSm (csF q)) (a0 : Nat) (s : Int32) (m : MM) : SimK (fX6_fillVisited_b2 a0 s m) (hfX6_fillVisited_b2 q a0 s m) (lpK (hfX6_fillVisited_b2 q a0) (kxfX6_fillVisited_b2 q a0)) :=
  (simk_run hcs 36 [2, 67]
    (simt_ite
      (simt_go hcs (.n _ (.n _ (.n _ .nil))) (fun _ => rfl))
      (simt_bindO (fun o1 =>
        (simt_bif
          (simt_go hcs (.s _ (.s _ (.n _ .nil))) (fun _ => rfl)))) (fun o1 i2 =>
        (simt_bif
          (simt_bind fun o3 =>
            (simt_bind fun o4 =>
              (simt_bif
                (simt_go hcs (.s _ (.s _ (.n _ .nil))) (fun _ => rfl)))))))))
  (fun _ => rfl))
theorem pfX6_fillVisited_b2_l (q : Nat) (hcs : CSm (csF q)) (a0 : Nat) (s : Int32) (m : MM) : SimK (loopF 1000 (fX6_fillVisited_b2 a0) s m) (hfX6_fillVisited_b2 q a0 s m) (kxfX6_fillVisited_b2 q a0) :=
  simk_loopF (fun s m => pfX6_fillVisited_b2 q hcs a0 s m) 1000 s m
theorem pfX6_fillVisited (q : Nat) (hcs : CSm (csF q)) (a0 : Nat) (m : MM) : SimK (fX6_fillVisited_b a0 m) (fun n => brun false (0, 0) (csF q) (lkb tX6_fillVisited) n 0 (entL 3 [aR 6 a0]) [] (ST0 q, m)) (kt_X6_fillVisited q) :=
  (simk_run hcs 3 [2]
    (simt_loop hcs (.s _ (.s _ (.n _ .nil))) (pfX6_fillVisited_b2_l q hcs a0 0 m) (fun o5 => 
      (simk_run hcs 2 []
        (simt_ret (some (none, (ST0 q, o5.2))) (fun _ => rfl))
      (fun _ => rfl))))
  (fun _ => rfl))
noncomputable def kt_X6_busiest (q : Nat) : Int32 × MM → Nat → Option Out := fun x _ => some (some (aI x.1), (ST0 q, x.2))
noncomputable def hfX6_busiest_b46 (q : Nat) (a0 : Nat) (a1 : Int32) (a2 : Int32) (a3 : Int32) (a4 : Int32) (s : Int32 × Int32) (m : MM) (n : Nat) : Option Out := brun false (0, 0) (csF q) (lkb tX6_busiest) n 46 [some (aR 6 a0), some (aI a1), some (aI a2), some (aI a3), some (aI a4), some (aI s.1), some (aI s.2)] [] (ST0 q, m)
noncomputable def kxfX6_busiest_b46 (q : Nat) (a0 : Nat) (a1 : Int32) (a2 : Int32) (a3 : Int32) (a4 : Int32) (y : (Int32) × MM) (n : Nat) : Option Out := brun false (0, 0) (csF q) (lkb tX6_busiest) n 91 [some (aR 6 a0), some (aI a1), some (aI a2), some (aI a3), some (aI a4), some (aI y.1), none] [] (ST0 q, y.2)
theorem pfX6_busiest_b46 (q : Nat) (hcs : CSm (csF q)) (a0 : Nat) (a1 : Int32) (a2 : Int32) (a3 : Int32) (a4 : Int32) (s : Int32 × Int32) (m : MM) : SimK (fX6_busiest_b46 a0 a1 a2 a3 a4 s m) (hfX6_busiest_b46 q a0 a1 a2 a3 a4 s m) (lpK (hfX6_busiest_b46 q a0 a1 a2 a3 a4) (kxfX6_busiest_b46 q a0 a1 a2 a3 a4)) :=
  (simk_run hcs 24 [46, 91]
    (simt_ite
      (simt_go hcs (.s _ (.s _ (.s _ (.s _ (.s _ (.s _ (.n _ .nil))))))) (fun _ => rfl))
      (simt_ite
        (simt_go hcs (.s _ (.s _ (.s _ (.s _ (.s _ (.s _ (.n _ .nil))))))) (fun _ => rfl))
        (simt_bif
          (simt_go hcs (.s _ (.s _ (.s _ (.s _ (.s _ (.s _ (.s _ .nil))))))) (fun _ => rfl)))))
  (fun _ => rfl))
theorem pfX6_busiest_b46_l (q : Nat) (hcs : CSm (csF q)) (a0 : Nat) (a1 : Int32) (a2 : Int32) (a3 : Int32) (a4 : Int32) (s : Int32 × Int32) (m : MM) : SimK (loopF 1000 (fX6_busiest_b46 a0 a1 a2 a3 a4) s m) (hfX6_busiest_b46 q a0 a1 a2 a3 a4 s m) (kxfX6_busiest_b46 q a0 a1 a2 a3 a4) :=
  simk_loopF (fun s m => pfX6_busiest_b46 q hcs a0 a1 a2 a3 a4 s m) 1000 s m
noncomputable def hfX6_busiest_b28 (q : Nat) (a0 : Nat) (a1 : Int32) (s : Int32 × Int32 × Int32) (m : MM) (n : Nat) : Option Out := brun false (0, 0) (csF q) (lkb tX6_busiest) n 28 [some (aR 6 a0), some (aI a1), some (aI s.1), some (aI s.2.1), some (aI s.2.2), none, none] [] (ST0 q, m)
noncomputable def kxfX6_busiest_b28 (q : Nat) (a0 : Nat) (a1 : Int32) (y : (Int32 × Int32) × MM) (n : Nat) : Option Out := brun false (0, 0) (csF q) (lkb tX6_busiest) n 109 [none, some (aI a1), some (aI y.1.1), some (aI y.1.2), none, none, none] [] (ST0 q, y.2)
theorem pfX6_busiest_b28 (q : Nat) (hcs : CSm (csF q)) (a0 : Nat) (a1 : Int32) (s : Int32 × Int32 × Int32) (m : MM) : SimK (fX6_busiest_b28 a0 a1 s m) (hfX6_busiest_b28 q a0 a1 s m) (lpK (hfX6_busiest_b28 q a0 a1) (kxfX6_busiest_b28 q a0 a1)) :=
  (simk_run hcs 10 [46, 109]
    (simt_ite
      (simt_go hcs (.n _ (.s _ (.s _ (.s _ (.n _ (.n _ (.n _ .nil))))))) (fun _ => rfl))
      (simt_loop hcs (.s _ (.s _ (.s _ (.s _ (.s _ (.s _ (.s _ .nil))))))) (pfX6_busiest_b46_l q hcs a0 a1 s.1 s.2.1 s.2.2 (0, 0) m) (fun o3 => 
        (simk_run hcs 10 [28]
          (simt_ite
            (simt_go hcs (.s _ (.s _ (.s _ (.s _ (.s _ (.n _ (.n _ .nil))))))) (fun _ => rfl))
            (simt_go hcs (.s _ (.s _ (.s _ (.s _ (.s _ (.n _ (.n _ .nil))))))) (fun _ => rfl)))
        (fun _ => rfl)))))
  (fun _ => rfl))
theorem pfX6_busiest_b28_l (q : Nat) (hcs : CSm (csF q)) (a0 : Nat) (a1 : Int32) (s : Int32 × Int32 × Int32) (m : MM) : SimK (loopF 1000 (fX6_busiest_b28 a0 a1) s m) (hfX6_busiest_b28 q a0 a1 s m) (kxfX6_busiest_b28 q a0 a1) :=
  simk_loopF (fun s m => pfX6_busiest_b28 q hcs a0 a1 s m) 1000 s m
theorem pfX6_busiest (q : Nat) (hcs : CSm (csF q)) (a0 : Nat) (a1 : Int32) (m : MM) : SimK (fX6_busiest_b a0 a1 m) (fun n => brun false (0, 0) (csF q) (lkb tX6_busiest) n 0 (entL 7 [aR 6 a0, aI a1]) [] (ST0 q, m)) (kt_X6_busiest q) :=
  (simk_run hcs 14 [28]
    (simt_bind fun o1 =>
      (simt_ite
        (simt_bind fun o2 =>
          (simt_loop hcs (.s _ (.s _ (.s _ (.s _ (.s _ (.n _ (.n _ .nil))))))) (pfX6_busiest_b28_l q hcs a0 a1 (0, (-1), 0) o2.2) (fun o4 => 
            (simk_run hcs 6 []
              (simt_ite
                (simt_ret (some (some (aI o4.1.2), (ST0 q, o4.2))) (fun _ => rfl))
                (simt_ret (some (some (aI o4.1.1), (ST0 q, o4.2))) (fun _ => rfl)))
            (fun _ => rfl)))))
        (simt_bind fun o5 =>
          (simt_ret (some (some (aI o5.1), (ST0 q, o5.2))) (fun _ => rfl)))))
  (fun _ => rfl))
