def g_flow (w : Nat) (x : Int32) (mm : MM) : Option (Int32 × MM) := if x < 0 then some (3, mm) else if nI 30 ≤ x then some (3, mm) else bif inB x 30 then some (mm.1 40 w x.toNatClampNeg, mm) else none
def mkR (n : Nat) (o : Option (Int32 × MM)) : Option Out := o.bind (fun q => some (some (aI q.1), (ST0 n, q.2)))
theorem p_flow (cs : CS) (q : Nat) (w : Nat) (x : Int32) (mm : MM) (n : Nat) : arun false cs (lkb tX5_flow) (n + 14) 0 [some (aR 5 w), some (aI x)] [] (ST0 q, mm) = (if x < 0 then some (some (aI 3), (ST0 q, mm)) else if nI 30 ≤ x then some (some (aI 3), (ST0 q, mm)) else bif inB x 30 then some (some (aI (mm.1 40 w x.toNatClampNeg)), (ST0 q, mm)) else none) := rfl
theorem p_stroll1 (cs : CS) (q : Nat) (w : Nat) (st x : Int32) (mm : MM) (n : Nat) : arun false cs (lkb tX4_stroll) (n + 48) 2 [some (aR 4 w), some (aI x), some (aI st)] [] (ST0 q, mm) =
  (if mm.1 4 w 1 ≤ st then some (none, (ST0 q, mm)) else
   if ¬ mm.1 4 w 2 = 0 then arun false cs (lkb tX4_stroll) (n + 40) 35 [some (aR 4 w), some (aI x), some (aI st)] [] (ST0 q, mm)
   else if mm.1 4 w 0 < x - 1 then arun false cs (lkb tX4_stroll) (n + 35) 35 [some (aR 4 w), some (aI x), some (aI st)] [] (ST0 q, mm)
   else arun false cs (lkb tX4_stroll) (n + 31) 56 [some (aR 4 w), some (aI x), some (aI st)] [] (ST0 q, (upI mm.1 4 w 2 1, mm.2))) := rfl
