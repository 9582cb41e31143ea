/-! THE START: the constructors, evaluated -/
def Mi : Mem := ((fun _ => 0, (fun c i => if c = 30 then slen i else if c = 32 then 6 else if c = 33 then 6 else 0), (fun c i k => if c = 31 ∧ k = 0 then some (30, i) else none), 0, 0), (fun c i j => if c = 30 then sby i j else if c = 32 then kaF j else if c = 33 then kaF j else 0), fun _ _ _ => 0)
/-- the memory behind 'new' -/
def nwM (a : Nat) (m : Mem) : Mem := ((fun c => if c = a then m.1.1 a + 1 else m.1.1 c, m.1.2.1, (fun c i q => if c = a ∧ i = m.1.1 a then none else m.1.2.2.1 c i q), m.1.2.2.2.1 + 1, m.1.2.2.2.2 + (skL.getD a []).length), (fun c i q => if c = a ∧ i = m.1.1 a then 0 else m.2.1 c i q, m.2.2))
def MkO : Option Out := csI 4 64 [aR 6 0] (nwM 6 Mi) (fun _ M1 => bif Nat.beq (M1.1.1 7) 0 then csI 4 137 [aR 7 0] (nwM 7 M1) (fun _ M2 => some (none, M2)) else none)
/-- how many, how long, how much -/
def chk1 (M : Mem) : Bool := (List.range 70).all (fun c => !isW c || (Nat.beq (M.1.1 c) (CNT c) && (Nat.blt c 8 || (List.range (CNT c)).all (fun i => Nat.beq (M.1.2.1 c i) (LEN 0 c i))))) && (Nat.beq M.1.2.2.2.1 132 && Nat.beq M.1.2.2.2.2 3028)
/-- the references -/
def chk2 (M : Mem) : Bool := (List.range 8).all (fun c => (List.range (CNT c)).all (fun i => (List.range (NF c)).all (fun k => !(Nat.beq (sk c k) 4) || decide (M.1.2.2.1 c i k = RF c i k))))
def chk3 (M : Mem) : Bool := (List.range 5).all (fun c => (List.range (CNT (22 + c))).all (fun i => (List.range (LEN 0 (22 + c) i)).all (fun k => decide (M.1.2.2.1 (22 + c) i k = RF (22 + c) i k))))
def v0 : Nat → Int32 := fun k => if k < 30 then 3 else if k = 93 then 16 else if k = 94 then 2 else if k = 99 then 1 else 0
/-- the numbers -/
def chk4 (M : Mem) : Bool := (List.range 30).all (fun c => decide (M.2.1 50 0 c = 3) && decide (M.2.1 40 0 c = 3)) && (List.range 9).all (fun b => decide (M.2.1 52 0 b = 0) && (decide (M.2.1 53 0 b = 0) && (decide (M.2.1 54 0 b = 0) && (decide (M.2.1 55 0 b = 0) && decide (M.2.1 56 0 b = 0))))) && (List.range 18).all (fun k => decide (M.2.1 57 0 k = 0))
def chk5 (M : Mem) : Bool := decide (M.2.1 7 0 0 = 16) && (decide (M.2.1 51 0 0 = 2) && (decide (M.2.1 51 0 1 = 0) && (decide (M.2.1 7 0 3 = 0) && (decide (M.2.1 7 0 4 = 0) && (decide (M.2.1 7 0 10 = 0) && (decide (M.2.1 7 0 12 = 1) && (decide (M.2.1 7 0 13 = 0) && (decide (M.2.1 7 0 23 = 0) && (decide (M.2.1 2 0 0 = 0) && (decide (M.2.1 6 0 3 = 0) && (decide (M.2.1 5 0 0 = 16) && (decide (M.2.1 5 0 1 = 2) && (decide (M.2.1 5 0 2 = 0) && (decide (M.2.1 5 0 3 = 0) && (decide (M.2.1 5 0 4 = 1) && (decide (M.2.1 5 0 5 = 0) && decide (M.2.1 5 0 6 = 0)))))))))))))))))
def chk6 (M : Mem) : Bool := (List.range 8).all (fun s => decide (M.2.1 1 s 0 = -1) && (decide (M.2.1 59 0 s = -1) && (decide (M.2.1 1 s 1 = 0) && decide (M.2.1 60 0 s = 0)))) && (List.range 5).all (fun k => decide (M.2.1 47 0 k = 0) && decide (M.2.1 61 0 (2 + k) = 0))
def chk7 (M : Mem) : Bool := (List.range 8).all (fun s => (List.range 40).all (fun k => decide (M.2.2 20 s k = 0) && decide (M.2.2 21 0 (40 * s + k) = 0)))
def chkM (M : Mem) : Bool := chk1 M && (chk2 M && (chk3 M && (chk4 M && (chk5 M && (chk6 M && chk7 M)))))
def chkO (o : Option Out) : Bool := match o with
  | some (_, M) => chkM M
  | none => false
set_option maxRecDepth 100000 in
theorem mk_chk : chkO MkO = true := by decide +kernel
