/-! THE ABSTRACT MACHINE: values, memory, one instruction, runs. A value is an int, a long, null or a reference (kind, number). -/
abbrev AV : Type := (Int32 ⊕ Int64) ⊕ Option (Nat × Nat)
abbrev aI (x : Int32) : AV := Sum.inl (Sum.inl x)
abbrev aL (x : Int64) : AV := Sum.inl (Sum.inr x)
abbrev aN : AV := Sum.inr none
abbrev aR (c i : Nat) : AV := Sum.inr (some (c, i))
abbrev LV : Type := List (Option AV)
/-- the memory: ints and longs by kind, number and place; what is static behind the making: how many of a kind, how long, which references, cells and places made -/
abbrev MI : Type := Nat → Nat → Nat → Int32
abbrev MLg : Type := Nat → Nat → Nat → Int64
abbrev MM : Type := MI × MLg
abbrev ST : Type := (Nat → Nat) × (Nat → Nat → Nat) × (Nat → Nat → Nat → Option (Nat × Nat)) × Nat × Nat
abbrev Mem : Type := ST × MM
abbrev Out : Type := Option AV × Mem
def gL : LV → Nat → Option AV
  | [], _ => none
  | x :: _, 0 => x
  | _ :: l, n + 1 => gL l n
def sL : LV → Nat → Option AV → LV
  | [], _, _ => []
  | _ :: l, 0, v => v :: l
  | x :: l, n + 1, v => x :: sL l n v
/-- a value of one word is stored: a long that it cuts is gone -/
def st1 (L : LV) (i : Nat) (v : AV) : LV := match i with
  | 0 => sL L 0 (some v)
  | j + 1 => match gL L j with
    | some (.inl (.inr _)) => sL (sL L j none) (j + 1) (some v)
    | _ => sL L (j + 1) (some v)
def st2 (L : LV) (i : Nat) (v : AV) : LV := sL (st1 L i v) (i + 1) none
def cat (v : AV) : Nat := match v with
  | .inl (.inr _) => 2
  | _ => 1
def inB (i : Int32) (n : Nat) : Bool := decide (0 ≤ i) && decide (i.toNatClampNeg < n)
def upI (m : MI) (c i k : Nat) (x : Int32) : MI := fun c' i' k' => if c' = c ∧ i' = i ∧ k' = k then x else m c' i' k'
def upL (m : MLg) (c i k : Nat) (x : Int64) : MLg := fun c' i' k' => if c' = c ∧ i' = i ∧ k' = k then x else m c' i' k'
def upR (m : Nat → Nat → Nat → Option (Nat × Nat)) (c i k : Nat) (x : Option (Nat × Nat)) : Nat → Nat → Nat → Option (Nat × Nat) := fun c' i' k' => if c' = c ∧ i' = i ∧ k' = k then x else m c' i' k'
def cpL (m : MLg) (c i : Nat) (sp : Nat) (d j : Nat) (dp n : Nat) : MLg := fun c' i' k' => if c' = d ∧ i' = j ∧ dp ≤ k' ∧ k' < dp + n then m c i (sp + (k' - dp)) else m c' i' k'
def isIA (c : Nat) : Bool := Nat.ble 40 c && Nat.ble c 68
def isLA (c : Nat) : Bool := Nat.beq c 20 || Nat.beq c 21
def isRA (c : Nat) : Bool := Nat.ble 22 c && Nat.ble c 26
/-- one instruction as the tables of this proof have it: what it is, its length, three numbers, an int, a long, the places of a switch -/
abbrev XE : Type := Instr × Nat × (Nat × Nat × Nat) × Int32 × Int64 × List (Int32 × Nat)
/-- what a call does, with what comes behind it -/
abbrev CS : Type := Nat → List AV → Mem → (Option AV → Mem → Option Out) → Option Out
/-- the kind of a field: 0 int, 1 truth, 4 a reference -/
def skL : List (List Nat) := [[0, 0, 0, 0, 0], [0, 0, 4], [0, 0, 4, 0, 0, 0, 4], [4, 4], [0, 0, 0], [0, 0, 0, 0, 0, 0, 0, 4, 4, 4, 4, 4], [4, 4, 4, 1, 4, 4, 4, 4, 4, 4, 4, 4, 4, 4, 4], [0, 4, 4, 0, 0, 4, 4, 4, 4, 4, 0, 4, 0, 0, 4, 0, 0, 0, 0, 4, 4, 4, 4, 1, 4, 4, 4, 4, 4, 4, 0, 0, 4]]
def sk (c k : Nat) : Nat := match c with
  | 31 => (match k with
    | 0 => 4
    | _ => 0)
  | _ => (skL.getD c []).getD k 9
/-- one instruction; k: what comes behind it -/
def astep (al : Bool) (cs : CS) (xe : XE) (pc : Nat) (L : LV) (S : List AV) (m : Mem) (k : Nat → LV → List AV → Mem → Option Out) : Option Out :=
  match xe with
  | (i, len, (a, b, d), v, w, brs) =>
    match i with
    | .iconst _ => k (pc + len) L (aI v :: S) m
    | .lconst _ => k (pc + len) L (aL w :: S) m
    | .aconst_null => k (pc + len) L (aN :: S) m
    | .iload _ => match gL L a with
      | some (.inl (.inl x)) => k (pc + len) L (aI x :: S) m
      | _ => none
    | .lload _ => match gL L a with
      | some (.inl (.inr x)) => k (pc + len) L (aL x :: S) m
      | _ => none
    | .aload _ => match gL L a with
      | some (.inr x) => k (pc + len) L (.inr x :: S) m
      | _ => none
    | .istore _ => match S with
      | .inl (.inl x) :: S => k (pc + len) (st1 L a (aI x)) S m
      | _ => none
    | .lstore _ => match S with
      | .inl (.inr x) :: S => k (pc + len) (st2 L a (aL x)) S m
      | _ => none
    | .astore _ => match S with
      | .inr x :: S => k (pc + len) (st1 L a (.inr x)) S m
      | _ => none
    | .iinc _ _ => match gL L a with
      | some (.inl (.inl x)) => k (pc + len) (st1 L a (aI (x + v))) S m
      | _ => none
    | .iadd => match S with
      | .inl (.inl y) :: .inl (.inl x) :: S => k (pc + len) L (aI (x + y) :: S) m
      | _ => none
    | .isub => match S with
      | .inl (.inl y) :: .inl (.inl x) :: S => k (pc + len) L (aI (x - y) :: S) m
      | _ => none
    | .imul => match S with
      | .inl (.inl y) :: .inl (.inl x) :: S => k (pc + len) L (aI (x * y) :: S) m
      | _ => none
    | .idiv => match S with
      | .inl (.inl y) :: .inl (.inl x) :: S => if y = 0 then none else k (pc + len) L (aI (x / y) :: S) m
      | _ => none
    | .irem => match S with
      | .inl (.inl y) :: .inl (.inl x) :: S => if y = 0 then none else k (pc + len) L (aI (x - x / y * y) :: S) m
      | _ => none
    | .ineg => match S with
      | .inl (.inl x) :: S => k (pc + len) L (aI (-x) :: S) m
      | _ => none
    | .iand => match S with
      | .inl (.inl y) :: .inl (.inl x) :: S => k (pc + len) L (aI (x &&& y) :: S) m
      | _ => none
    | .ior => match S with
      | .inl (.inl y) :: .inl (.inl x) :: S => k (pc + len) L (aI (x ||| y) :: S) m
      | _ => none
    | .ishl => match S with
      | .inl (.inl y) :: .inl (.inl x) :: S => k (pc + len) L (aI (x <<< (y &&& 31)) :: S) m
      | _ => none
    | .ishr => match S with
      | .inl (.inl y) :: .inl (.inl x) :: S => k (pc + len) L (aI (x >>> (y &&& 31)) :: S) m
      | _ => none
    | .iushr => match S with
      | .inl (.inl y) :: .inl (.inl x) :: S => k (pc + len) L (aI (x.toUInt32 >>> (y.toUInt32 &&& Int32.toUInt32 31)).toInt32 :: S) m
      | _ => none
    | .ladd => match S with
      | .inl (.inr y) :: .inl (.inr x) :: S => k (pc + len) L (aL (x + y) :: S) m
      | _ => none
    | .land => match S with
      | .inl (.inr y) :: .inl (.inr x) :: S => k (pc + len) L (aL (x &&& y) :: S) m
      | _ => none
    | .lor => match S with
      | .inl (.inr y) :: .inl (.inr x) :: S => k (pc + len) L (aL (x ||| y) :: S) m
      | _ => none
    | .lshl => match S with
      | .inl (.inl y) :: .inl (.inr x) :: S => k (pc + len) L (aL (x <<< (y.toInt64 &&& 63)) :: S) m
      | _ => none
    | .lcmp => match S with
      | .inl (.inr y) :: .inl (.inr x) :: S => k (pc + len) L (aI (lg_cmp x y) :: S) m
      | _ => none
    | .i2l => match S with
      | .inl (.inl x) :: S => k (pc + len) L (aL x.toInt64 :: S) m
      | _ => none
    | .l2i => match S with
      | .inl (.inr x) :: S => k (pc + len) L (aI x.toInt32 :: S) m
      | _ => none
    | .i2b => match S with
      | .inl (.inl x) :: S => k (pc + len) L (aI x.toInt8.toInt32 :: S) m
      | _ => none
    | .i2s => match S with
      | .inl (.inl x) :: S => k (pc + len) L (aI x.toInt16.toInt32 :: S) m
      | _ => none
    | .i2c => match S with
      | .inl (.inl x) :: S => k (pc + len) L (aI (x.toUInt32 % 65536).toInt32 :: S) m
      | _ => none
    | .dup => match S with
      | .inl (.inl x) :: S => k (pc + len) L (aI x :: aI x :: S) m
      | .inr x :: S => k (pc + len) L (.inr x :: .inr x :: S) m
      | _ => none
    | .pop => match S with
      | .inl (.inl _) :: S => k (pc + len) L S m
      | .inr _ :: S => k (pc + len) L S m
      | _ => none
    | .dup_x1 => match S with
      | .inl (.inl x) :: .inr y :: S => k (pc + len) L (aI x :: .inr y :: aI x :: S) m
      | _ => none
    | .dup2 => match S with
      | .inl (.inl x) :: .inr y :: S => k (pc + len) L (aI x :: .inr y :: aI x :: .inr y :: S) m
      | _ => none
    | .goto _ => k a L S m
    | .ifCond q _ => match S with
      | .inl (.inl x) :: S => match q with
        | .eq => if x = 0 then k a L S m else k (pc + len) L S m
        | .ne => if ¬ x = 0 then k a L S m else k (pc + len) L S m
        | .lt => if x < 0 then k a L S m else k (pc + len) L S m
        | .ge => if 0 ≤ x then k a L S m else k (pc + len) L S m
        | .gt => if 0 < x then k a L S m else k (pc + len) L S m
        | .le => if x ≤ 0 then k a L S m else k (pc + len) L S m
      | _ => none
    | .if_icmp q _ => match S with
      | .inl (.inl y) :: .inl (.inl x) :: S => match q with
        | .eq => if x = y then k a L S m else k (pc + len) L S m
        | .ne => if ¬ x = y then k a L S m else k (pc + len) L S m
        | .lt => if x < y then k a L S m else k (pc + len) L S m
        | .ge => if y ≤ x then k a L S m else k (pc + len) L S m
        | .gt => if y < x then k a L S m else k (pc + len) L S m
        | .le => if x ≤ y then k a L S m else k (pc + len) L S m
      | _ => none
    | .ifnull _ => match S with
      | .inr none :: S => k a L S m
      | .inr (some (c, _)) :: S => bif Nat.beq c 34 then none else k (pc + len) L S m
      | _ => none
    | .ifnonnull _ => match S with
      | .inr none :: S => k (pc + len) L S m
      | .inr (some (c, _)) :: S => bif Nat.beq c 34 then none else k a L S m
      | _ => none
    | .dneg => match S with
      | .inl (.inl x) :: S => bif Nat.ble S.length 8 then k (pc + len) L (aI (if 0 ≤ x then x else 0 - x) :: S) m else none
      | _ => none
    | .dadd => match S with
      | .inl (.inl y) :: .inl (.inl x) :: S => bif Nat.ble S.length 8 then k (pc + len) L (aI (if x < y then y else x) :: S) m else none
      | _ => none
    | .dsub => match S with
      | .inl (.inl y) :: .inl (.inl x) :: S => bif Nat.ble S.length 8 then k (pc + len) L (aI (if y < x then y else x) :: S) m else none
      | _ => none
    | .dmul => match S with
      | .inl (.inl n) :: .inl (.inl dp) :: .inr (some (c', i')) :: .inl (.inl sp) :: .inr (some (c, i)) :: S =>
        bif isLA c && isLA c' && Nat.ble S.length 8 then
          if 0 ≤ sp ∧ 0 ≤ dp ∧ 0 ≤ n ∧ sp.toNatClampNeg + n.toNatClampNeg ≤ m.1.2.1 c i ∧ dp.toNatClampNeg + n.toNatClampNeg ≤ m.1.2.1 c' i' then
            k (pc + len) L S (m.1, (m.2.1, cpL m.2.2 c i sp.toNatClampNeg c' i' dp.toNatClampNeg n.toNatClampNeg))
          else none
        else none
      | _ => none
    | .nop => match S with
      | .inr (some (c, _)) :: S => bif al && Nat.blt c 8 && Nat.ble S.length 8 then k (pc + len) L S m else none
      | _ => none
    | .new _ => bif al && Nat.blt a 8 then k (pc + len) L (aR a (m.1.1 a) :: S) ((fun c => if c = a then m.1.1 a + 1 else m.1.1 c, m.1.2.1, (fun c i q => if c = a ∧ i = m.1.1 a then none else m.1.2.2.1 c i q), m.1.2.2.2.1 + 1, m.1.2.2.2.2 + (skL.getD a []).length), (fun c i q => if c = a ∧ i = m.1.1 a then 0 else m.2.1 c i q, m.2.2)) else none
    | .newarray _ => match S with
      | .inl (.inl n) :: S => bif al && (isIA a || isLA a) && inB n 1000 then k (pc + len) L (aR a (m.1.1 a) :: S) ((fun c => if c = a then m.1.1 a + 1 else m.1.1 c, (fun c i => if c = a ∧ i = m.1.1 a then n.toNatClampNeg else m.1.2.1 c i), (fun c i q => if c = a ∧ i = m.1.1 a then none else m.1.2.2.1 c i q), m.1.2.2.2.1 + 1, m.1.2.2.2.2 + n.toNatClampNeg), (fun c i q => if c = a ∧ i = m.1.1 a then 0 else m.2.1 c i q), (fun c i q => if c = a ∧ i = m.1.1 a then 0 else m.2.2 c i q)) else none
      | _ => none
    | .anewarray _ => match S with
      | .inl (.inl n) :: S => bif al && (Nat.ble 22 a && Nat.ble a 24) && inB n 1000 then k (pc + len) L (aR a (m.1.1 a) :: S) ((fun c => if c = a then m.1.1 a + 1 else m.1.1 c, (fun c i => if c = a ∧ i = m.1.1 a then n.toNatClampNeg else m.1.2.1 c i), (fun c i q => if c = a ∧ i = m.1.1 a then none else m.1.2.2.1 c i q), m.1.2.2.2.1 + 1, m.1.2.2.2.2 + n.toNatClampNeg), m.2) else none
      | _ => none
    | .multianewarray _ _ => match S with
      | .inl (.inl w) :: .inl (.inl n) :: S => bif al && (Nat.ble 25 a && Nat.ble a 26) && isIA b && inB n 1000 && inB w 1000 then k (pc + len) L (aR a (m.1.1 a) :: S) ((fun c => if c = a then m.1.1 a + 1 else if c = b then m.1.1 b + n.toNatClampNeg else m.1.1 c, (fun c i => if c = a ∧ i = m.1.1 a then n.toNatClampNeg else if c = b ∧ m.1.1 b ≤ i then w.toNatClampNeg else m.1.2.1 c i), (fun c i q => if c = a ∧ i = m.1.1 a then (if q < n.toNatClampNeg then some (b, m.1.1 b + q) else none) else if c = b ∧ m.1.1 b ≤ i then none else m.1.2.2.1 c i q), m.1.2.2.2.1 + 1 + n.toNatClampNeg, m.1.2.2.2.2 + n.toNatClampNeg + n.toNatClampNeg * w.toNatClampNeg), (fun c i q => if c = b ∧ m.1.1 b ≤ i then 0 else m.2.1 c i q), m.2.2) else none
      | _ => none
    | .aastore => match S with
      | .inr (some q) :: .inl (.inl j) :: .inr (some (c, i)) :: S => bif al && ((Nat.beq c 22 && Nat.beq q.1 0) || (Nat.beq c 23 && Nat.beq q.1 1) || (Nat.beq c 24 && Nat.beq q.1 4)) && inB j (m.1.2.1 c i) then k (pc + len) L S ((m.1.1, m.1.2.1, upR m.1.2.2.1 c i j.toNatClampNeg (some q), m.1.2.2.2.1, m.1.2.2.2.2), m.2) else none
      | _ => none
    | .tableswitch _ _ _ _ => match S with
      | .inl (.inl x) :: S => brs.foldr (fun q r => if x = q.1 then k q.2 L S m else r) (k a L S m)
      | _ => none
    | .getfield _ => match S with
      | .inr (some (c, i)) :: S => bif Nat.beq c a then (match sk a b with
          | 4 => k (pc + len) L (.inr (m.1.2.2.1 c i b) :: S) m
          | _ => k (pc + len) L (aI (m.2.1 c i b) :: S) m) else none
      | _ => none
    | .putfield _ => match sk a b with
      | 0 => match S with
        | .inl (.inl x) :: .inr (some (c, i)) :: S => bif Nat.beq c a then k (pc + len) L S (m.1, (upI m.2.1 c i b x, m.2.2)) else none
        | _ => none
      | 1 => match S with
        | .inl (.inl x) :: .inr (some (c, i)) :: S => bif Nat.beq c a && (x == 0 || x == 1) then k (pc + len) L S (m.1, (upI m.2.1 c i b x, m.2.2)) else none
        | _ => none
      | _ => match S with
        | .inr (some q) :: .inr (some (c, i)) :: S => bif al && Nat.beq c a && (Nat.blt q.1 8 || isIA q.1 || isLA q.1 || isRA q.1) then k (pc + len) L S ((m.1.1, m.1.2.1, upR m.1.2.2.1 c i b (some q), m.1.2.2.2.1, m.1.2.2.2.2), m.2) else none
        | _ => none
    | .getstatic _ => match a with
      | 0 => k (pc + len) L (aI 1 :: S) m
      | _ => k (pc + len) L (aR a 0 :: S) m
    | .ldc _ => k (pc + len) L (aR 31 a :: S) m
    | .iaload => match S with
      | .inl (.inl j) :: .inr (some (c, i)) :: S => bif (isIA c || Nat.beq c 32 || Nat.beq c 33) && inB j (m.1.2.1 c i) then k (pc + len) L (aI (m.2.1 c i j.toNatClampNeg) :: S) m else none
      | _ => none
    | .baload => match S with
      | .inl (.inl j) :: .inr (some (c, i)) :: S => bif Nat.beq c 30 && inB j (m.1.2.1 c i) then k (pc + len) L (aI (m.2.1 c i j.toNatClampNeg) :: S) m else none
      | _ => none
    | .laload => match S with
      | .inl (.inl j) :: .inr (some (c, i)) :: S => bif isLA c && inB j (m.1.2.1 c i) then k (pc + len) L (aL (m.2.2 c i j.toNatClampNeg) :: S) m else none
      | _ => none
    | .aaload => match S with
      | .inl (.inl j) :: .inr (some (c, i)) :: S => bif isRA c && inB j (m.1.2.1 c i) then k (pc + len) L (.inr (m.1.2.2.1 c i j.toNatClampNeg) :: S) m else none
      | _ => none
    | .iastore => match S with
      | .inl (.inl x) :: .inl (.inl j) :: .inr (some (c, i)) :: S => bif isIA c && inB j (m.1.2.1 c i) then k (pc + len) L S (m.1, (upI m.2.1 c i j.toNatClampNeg x, m.2.2)) else none
      | _ => none
    | .lastore => match S with
      | .inl (.inr x) :: .inl (.inl j) :: .inr (some (c, i)) :: S => bif isLA c && inB j (m.1.2.1 c i) then k (pc + len) L S (m.1, (m.2.1, upL m.2.2 c i j.toNatClampNeg x)) else none
      | _ => none
    | .arraylength => match S with
      | .inr (some (c, i)) :: S => bif isIA c || isLA c || isRA c || Nat.beq c 30 || Nat.beq c 32 || Nat.beq c 33 then k (pc + len) L (aI (nI (m.1.2.1 c i)) :: S) m else none
      | _ => none
    | .invokevirtual _ => bif Nat.ble a S.length && Nat.ble (S.drop a).length 4 then cs b (S.take a).reverse m (fun r m' => k (pc + len) L (r.toList ++ S.drop a) m') else none
    | _ => none
/-- a run, from an instruction to the method's end -/
def arun (al : Bool) (cs : CS) (T : Nat → Option XE) : Nat → Nat → LV → List AV → Mem → Option Out
  | 0, _, _, _, _ => none
  | n + 1, pc, L, S, m => match T pc with
    | none => none
    | some xe => match xe.1 with
      | .return_ => some (none, m)
      | .ireturn => match S with
        | [.inl (.inl x)] => some (some (aI x), m)
        | _ => none
      | .lreturn => match S with
        | [.inl (.inr x)] => some (some (aL x), m)
        | _ => none
      | .areturn => match S with
        | [.inr x] => some (some (.inr x), m)
        | _ => none
      | _ => astep al cs xe pc L S m (arun al cs T n)
def lk : List (Nat × XE) → Nat → Option XE
  | [], _ => none
  | (p, x) :: l, pc => bif Nat.beq p pc then some x else lk l pc
