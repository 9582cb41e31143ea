/-! THE CODE IS WHAT THE TABLES SAY: one entry against the bytecode and the links -/
def okD (cc : ByteArray) (pc : Nat) (i : Instr) (len : Nat) : Bool := decide (decode cc pc = .ok (i, len))
def flE (own idx c k : Nat) : Bool := FLt.any (fun e => Nat.beq e.1 own && Nat.beq e.2.1 idx && Nat.beq e.2.2.1 c && Nat.beq e.2.2.2.1 k)
def mlE (own idx kd j n : Nat) : Bool := MLt.any (fun e => Nat.beq e.1 own && Nat.beq e.2.1 idx && Nat.beq e.2.2.1 kd && Nat.beq e.2.2.2.1 j && Nat.beq e.2.2.2.2.1 n)
def nlE (own idx : Nat) (c : String) : Bool := NLt.any (fun e => Nat.beq e.1 own && Nat.beq e.2.1 idx && decide (e.2.2.1 = c))
def kiE (own idx : Nat) (v : Int32) : Bool := KIt.any (fun e => Nat.beq e.1 own && Nat.beq e.2.1 idx && decide (e.2.2.1 = v))
def klE (own idx : Nat) (v : Int64) : Bool := KLt.any (fun e => Nat.beq e.1 own && Nat.beq e.2.1 idx && decide (e.2.2.1 = v))
def ksE (own idx a : Nat) : Bool := match KSt[a]? with
  | some e => Nat.beq e.1 own && Nat.beq e.2.1 idx
  | none => false
def slE (own idx a : Nat) : Bool := SLt.any (fun e => Nat.beq e.1 own && Nat.beq e.2.1 idx && Nat.beq e.2.2.1 a)
def blE (own idx a : Nat) : Bool := BLt.any (fun e => Nat.beq e.1 own && Nat.beq e.2.1 idx && Nat.beq e.2.2.1 a)
def arrOf (a : Nat) : String := match a with
  | 22 => RX0
  | 23 => RX1
  | 24 => RX4
  | _ => "[[I"
def consec : Int → List (Int32 × Nat) → Bool
  | _, [] => true
  | n, q :: l => decide (q.1 = Int32.ofInt n) && consec (n + 1) l
def okE (own : Nat) (cc : ByteArray) (pc : Nat) (xe : XE) : Bool :=
  match xe with
  | (i, len, (a, b, d), v, w, brs) =>
    match i with
    | .iconst _ => match len with
      | 1 => okD cc pc (.iconst v.toInt) 1
      | 2 => (match b with
        | 0 => okD cc pc (.bipush v.toInt) 2 && decide ((Int8.ofInt v.toInt).toInt32 = v)
        | _ => okD cc pc (.ldc a) 2 && kiE own a v)
      | 3 => (match b with
        | 0 => okD cc pc (.sipush v.toInt) 3 && decide ((Int16.ofInt v.toInt).toInt32 = v)
        | _ => okD cc pc (.ldc_w a) 3 && kiE own a v)
      | _ => false
    | .lconst _ => match len with
      | 1 => (okD cc pc (.lconst 0) 1 && decide (w = 0)) || (okD cc pc (.lconst 1) 1 && decide (w = 1))
      | 3 => okD cc pc (.ldc2_w a) 3 && klE own a w
      | _ => false
    | .aconst_null => okD cc pc .aconst_null 1 && Nat.beq len 1
    | .iload _ => match len with
      | 1 => Nat.blt a 4 && okD cc pc (.iload_n (Fin.ofNat 4 a)) 1
      | 2 => okD cc pc (.iload a) 2
      | _ => false
    | .lload _ => match len with
      | 1 => Nat.blt a 4 && okD cc pc (.lload_n (Fin.ofNat 4 a)) 1
      | 2 => okD cc pc (.lload a) 2
      | _ => false
    | .aload _ => match len with
      | 1 => Nat.blt a 4 && okD cc pc (.aload_n (Fin.ofNat 4 a)) 1
      | 2 => okD cc pc (.aload a) 2
      | _ => false
    | .istore _ => match len with
      | 1 => Nat.blt a 4 && okD cc pc (.istore_n (Fin.ofNat 4 a)) 1
      | 2 => okD cc pc (.istore a) 2
      | _ => false
    | .lstore _ => match len with
      | 1 => Nat.blt a 4 && okD cc pc (.lstore_n (Fin.ofNat 4 a)) 1
      | 2 => okD cc pc (.lstore a) 2
      | _ => false
    | .astore _ => match len with
      | 1 => Nat.blt a 4 && okD cc pc (.astore_n (Fin.ofNat 4 a)) 1
      | 2 => okD cc pc (.astore a) 2
      | _ => false
    | .iinc _ _ => okD cc pc (.iinc a v.toInt) 3 && Nat.beq len 3
    | .goto _ => okD cc pc (.goto ((a : Int) - pc)) 3
    | .ifCond q _ => okD cc pc (.ifCond q ((a : Int) - pc)) 3 && Nat.beq len 3
    | .if_icmp q _ => okD cc pc (.if_icmp q ((a : Int) - pc)) 3 && Nat.beq len 3
    | .ifnull _ => okD cc pc (.ifnull ((a : Int) - pc)) 3 && Nat.beq len 3
    | .ifnonnull _ => okD cc pc (.ifnonnull ((a : Int) - pc)) 3 && Nat.beq len 3
    | .tableswitch _ _ _ _ => match brs with
      | [] => false
      | q :: l => consec q.1.toInt (q :: l) && decide (q.1.toInt + l.length < 1000) && decide (-1000 < q.1.toInt) && okD cc pc (.tableswitch ((a : Int) - pc) q.1.toInt (q.1.toInt + l.length) ((q :: l).map (fun z => (z.2 : Int) - pc)).toArray) len
    | .getfield _ => okD cc pc (.getfield d) 3 && Nat.beq len 3 && (flE own d a b || (Nat.beq a 31 && Nat.beq b 0 && slE own d 100) || (Nat.beq a 31 && Nat.beq b 1 && slE own d 101))
    | .putfield _ => okD cc pc (.putfield d) 3 && Nat.beq len 3 && flE own d a b
    | .getstatic _ => okD cc pc (.getstatic d) 3 && Nat.beq len 3 && slE own d a && (Nat.beq a 0 || Nat.beq a 32 || Nat.beq a 34)
    | .ldc _ => okD cc pc (.ldc b) 2 && Nat.beq len 2 && ksE own b a
    | .invokevirtual _ => Nat.beq len 3 && ((okD cc pc (.invokevirtual d) 3 && mlE own d 0 b a) || (okD cc pc (.invokestatic d) 3 && (mlE own d 1 b a || mlE own d 4 b a)) || (okD cc pc (.invokespecial d) 3 && (mlE own d 2 b a || mlE own d 5 b a)))
    | .dneg => okD cc pc (.invokestatic d) 3 && Nat.beq len 3 && blE own d 0
    | .dadd => okD cc pc (.invokestatic d) 3 && Nat.beq len 3 && blE own d 1
    | .dsub => okD cc pc (.invokestatic d) 3 && Nat.beq len 3 && blE own d 2
    | .dmul => okD cc pc (.invokestatic d) 3 && Nat.beq len 3 && blE own d 3
    | .nop => okD cc pc (.invokespecial d) 3 && Nat.beq len 3 && blE own d 4
    | .new _ => okD cc pc (.new d) 3 && Nat.beq len 3 && nlE own d (cn a)
    | .newarray t => okD cc pc (.newarray t) 2 && Nat.beq len 2 && ((decide (t = .int) && isIA a) || (decide (t = .long) && isLA a))
    | .anewarray _ => okD cc pc (.anewarray d) 3 && Nat.beq len 3 && nlE own d (arrOf a)
    | .multianewarray _ _ => okD cc pc (.multianewarray d 2) 4 && Nat.beq len 4 && nlE own d (arrOf a)
    | .iadd | .isub | .imul | .idiv | .irem | .ineg | .iand | .ior | .ishl | .ishr | .iushr | .ladd | .land | .lor | .lshl | .lcmp | .i2l | .l2i | .i2b | .i2s | .i2c | .dup | .pop | .dup_x1 | .dup2 | .iaload | .baload | .laload | .aaload | .iastore | .lastore | .aastore | .arraylength | .ireturn | .lreturn | .areturn | .return_ => okD cc pc i 1 && Nat.beq len 1
    | _ => false
def okT (own : Nat) (cc : ByteArray) (t : List (List (Nat × XE))) : Bool := t.all (fun l => l.all (fun q => okE own cc q.1 q.2))
