/-! THE CODE AS FUNCTIONS, printed from the tables -/
theorem simt_chk {α : Type} {b : Nat × Nat} {cs : CS} {T : Nat → Option XE} {k : α → Nat → Option Out} {c : Bool} {A : Option α} {g : (Nat → LV → List AV → Mem → Option Out) → Option Out} (a : SimT b cs T A g k) : SimT b cs T (bif c then A else none) g k := by
  intro x out e hx
  cases c
  · cases e
  · exact a x out e hx
abbrev CallR : Type := (MM → Option (Int32 × MM)) ⊕ (MM → Option (Bool × MM)) ⊕ (MM → Option (Int64 × MM)) ⊕ (MM → Option (Unit × MM)) ⊕ (Nat × (MM → Option (Option Nat × MM)))
def cRI (f : MM → Option (Int32 × MM)) : CallR := .inl f
def cRZ (f : MM → Option (Bool × MM)) : CallR := .inr (.inl f)
def cRJ (f : MM → Option (Int64 × MM)) : CallR := .inr (.inr (.inl f))
def cRV (f : MM → Option (Unit × MM)) : CallR := .inr (.inr (.inr (.inl f)))
def cRO (t : Nat) (f : MM → Option (Option Nat × MM)) : CallR := .inr (.inr (.inr (.inr (t, f))))
/-- a function as a call that goes on -/
def callR (q : Nat) (c : CallR) (m : MM) (κ : Option AV → Mem → Option Out) : Option Out := match c with
  | .inl f => (f m).bind fun o => κ (some (aI o.1)) (ST0 q, o.2)
  | .inr (.inl f) => (f m).bind fun o => κ (some (aI (bI o.1))) (ST0 q, o.2)
  | .inr (.inr (.inl f)) => (f m).bind fun o => κ (some (aL o.1)) (ST0 q, o.2)
  | .inr (.inr (.inr (.inl f))) => (f m).bind fun o => κ none (ST0 q, o.2)
  | .inr (.inr (.inr (.inr (t, f)))) => (f m).bind fun o => match o.1 with
    | none => κ (some aN) (ST0 q, o.2)
    | some i => κ (some (aR t i)) (ST0 q, o.2)

noncomputable def fX0_start_b (a0 : Nat) (a1 : Int32) (a2 : Int32) (a3 : Int32) (a4 : Int32) (m : MM) : Option (Unit × MM) :=
  some ((), ((upI (upI (upI (upI (upI m.1 0 a0 0 a1) 0 a0 1 a2) 0 a0 2 a3) 0 a0 3 a4) 0 a0 4 0), m.2))
theorem fX0_start_ex : ∃ f : Nat → Int32 → Int32 → Int32 → Int32 → MM → Option (Unit × MM), f = fX0_start_b := ⟨_, rfl⟩
noncomputable def fX0_start : Nat → Int32 → Int32 → Int32 → Int32 → MM → Option (Unit × MM) := Classical.choose fX0_start_ex
theorem fX0_start_eq : fX0_start = fX0_start_b := Classical.choose_spec fX0_start_ex
noncomputable def fX0_become_b (a0 : Nat) (a1 : Nat) (m : MM) : Option (Unit × MM) :=
  some ((), ((upI (upI (upI (upI (upI m.1 0 a0 0 (m.1 0 a1 0)) 0 a0 1 ((upI m.1 0 a0 0 (m.1 0 a1 0)) 0 a1 1)) 0 a0 2 ((upI (upI m.1 0 a0 0 (m.1 0 a1 0)) 0 a0 1 ((upI m.1 0 a0 0 (m.1 0 a1 0)) 0 a1 1)) 0 a1 2)) 0 a0 3 ((upI (upI (upI m.1 0 a0 0 (m.1 0 a1 0)) 0 a0 1 ((upI m.1 0 a0 0 (m.1 0 a1 0)) 0 a1 1)) 0 a0 2 ((upI (upI m.1 0 a0 0 (m.1 0 a1 0)) 0 a0 1 ((upI m.1 0 a0 0 (m.1 0 a1 0)) 0 a1 1)) 0 a1 2)) 0 a1 3)) 0 a0 4 ((upI (upI (upI (upI m.1 0 a0 0 (m.1 0 a1 0)) 0 a0 1 ((upI m.1 0 a0 0 (m.1 0 a1 0)) 0 a1 1)) 0 a0 2 ((upI (upI m.1 0 a0 0 (m.1 0 a1 0)) 0 a0 1 ((upI m.1 0 a0 0 (m.1 0 a1 0)) 0 a1 1)) 0 a1 2)) 0 a0 3 ((upI (upI (upI m.1 0 a0 0 (m.1 0 a1 0)) 0 a0 1 ((upI m.1 0 a0 0 (m.1 0 a1 0)) 0 a1 1)) 0 a0 2 ((upI (upI m.1 0 a0 0 (m.1 0 a1 0)) 0 a0 1 ((upI m.1 0 a0 0 (m.1 0 a1 0)) 0 a1 1)) 0 a1 2)) 0 a1 3)) 0 a1 4)), m.2))
theorem fX0_become_ex : ∃ f : Nat → Nat → MM → Option (Unit × MM), f = fX0_become_b := ⟨_, rfl⟩
noncomputable def fX0_become : Nat → Nat → MM → Option (Unit × MM) := Classical.choose fX0_become_ex
theorem fX0_become_eq : fX0_become = fX0_become_b := Classical.choose_spec fX0_become_ex
noncomputable def fX6_toughnessOf_b (a0 : Int32) (a1 : Int32) (m : MM) : Option (Int32 × MM) :=
  if a0 = 1 then
    some (5, m)
  else
    if a0 = 2 then
      some (4, m)
    else
      if a0 = 3 then
        some (5, m)
      else
        if a0 = 4 then
          some ((4 + (a1 / 3)), m)
        else
          if a0 = 5 then
            some (99, m)
          else
            some (3, m)
theorem fX6_toughnessOf_ex : ∃ f : Int32 → Int32 → MM → Option (Int32 × MM), f = fX6_toughnessOf_b := ⟨_, rfl⟩
noncomputable def fX6_toughnessOf : Int32 → Int32 → MM → Option (Int32 × MM) := Classical.choose fX6_toughnessOf_ex
theorem fX6_toughnessOf_eq : fX6_toughnessOf = fX6_toughnessOf_b := Classical.choose_spec fX6_toughnessOf_ex
noncomputable def fX0_tellOf_b (a0 : Nat) (a1 : Int32) (m : MM) : Option (Int32 × MM) :=
  if a1 = 0 then
    some ((m.1 0 a0 0), m)
  else
    if a1 = 1 then
      some ((m.1 0 a0 1), m)
    else
      if a1 = 2 then
        some ((m.1 0 a0 2), m)
      else
        if a1 = 3 then
          some ((m.1 0 a0 3), m)
        else
          if a1 = 4 then
            some ((m.1 0 a0 4), m)
          else
            (fX6_toughnessOf (m.1 0 a0 0) (m.1 0 a0 1) m).bind fun o1 =>
            some (o1.1, o1.2)
theorem fX0_tellOf_ex : ∃ f : Nat → Int32 → MM → Option (Int32 × MM), f = fX0_tellOf_b := ⟨_, rfl⟩
noncomputable def fX0_tellOf : Nat → Int32 → MM → Option (Int32 × MM) := Classical.choose fX0_tellOf_ex
theorem fX0_tellOf_eq : fX0_tellOf = fX0_tellOf_b := Classical.choose_spec fX0_tellOf_ex
noncomputable def fX1_isEmpty_b (a0 : Nat) (m : MM) : Option (Bool × MM) :=
  if ¬ (m.1 1 a0 0) = (-1) then
    some (false, m)
  else
    some (true, m)
theorem fX1_isEmpty_ex : ∃ f : Nat → MM → Option (Bool × MM), f = fX1_isEmpty_b := ⟨_, rfl⟩
noncomputable def fX1_isEmpty : Nat → MM → Option (Bool × MM) := Classical.choose fX1_isEmpty_ex
theorem fX1_isEmpty_eq : fX1_isEmpty = fX1_isEmpty_b := Classical.choose_spec fX1_isEmpty_ex
noncomputable def fX1_isRow_b (a0 : Nat) (m : MM) : Option (Bool × MM) :=
  if (m.1 1 a0 0) < 0 then
    some (false, m)
  else
    if 4 < (m.1 1 a0 0) then
      some (false, m)
    else
      some (true, m)
theorem fX1_isRow_ex : ∃ f : Nat → MM → Option (Bool × MM), f = fX1_isRow_b := ⟨_, rfl⟩
noncomputable def fX1_isRow : Nat → MM → Option (Bool × MM) := Classical.choose fX1_isRow_ex
theorem fX1_isRow_eq : fX1_isRow = fX1_isRow_b := Classical.choose_spec fX1_isRow_ex
noncomputable def fX1_isBottle_b (a0 : Nat) (m : MM) : Option (Bool × MM) :=
  if (m.1 1 a0 0) < 10 then
    some (false, m)
  else
    some (true, m)
theorem fX1_isBottle_ex : ∃ f : Nat → MM → Option (Bool × MM), f = fX1_isBottle_b := ⟨_, rfl⟩
noncomputable def fX1_isBottle : Nat → MM → Option (Bool × MM) := Classical.choose fX1_isBottle_ex
theorem fX1_isBottle_eq : fX1_isBottle = fX1_isBottle_b := Classical.choose_spec fX1_isBottle_ex
noncomputable def fX1_whyNoRow_b (a0 : Nat) (m : MM) : Option (Int32 × MM) :=
  (fX1_isBottle a0 m).bind fun o1 =>
  if (bI o1.1) = 0 then
    some ((-1004), o1.2)
  else
    some ((-1003), o1.2)
theorem fX1_whyNoRow_ex : ∃ f : Nat → MM → Option (Int32 × MM), f = fX1_whyNoRow_b := ⟨_, rfl⟩
noncomputable def fX1_whyNoRow : Nat → MM → Option (Int32 × MM) := Classical.choose fX1_whyNoRow_ex
theorem fX1_whyNoRow_eq : fX1_whyNoRow = fX1_whyNoRow_b := Classical.choose_spec fX1_whyNoRow_ex
noncomputable def fX1_hasPlace_b (a0 : Nat) (a1 : Int32) (m : MM) : Option (Bool × MM) :=
  if a1 < 0 then
    some (false, m)
  else
    if (m.1 1 a0 1) ≤ a1 then
      some (false, m)
    else
      if (nI 40) ≤ a1 then
        some (false, m)
      else
        some (true, m)
theorem fX1_hasPlace_ex : ∃ f : Nat → Int32 → MM → Option (Bool × MM), f = fX1_hasPlace_b := ⟨_, rfl⟩
noncomputable def fX1_hasPlace : Nat → Int32 → MM → Option (Bool × MM) := Classical.choose fX1_hasPlace_ex
theorem fX1_hasPlace_eq : fX1_hasPlace = fX1_hasPlace_b := Classical.choose_spec fX1_hasPlace_ex
noncomputable def fX1_hasSpan_b (a0 : Nat) (a1 : Int32) (a2 : Int32) (m : MM) : Option (Bool × MM) :=
  if a1 < 0 then
    some (false, m)
  else
    if a2 < 0 then
      some (false, m)
    else
      if (nI 40) < (m.1 1 a0 1) then
        some (false, m)
      else
        if ((m.1 1 a0 1) - a1) < a2 then
          some (false, m)
        else
          some (true, m)
theorem fX1_hasSpan_ex : ∃ f : Nat → Int32 → Int32 → MM → Option (Bool × MM), f = fX1_hasSpan_b := ⟨_, rfl⟩
noncomputable def fX1_hasSpan : Nat → Int32 → Int32 → MM → Option (Bool × MM) := Classical.choose fX1_hasSpan_ex
theorem fX1_hasSpan_eq : fX1_hasSpan = fX1_hasSpan_b := Classical.choose_spec fX1_hasSpan_ex
noncomputable def fX1_startRow_b24 (a0 : Nat) (s : Int32) (m : MM) : Option (((Int32) ⊕ (Unit)) × MM) :=
  if (nI 40) ≤ s then
    some (Sum.inr (), m)
  else
    bif inB s 40 then
      some (Sum.inl (s + 1), (m.1, (upL m.2 20 a0 s.toNatClampNeg 0)))
    else none
noncomputable def fX1_startRow_b (a0 : Nat) (a1 : Int32) (a2 : Int32) (m : MM) : Option (Unit × MM) :=
  (loopF 1000 (fX1_startRow_b24 a0) 0 ((upI (upI m.1 1 a0 0 a1) 1 a0 1 (mxI 0 (mnI a2 (nI 40)))), m.2)).bind fun o1 =>
  some ((), o1.2)
theorem fX1_startRow_ex : ∃ f : Nat → Int32 → Int32 → MM → Option (Unit × MM), f = fX1_startRow_b := ⟨_, rfl⟩
noncomputable def fX1_startRow : Nat → Int32 → Int32 → MM → Option (Unit × MM) := Classical.choose fX1_startRow_ex
theorem fX1_startRow_eq : fX1_startRow = fX1_startRow_b := Classical.choose_spec fX1_startRow_ex
noncomputable def fX1_narrowed_b (a0 : Nat) (a1 : Int64) (m : MM) : Option (Int64 × MM) :=
  if (m.1 1 a0 0) = 0 then
    some (a1.toInt32.toInt8.toInt32.toInt64, m)
  else
    if (m.1 1 a0 0) = 1 then
      some (a1.toInt32.toInt16.toInt32.toInt64, m)
    else
      if (m.1 1 a0 0) = 2 then
        some (a1.toInt32.toInt64, m)
      else
        if (m.1 1 a0 0) = 3 then
          some (a1, m)
        else
          if (m.1 1 a0 0) = 4 then
            if (lg_cmp a1 0) = 0 then
              some (0, m)
            else
              some (1, m)
          else
            some (a1, m)
theorem fX1_narrowed_ex : ∃ f : Nat → Int64 → MM → Option (Int64 × MM), f = fX1_narrowed_b := ⟨_, rfl⟩
noncomputable def fX1_narrowed : Nat → Int64 → MM → Option (Int64 × MM) := Classical.choose fX1_narrowed_ex
theorem fX1_narrowed_eq : fX1_narrowed = fX1_narrowed_b := Classical.choose_spec fX1_narrowed_ex
noncomputable def fX1_put_b (a0 : Nat) (a1 : Int32) (a2 : Int64) (m : MM) : Option (Unit × MM) :=
  (fX1_isRow a0 m).bind fun o1 =>
  if (bI o1.1) = 0 then
    some ((), o1.2)
  else
    (fX1_hasPlace a0 a1 o1.2).bind fun o2 =>
    if (bI o2.1) = 0 then
      some ((), o2.2)
    else
      (fX1_narrowed a0 a2 o2.2).bind fun o3 =>
      bif inB a1 40 then
        some ((), (o3.2.1, (upL o3.2.2 20 a0 a1.toNatClampNeg o3.1)))
      else none
theorem fX1_put_ex : ∃ f : Nat → Int32 → Int64 → MM → Option (Unit × MM), f = fX1_put_b := ⟨_, rfl⟩
noncomputable def fX1_put : Nat → Int32 → Int64 → MM → Option (Unit × MM) := Classical.choose fX1_put_ex
theorem fX1_put_eq : fX1_put = fX1_put_b := Classical.choose_spec fX1_put_ex
noncomputable def fX1_take_b (a0 : Nat) (a1 : Int32) (m : MM) : Option (Int64 × MM) :=
  (fX1_isRow a0 m).bind fun o1 =>
  if (bI o1.1) = 0 then
    some (0, o1.2)
  else
    (fX1_hasPlace a0 a1 o1.2).bind fun o2 =>
    if (bI o2.1) = 0 then
      some (0, o2.2)
    else
      bif inB a1 40 then
        some ((o2.2.2 20 a0 a1.toNatClampNeg), o2.2)
      else none
theorem fX1_take_ex : ∃ f : Nat → Int32 → MM → Option (Int64 × MM), f = fX1_take_b := ⟨_, rfl⟩
noncomputable def fX1_take : Nat → Int32 → MM → Option (Int64 × MM) := Classical.choose fX1_take_ex
theorem fX1_take_eq : fX1_take = fX1_take_b := Classical.choose_spec fX1_take_ex
noncomputable def fX2_hasRoom_b (a0 : Nat) (m : MM) : Option (Bool × MM) :=
  if (nI 250) ≤ (m.1 2 a0 0) then
    some (false, m)
  else
    some (true, m)
theorem fX2_hasRoom_ex : ∃ f : Nat → MM → Option (Bool × MM), f = fX2_hasRoom_b := ⟨_, rfl⟩
noncomputable def fX2_hasRoom : Nat → MM → Option (Bool × MM) := Classical.choose fX2_hasRoom_ex
theorem fX2_hasRoom_eq : fX2_hasRoom = fX2_hasRoom_b := Classical.choose_spec fX2_hasRoom_ex
noncomputable def fX2_append_b (a0 : Nat) (a1 : Int32) (m : MM) : Option (Int32 × MM) :=
  if (m.1 2 a0 0) < 0 then
    some ((m.1 2 a0 0), m)
  else
    if (nI 250) ≤ (m.1 2 a0 0) then
      some ((m.1 2 a0 0), m)
    else
      bif inB (m.1 2 a0 0) 250 then
        some (((upI (upI m.1 45 0 (m.1 2 a0 0).toNatClampNeg a1) 2 a0 0 (((upI m.1 45 0 (m.1 2 a0 0).toNatClampNeg a1) 2 a0 0) + 1)) 2 a0 0), ((upI (upI m.1 45 0 (m.1 2 a0 0).toNatClampNeg a1) 2 a0 0 (((upI m.1 45 0 (m.1 2 a0 0).toNatClampNeg a1) 2 a0 0) + 1)), m.2))
      else none
theorem fX2_append_ex : ∃ f : Nat → Int32 → MM → Option (Int32 × MM), f = fX2_append_b := ⟨_, rfl⟩
noncomputable def fX2_append : Nat → Int32 → MM → Option (Int32 × MM) := Classical.choose fX2_append_ex
theorem fX2_append_eq : fX2_append = fX2_append_b := Classical.choose_spec fX2_append_ex
noncomputable def fX2_mostOf_b (a0 : Nat) (a1 : Int32) (a2 : Int32) (m : MM) : Option (Int32 × MM) :=
  if a1 = 0 then
    some (30, m)
  else
    if a1 = 1 then
      if ¬ a2 = 0 then
        if ¬ a2 = 1 then
          some (1, m)
        else
          some (3, m)
      else
        some (((m.1 5 a0 0) - 1), m)
    else
      if a1 = 2 then
        if ¬ a2 = 0 then
          if ¬ a2 = 1 then
            if ¬ a2 = 2 then
              some (((m.1 5 a0 6) - 1), m)
            else
              some (((m.1 5 a0 0) - 1), m)
          else
            some (9, m)
        else
          some (5, m)
      else
        if a1 = 3 then
          if ¬ a2 = 0 then
            some (6, m)
          else
            some (((m.1 5 a0 0) - 1), m)
        else
          if a1 = 4 then
            some (4, m)
          else
            some (999, m)
theorem fX2_mostOf_ex : ∃ f : Nat → Int32 → Int32 → MM → Option (Int32 × MM), f = fX2_mostOf_b := ⟨_, rfl⟩
noncomputable def fX2_mostOf : Nat → Int32 → Int32 → MM → Option (Int32 × MM) := Classical.choose fX2_mostOf_ex
theorem fX2_mostOf_eq : fX2_mostOf = fX2_mostOf_b := Classical.choose_spec fX2_mostOf_ex
noncomputable def fX2_numbersOf_b (a0 : Int32) (m : MM) : Option (Int32 × MM) :=
  if a0 = 1 then
    some (3, m)
  else
    if a0 = 2 then
      some (4, m)
    else
      if a0 = 3 then
        some (2, m)
      else
        some (1, m)
theorem fX2_numbersOf_ex : ∃ f : Int32 → MM → Option (Int32 × MM), f = fX2_numbersOf_b := ⟨_, rfl⟩
noncomputable def fX2_numbersOf : Int32 → MM → Option (Int32 × MM) := Classical.choose fX2_numbersOf_ex
theorem fX2_numbersOf_eq : fX2_numbersOf = fX2_numbersOf_b := Classical.choose_spec fX2_numbersOf_ex
noncomputable def fX5_bottleAt_b (a0 : Nat) (a1 : Int32) (m : MM) : Option (Option Nat × MM) :=
  if a1 < 0 then
    some (none, m)
  else
    if (m.1 5 a0 5) ≤ a1 then
      some (none, m)
    else
      if (nI 8) ≤ a1 then
        some (none, m)
      else
        bif inB a1 8 then
          some ((some (9 * a0 + 1 + a1.toNatClampNeg)), m)
        else none
theorem fX5_bottleAt_ex : ∃ f : Nat → Int32 → MM → Option (Option Nat × MM), f = fX5_bottleAt_b := ⟨_, rfl⟩
noncomputable def fX5_bottleAt : Nat → Int32 → MM → Option (Option Nat × MM) := Classical.choose fX5_bottleAt_ex
theorem fX5_bottleAt_eq : fX5_bottleAt = fX5_bottleAt_b := Classical.choose_spec fX5_bottleAt_ex
noncomputable def fX5_hasRoomForBottle_b (a0 : Nat) (m : MM) : Option (Bool × MM) :=
  if (nI 8) ≤ (m.1 5 a0 5) then
    some (false, m)
  else
    some (true, m)
theorem fX5_hasRoomForBottle_ex : ∃ f : Nat → MM → Option (Bool × MM), f = fX5_hasRoomForBottle_b := ⟨_, rfl⟩
noncomputable def fX5_hasRoomForBottle : Nat → MM → Option (Bool × MM) := Classical.choose fX5_hasRoomForBottle_ex
theorem fX5_hasRoomForBottle_eq : fX5_hasRoomForBottle = fX5_hasRoomForBottle_b := Classical.choose_spec fX5_hasRoomForBottle_ex
noncomputable def fX5_addBottle_b (a0 : Nat) (a1 : Int32) (a2 : Int32) (a3 : Int32) (a4 : Int32) (m : MM) : Option (Int32 × MM) :=
  (fX5_hasRoomForBottle a0 m).bind fun o1 =>
  if ¬ (bI o1.1) = 0 then
    (fX5_bottleAt a0 (m.1 5 a0 5) ((upI o1.2.1 5 a0 5 ((o1.2.1 5 a0 5) + 1)), o1.2.2)).bind fun o2 => match o2.1 with
    | none =>
      some ((m.1 5 a0 5), o2.2)
    | some i3 =>
      (fX0_start i3 a1 a2 a3 a4 o2.2).bind fun o4 =>
      some ((m.1 5 a0 5), o4.2)
  else
    some ((-1), o1.2)
theorem fX5_addBottle_ex : ∃ f : Nat → Int32 → Int32 → Int32 → Int32 → MM → Option (Int32 × MM), f = fX5_addBottle_b := ⟨_, rfl⟩
noncomputable def fX5_addBottle : Nat → Int32 → Int32 → Int32 → Int32 → MM → Option (Int32 × MM) := Classical.choose fX5_addBottle_ex
theorem fX5_addBottle_eq : fX5_addBottle = fX5_addBottle_b := Classical.choose_spec fX5_addBottle_ex
noncomputable def fX4_start_b (a0 : Nat) (a1 : Int32) (a2 : Int32) (a3 : Int32) (m : MM) : Option (Unit × MM) :=
  some ((), ((upI (upI (upI m.1 4 a0 0 a1) 4 a0 1 a2) 4 a0 2 a3), m.2))
theorem fX4_start_ex : ∃ f : Nat → Int32 → Int32 → Int32 → MM → Option (Unit × MM), f = fX4_start_b := ⟨_, rfl⟩
noncomputable def fX4_start : Nat → Int32 → Int32 → Int32 → MM → Option (Unit × MM) := Classical.choose fX4_start_ex
theorem fX4_start_eq : fX4_start = fX4_start_b := Classical.choose_spec fX4_start_ex
noncomputable def fX5_hasRoomForWalker_b (a0 : Nat) (m : MM) : Option (Bool × MM) :=
  if (nI 6) ≤ (m.1 5 a0 6) then
    some (false, m)
  else
    some (true, m)
theorem fX5_hasRoomForWalker_ex : ∃ f : Nat → MM → Option (Bool × MM), f = fX5_hasRoomForWalker_b := ⟨_, rfl⟩
noncomputable def fX5_hasRoomForWalker : Nat → MM → Option (Bool × MM) := Classical.choose fX5_hasRoomForWalker_ex
theorem fX5_hasRoomForWalker_eq : fX5_hasRoomForWalker = fX5_hasRoomForWalker_b := Classical.choose_spec fX5_hasRoomForWalker_ex
noncomputable def fX5_walkerAt_b (a0 : Nat) (a1 : Int32) (m : MM) : Option (Option Nat × MM) :=
  if a1 < 0 then
    some (none, m)
  else
    if (m.1 5 a0 6) ≤ a1 then
      some (none, m)
    else
      if (nI 6) ≤ a1 then
        some (none, m)
      else
        bif inB a1 6 then
          some ((some (7 * a0 + 1 + a1.toNatClampNeg)), m)
        else none
theorem fX5_walkerAt_ex : ∃ f : Nat → Int32 → MM → Option (Option Nat × MM), f = fX5_walkerAt_b := ⟨_, rfl⟩
noncomputable def fX5_walkerAt : Nat → Int32 → MM → Option (Option Nat × MM) := Classical.choose fX5_walkerAt_ex
theorem fX5_walkerAt_eq : fX5_walkerAt = fX5_walkerAt_b := Classical.choose_spec fX5_walkerAt_ex
noncomputable def fX5_addWalker_b (a0 : Nat) (a1 : Int32) (a2 : Int32) (a3 : Int32) (m : MM) : Option (Int32 × MM) :=
  (fX5_hasRoomForWalker a0 m).bind fun o1 =>
  if ¬ (bI o1.1) = 0 then
    (fX5_walkerAt a0 (m.1 5 a0 6) ((upI o1.2.1 5 a0 6 ((o1.2.1 5 a0 6) + 1)), o1.2.2)).bind fun o2 => match o2.1 with
    | none =>
      some ((m.1 5 a0 6), o2.2)
    | some i3 =>
      (fX4_start i3 a1 a2 a3 o2.2).bind fun o4 =>
      some ((m.1 5 a0 6), o4.2)
  else
    some ((-1), o1.2)
theorem fX5_addWalker_ex : ∃ f : Nat → Int32 → Int32 → Int32 → MM → Option (Int32 × MM), f = fX5_addWalker_b := ⟨_, rfl⟩
noncomputable def fX5_addWalker : Nat → Int32 → Int32 → Int32 → MM → Option (Int32 × MM) := Classical.choose fX5_addWalker_ex
theorem fX5_addWalker_eq : fX5_addWalker = fX5_addWalker_b := Classical.choose_spec fX5_addWalker_ex
noncomputable def fX5_setFlow_b (a0 : Nat) (a1 : Int32) (a2 : Int32) (m : MM) : Option (Unit × MM) :=
  if a1 < 0 then
    some ((), m)
  else
    if (nI 30) ≤ a1 then
      some ((), m)
    else
      bif inB a1 30 then
        some ((), ((upI m.1 40 a0 a1.toNatClampNeg a2), m.2))
      else none
theorem fX5_setFlow_ex : ∃ f : Nat → Int32 → Int32 → MM → Option (Unit × MM), f = fX5_setFlow_b := ⟨_, rfl⟩
noncomputable def fX5_setFlow : Nat → Int32 → Int32 → MM → Option (Unit × MM) := Classical.choose fX5_setFlow_ex
theorem fX5_setFlow_eq : fX5_setFlow = fX5_setFlow_b := Classical.choose_spec fX5_setFlow_ex
noncomputable def fX2_perform_b (a0 : Nat) (a1 : Nat) (a2 : Int32) (m : MM) : Option (Unit × MM) :=
  if a2 = 0 then
    bif inB 0 4 then
      some ((), ((upI m.1 5 a1 0 (m.1 46 0 (0 : Int32).toNatClampNeg)), m.2))
    else none
  else
    if a2 = 1 then
      bif inB 0 4 then
        bif inB 1 4 then
          bif inB 2 4 then
            (fX5_addWalker a1 (m.1 46 0 (0 : Int32).toNatClampNeg) (m.1 46 0 (1 : Int32).toNatClampNeg) (m.1 46 0 (2 : Int32).toNatClampNeg) m).bind fun o3 =>
            some ((), o3.2)
          else none
        else none
      else none
    else
      if a2 = 2 then
        bif inB 0 4 then
          bif inB 1 4 then
            bif inB 2 4 then
              bif inB 3 4 then
                (fX5_addBottle a1 (m.1 46 0 (0 : Int32).toNatClampNeg) (m.1 46 0 (1 : Int32).toNatClampNeg) (m.1 46 0 (2 : Int32).toNatClampNeg) (m.1 46 0 (3 : Int32).toNatClampNeg) m).bind fun o2 =>
                some ((), o2.2)
              else none
            else none
          else none
        else none
      else
        if a2 = 3 then
          bif inB 0 4 then
            bif inB 1 4 then
              (fX5_setFlow a1 (m.1 46 0 (0 : Int32).toNatClampNeg) (m.1 46 0 (1 : Int32).toNatClampNeg) m).bind fun o1 =>
              some ((), o1.2)
            else none
          else none
        else
          if a2 = 4 then
            bif inB 0 4 then
              some ((), ((upI m.1 5 a1 1 (m.1 46 0 (0 : Int32).toNatClampNeg)), m.2))
            else none
          else
            bif inB 0 4 then
              some ((), ((upI m.1 5 a1 2 (m.1 46 0 (0 : Int32).toNatClampNeg)), m.2))
            else none
theorem fX2_perform_ex : ∃ f : Nat → Nat → Int32 → MM → Option (Unit × MM), f = fX2_perform_b := ⟨_, rfl⟩
noncomputable def fX2_perform : Nat → Nat → Int32 → MM → Option (Unit × MM) := Classical.choose fX2_perform_ex
theorem fX2_perform_eq : fX2_perform = fX2_perform_b := Classical.choose_spec fX2_perform_ex
noncomputable def fX2_byteAt_b (a0 : Nat) (a1 : Int32) (m : MM) : Option (Int32 × MM) :=
  if a1 < 0 then
    some ((-1), m)
  else
    if (m.1 2 a0 0) ≤ a1 then
      some ((-1), m)
    else
      if (nI 250) ≤ a1 then
        some ((-1), m)
      else
        bif inB a1 250 then
          some ((m.1 45 0 a1.toNatClampNeg), m)
        else none
theorem fX2_byteAt_ex : ∃ f : Nat → Int32 → MM → Option (Int32 × MM), f = fX2_byteAt_b := ⟨_, rfl⟩
noncomputable def fX2_byteAt : Nat → Int32 → MM → Option (Int32 × MM) := Classical.choose fX2_byteAt_ex
theorem fX2_byteAt_eq : fX2_byteAt = fX2_byteAt_b := Classical.choose_spec fX2_byteAt_ex
noncomputable def fX2_isDigit_b (a0 : Int32) (m : MM) : Option (Bool × MM) :=
  if a0 < 48 then
    some (false, m)
  else
    if 57 < a0 then
      some (false, m)
    else
      some (true, m)
theorem fX2_isDigit_ex : ∃ f : Int32 → MM → Option (Bool × MM), f = fX2_isDigit_b := ⟨_, rfl⟩
noncomputable def fX2_isDigit : Int32 → MM → Option (Bool × MM) := Classical.choose fX2_isDigit_ex
theorem fX2_isDigit_eq : fX2_isDigit = fX2_isDigit_b := Classical.choose_spec fX2_isDigit_ex
noncomputable def fX2_isLetter_b (a0 : Int32) (m : MM) : Option (Bool × MM) :=
  if a0 < 97 then
    some (false, m)
  else
    if 122 < a0 then
      some (false, m)
    else
      some (true, m)
theorem fX2_isLetter_ex : ∃ f : Int32 → MM → Option (Bool × MM), f = fX2_isLetter_b := ⟨_, rfl⟩
noncomputable def fX2_isLetter : Int32 → MM → Option (Bool × MM) := Classical.choose fX2_isLetter_ex
theorem fX2_isLetter_eq : fX2_isLetter = fX2_isLetter_b := Classical.choose_spec fX2_isLetter_ex
noncomputable def fX2_scanNumber_b5 (a0 : Nat) (s : Unit) (m : MM) : Option (((Unit) ⊕ (Unit)) × MM) :=
  if (m.1 2 a0 0) ≤ (m.1 2 a0 3) then
    some (Sum.inr (), m)
  else
    (fX2_byteAt a0 (m.1 2 a0 3) m).bind fun o1 =>
    (fX2_isDigit o1.1 o1.2).bind fun o2 =>
    if (bI o2.1) = 0 then
      some (Sum.inr (), o2.2)
    else
      if 3 ≤ ((o2.2.1 2 a0 3) - (o2.2.1 2 a0 1)) then
        some (Sum.inl (), ((upI (upI o2.2.1 2 a0 5 (-1)) 2 a0 3 (((upI o2.2.1 2 a0 5 (-1)) 2 a0 3) + 1)), o2.2.2))
      else
        (fX2_byteAt a0 (o2.2.1 2 a0 3) o2.2).bind fun o3 =>
        some (Sum.inl (), ((upI (upI o3.2.1 2 a0 5 (((10 * (o2.2.1 2 a0 5)) + o3.1) - 48)) 2 a0 3 (((upI o3.2.1 2 a0 5 (((10 * (o2.2.1 2 a0 5)) + o3.1) - 48)) 2 a0 3) + 1)), o3.2.2))
noncomputable def fX2_scanNumber_b (a0 : Nat) (m : MM) : Option (Unit × MM) :=
  (loopF 1000 (fX2_scanNumber_b5 a0) () ((upI m.1 2 a0 5 0), m.2)).bind fun o4 =>
  some ((), o4.2)
theorem fX2_scanNumber_ex : ∃ f : Nat → MM → Option (Unit × MM), f = fX2_scanNumber_b := ⟨_, rfl⟩
noncomputable def fX2_scanNumber : Nat → MM → Option (Unit × MM) := Classical.choose fX2_scanNumber_ex
theorem fX2_scanNumber_eq : fX2_scanNumber = fX2_scanNumber_b := Classical.choose_spec fX2_scanNumber_ex
noncomputable def fX2_scan_b0 (a0 : Nat) (s : Unit) (m : MM) : Option (((Unit) ⊕ (Unit)) × MM) :=
  if (m.1 2 a0 0) ≤ (m.1 2 a0 3) then
    some (Sum.inr (), m)
  else
    (fX2_byteAt a0 (m.1 2 a0 3) m).bind fun o1 =>
    if ¬ o1.1 = 32 then
      some (Sum.inr (), o1.2)
    else
      some (Sum.inl (), ((upI o1.2.1 2 a0 3 ((o1.2.1 2 a0 3) + 1)), o1.2.2))
noncomputable def fX2_scan_b79 (a0 : Nat) (s : Unit) (m : MM) : Option (((Unit) ⊕ (Unit)) × MM) :=
  if (m.1 2 a0 0) ≤ (m.1 2 a0 3) then
    some (Sum.inr (), m)
  else
    (fX2_byteAt a0 (m.1 2 a0 3) m).bind fun o7 =>
    (fX2_isLetter o7.1 o7.2).bind fun o8 =>
    if (bI o8.1) = 0 then
      some (Sum.inr (), o8.2)
    else
      some (Sum.inl (), ((upI o8.2.1 2 a0 3 ((o8.2.1 2 a0 3) + 1)), o8.2.2))
noncomputable def fX2_scan_j37 (a0 : Nat) (m : MM) : Option (Unit × MM) :=
  (fX2_byteAt a0 ((upI m.1 2 a0 1 (m.1 2 a0 3)) 2 a0 3) ((upI m.1 2 a0 1 (m.1 2 a0 3)), m.2)).bind fun o3 =>
  if ¬ o3.1 = (-1) then
    (fX2_isLetter o3.1 o3.2).bind fun o4 =>
    if (bI o4.1) = 0 then
      (fX2_isDigit o3.1 o4.2).bind fun o5 =>
      if (bI o5.1) = 0 then
        if ¬ o3.1 = 59 then
          some ((), ((upI (upI o5.2.1 2 a0 4 4) 2 a0 3 (((upI o5.2.1 2 a0 4 4) 2 a0 3) + 1)), o5.2.2))
        else
          some ((), ((upI (upI o5.2.1 2 a0 4 3) 2 a0 3 (((upI o5.2.1 2 a0 4 3) 2 a0 3) + 1)), o5.2.2))
      else
        (fX2_scanNumber a0 ((upI o5.2.1 2 a0 4 2), o5.2.2)).bind fun o6 =>
        some ((), o6.2)
    else
      (loopF 1000 (fX2_scan_b79 a0) () ((upI o4.2.1 2 a0 4 1), o4.2.2)).bind fun o9 =>
      some ((), o9.2)
  else
    some ((), ((upI o3.2.1 2 a0 4 0), o3.2.2))
noncomputable def fX2_scan_b (a0 : Nat) (m : MM) : Option (Unit × MM) :=
  (loopF 1000 (fX2_scan_b0 a0) () m).bind fun o2 =>
  fX2_scan_j37 a0 o2.2
theorem fX2_scan_ex : ∃ f : Nat → MM → Option (Unit × MM), f = fX2_scan_b := ⟨_, rfl⟩
noncomputable def fX2_scan : Nat → MM → Option (Unit × MM) := Classical.choose fX2_scan_ex
theorem fX2_scan_eq : fX2_scan = fX2_scan_b := Classical.choose_spec fX2_scan_ex
noncomputable def fJ0_isLatin1_aae02_b (a0 : Nat) (m : MM) : Option (Bool × MM) :=
  if ¬ (m.1 31 a0 1) = 0 then
    some (false, m)
  else
    some (true, m)
theorem fJ0_isLatin1_aae02_ex : ∃ f : Nat → MM → Option (Bool × MM), f = fJ0_isLatin1_aae02_b := ⟨_, rfl⟩
noncomputable def fJ0_isLatin1_aae02 : Nat → MM → Option (Bool × MM) := Classical.choose fJ0_isLatin1_aae02_ex
theorem fJ0_isLatin1_aae02_eq : fJ0_isLatin1_aae02 = fJ0_isLatin1_aae02_b := Classical.choose_spec fJ0_isLatin1_aae02_ex
noncomputable def fJ3_checkIndex_8e157_b (a0 : Int32) (a1 : Int32) (m : MM) : Option (Int32 × MM) :=
  if a0 < 0 then
    none
  else
    if a0 < a1 then
      some (a0, m)
    else
      none
theorem fJ3_checkIndex_8e157_ex : ∃ f : Int32 → Int32 → MM → Option (Int32 × MM), f = fJ3_checkIndex_8e157_b := ⟨_, rfl⟩
noncomputable def fJ3_checkIndex_8e157 : Int32 → Int32 → MM → Option (Int32 × MM) := Classical.choose fJ3_checkIndex_8e157_ex
theorem fJ3_checkIndex_8e157_eq : fJ3_checkIndex_8e157 = fJ3_checkIndex_8e157_b := Classical.choose_spec fJ3_checkIndex_8e157_ex
noncomputable def fJ0_checkIndex_df160_b (a0 : Int32) (a1 : Int32) (m : MM) : Option (Unit × MM) :=
  (fJ3_checkIndex_8e157 a0 a1 m).bind fun o1 =>
  some ((), o1.2)
theorem fJ0_checkIndex_df160_ex : ∃ f : Int32 → Int32 → MM → Option (Unit × MM), f = fJ0_checkIndex_df160_b := ⟨_, rfl⟩
noncomputable def fJ0_checkIndex_df160 : Int32 → Int32 → MM → Option (Unit × MM) := Classical.choose fJ0_checkIndex_df160_ex
theorem fJ0_checkIndex_df160_eq : fJ0_checkIndex_df160 = fJ0_checkIndex_df160_b := Classical.choose_spec fJ0_checkIndex_df160_ex
noncomputable def fJ1_charAt_3b067_b (a0 : Nat) (a1 : Int32) (m : MM) : Option (Int32 × MM) :=
  (fJ0_checkIndex_df160 a1 (nI ([5, 6, 6, 7, 4, 3, 6, 6, 5, 7, 4, 3].getD a0 0)) m).bind fun o1 =>
  bif inB a1 ([5, 6, 6, 7, 4, 3, 6, 6, 5, 7, 4, 3].getD a0 0) then
    some ((((o1.2.1 30 a0 a1.toNatClampNeg) &&& 255).toUInt32 % 65536).toInt32, o1.2)
  else none
theorem fJ1_charAt_3b067_ex : ∃ f : Nat → Int32 → MM → Option (Int32 × MM), f = fJ1_charAt_3b067_b := ⟨_, rfl⟩
noncomputable def fJ1_charAt_3b067 : Nat → Int32 → MM → Option (Int32 × MM) := Classical.choose fJ1_charAt_3b067_ex
theorem fJ1_charAt_3b067_eq : fJ1_charAt_3b067 = fJ1_charAt_3b067_b := Classical.choose_spec fJ1_charAt_3b067_ex
noncomputable def fJ0_charAt_5068e_b (a0 : Nat) (a1 : Int32) (m : MM) : Option (Int32 × MM) :=
  (fJ0_isLatin1_aae02 a0 m).bind fun o1 =>
  if (bI o1.1) = 0 then
    none
  else
    (fJ1_charAt_3b067 a0 a1 o1.2).bind fun o2 =>
    some (o2.1, o2.2)
theorem fJ0_charAt_5068e_ex : ∃ f : Nat → Int32 → MM → Option (Int32 × MM), f = fJ0_charAt_5068e_b := ⟨_, rfl⟩
noncomputable def fJ0_charAt_5068e : Nat → Int32 → MM → Option (Int32 × MM) := Classical.choose fJ0_charAt_5068e_ex
theorem fJ0_charAt_5068e_eq : fJ0_charAt_5068e = fJ0_charAt_5068e_b := Classical.choose_spec fJ0_charAt_5068e_ex
noncomputable def fJ0_coder_7d493_b (a0 : Nat) (m : MM) : Option (Int32 × MM) :=
  bif (m.1 31 a0 1) == 0 || (m.1 31 a0 1) == 1 then some ((m.1 31 a0 1), m) else none
theorem fJ0_coder_7d493_ex : ∃ f : Nat → MM → Option (Int32 × MM), f = fJ0_coder_7d493_b := ⟨_, rfl⟩
noncomputable def fJ0_coder_7d493 : Nat → MM → Option (Int32 × MM) := Classical.choose fJ0_coder_7d493_ex
theorem fJ0_coder_7d493_eq : fJ0_coder_7d493 = fJ0_coder_7d493_b := Classical.choose_spec fJ0_coder_7d493_ex
noncomputable def fJ0_length_8abf5_b (a0 : Nat) (m : MM) : Option (Int32 × MM) :=
  (fJ0_coder_7d493 a0 m).bind fun o1 =>
  some (((nI ([5, 6, 6, 7, 4, 3, 6, 6, 5, 7, 4, 3].getD a0 0)) >>> (o1.1 &&& 31)), o1.2)
theorem fJ0_length_8abf5_ex : ∃ f : Nat → MM → Option (Int32 × MM), f = fJ0_length_8abf5_b := ⟨_, rfl⟩
noncomputable def fJ0_length_8abf5 : Nat → MM → Option (Int32 × MM) := Classical.choose fJ0_length_8abf5_ex
theorem fJ0_length_8abf5_eq : fJ0_length_8abf5 = fJ0_length_8abf5_b := Classical.choose_spec fJ0_length_8abf5_ex
noncomputable def fX2_spells_b20 (a0 : Nat) (a1 : Nat) (s : Int32) (m : MM) : Option (((Int32) ⊕ ((Unit) ⊕ (Unit))) × MM) :=
  (fJ0_length_8abf5 a1 m).bind fun o2 =>
  if o2.1 ≤ s then
    some (Sum.inr (Sum.inl ()), o2.2)
  else
    (fX2_byteAt a0 ((o2.2.1 2 a0 1) + s) o2.2).bind fun o3 =>
    (fJ0_charAt_5068e a1 s o3.2).bind fun o4 =>
    if o3.1 = o4.1 then
      some (Sum.inl (s + 1), o4.2)
    else
      some (Sum.inr (Sum.inr ()), o4.2)
noncomputable def fX2_spells_b (a0 : Nat) (a1 : Nat) (m : MM) : Option (Bool × MM) :=
  (fJ0_length_8abf5 a1 m).bind fun o1 =>
  if ((m.1 2 a0 3) - (m.1 2 a0 1)) = o1.1 then
    (loopF 1000 (fX2_spells_b20 a0 a1) 0 o1.2).bind fun o5 => match o5.1 with
    | Sum.inl x6 =>
      some (true, o5.2)
    | Sum.inr x7 =>
      some (false, o5.2)
  else
    some (false, o1.2)
theorem fX2_spells_ex : ∃ f : Nat → Nat → MM → Option (Bool × MM), f = fX2_spells_b := ⟨_, rfl⟩
noncomputable def fX2_spells : Nat → Nat → MM → Option (Bool × MM) := Classical.choose fX2_spells_ex
theorem fX2_spells_eq : fX2_spells = fX2_spells_b := Classical.choose_spec fX2_spells_ex
noncomputable def fX2_wordNumber_b (a0 : Nat) (m : MM) : Option (Int32 × MM) :=
  (fX2_spells a0 0 m).bind fun o1 =>
  if (bI o1.1) = 0 then
    (fX2_spells a0 1 o1.2).bind fun o2 =>
    if (bI o2.1) = 0 then
      (fX2_spells a0 2 o2.2).bind fun o3 =>
      if (bI o3.1) = 0 then
        (fX2_spells a0 3 o3.2).bind fun o4 =>
        if (bI o4.1) = 0 then
          (fX2_spells a0 4 o4.2).bind fun o5 =>
          if (bI o5.1) = 0 then
            (fX2_spells a0 5 o5.2).bind fun o6 =>
            if (bI o6.1) = 0 then
              some ((-1), o6.2)
            else
              some (5, o6.2)
          else
            some (4, o5.2)
        else
          some (3, o4.2)
      else
        some (2, o3.2)
    else
      some (1, o2.2)
  else
    some (0, o1.2)
theorem fX2_wordNumber_ex : ∃ f : Nat → MM → Option (Int32 × MM), f = fX2_wordNumber_b := ⟨_, rfl⟩
noncomputable def fX2_wordNumber : Nat → MM → Option (Int32 × MM) := Classical.choose fX2_wordNumber_ex
theorem fX2_wordNumber_eq : fX2_wordNumber = fX2_wordNumber_b := Classical.choose_spec fX2_wordNumber_ex
noncomputable def fX2_readStatement_j92 (a0 : Nat) (a1 : Nat) (a2 : Int32) (a3 : Int32) (a4 : Int32) (z0 : Int32) (m : MM) : Option (((Int32) ⊕ ((Unit) ⊕ (Unit))) × MM) :=
  if ¬ (m.1 2 a0 4) = 2 then
    some (Sum.inr (Sum.inr ()), m)
  else
    if (m.1 2 a0 5) < z0 then
      some (Sum.inr (Sum.inr ()), m)
    else
      (fX2_mostOf a1 a2 a4 m).bind fun o4 =>
      if (m.1 2 a0 5) ≤ o4.1 then
        bif inB a4 4 then
          some (Sum.inl (a4 + 1), ((upI o4.2.1 46 0 a4.toNatClampNeg (o4.2.1 2 a0 5)), o4.2.2))
        else none
      else
        some (Sum.inr (Sum.inr ()), o4.2)
noncomputable def fX2_readStatement_b60 (a0 : Nat) (a1 : Nat) (a2 : Int32) (a3 : Int32) (s : Int32) (m : MM) : Option (((Int32) ⊕ ((Unit) ⊕ (Unit))) × MM) :=
  if a3 ≤ s then
    some (Sum.inr (Sum.inl ()), m)
  else
    if (nI 4) ≤ s then
      some (Sum.inr (Sum.inl ()), m)
    else
      (fX2_scan a0 m).bind fun o3 =>
      if ¬ a2 = 0 then
        fX2_readStatement_j92 a0 a1 a2 a3 s 0 o3.2
      else
        fX2_readStatement_j92 a0 a1 a2 a3 s (o3.2.1 5 a1 0) o3.2
noncomputable def fX2_readStatement_j52 (a0 : Nat) (a1 : Nat) (a2 : Int32) (m : MM) : Option (Bool × MM) :=
  (fX2_numbersOf a2 m).bind fun o2 =>
  (loopF 1000 (fX2_readStatement_b60 a0 a1 a2 o2.1) 0 o2.2).bind fun o5 => match o5.1 with
  | Sum.inl x6 =>
    (fX2_perform a0 a1 a2 o5.2).bind fun o7 =>
    some (true, o7.2)
  | Sum.inr x8 =>
    some (false, o5.2)
noncomputable def fX2_readStatement_j38 (a0 : Nat) (a1 : Nat) (a2 : Int32) (m : MM) : Option (Bool × MM) :=
  if ¬ a2 = 2 then
    fX2_readStatement_j52 a0 a1 a2 m
  else
    (fX5_hasRoomForBottle a1 m).bind fun o9 =>
    if ¬ (bI o9.1) = 0 then
      fX2_readStatement_j52 a0 a1 a2 o9.2
    else
      some (false, o9.2)
noncomputable def fX2_readStatement_j20 (a0 : Nat) (a1 : Nat) (z0 : Int32) (m : MM) : Option (Bool × MM) :=
  if z0 = (-1) then
    some (false, m)
  else
    if ¬ z0 = 1 then
      fX2_readStatement_j38 a0 a1 z0 m
    else
      (fX5_hasRoomForWalker a1 m).bind fun o10 =>
      if (bI o10.1) = 0 then
        some (false, o10.2)
      else
        fX2_readStatement_j38 a0 a1 z0 o10.2
noncomputable def fX2_readStatement_b (a0 : Nat) (a1 : Nat) (m : MM) : Option (Bool × MM) :=
  (fX2_scan a0 m).bind fun o1 =>
  if ¬ (o1.2.1 2 a0 4) = 1 then
    fX2_readStatement_j20 a0 a1 (-1) o1.2
  else
    (fX2_wordNumber a0 o1.2).bind fun o11 =>
    fX2_readStatement_j20 a0 a1 o11.1 o11.2
theorem fX2_readStatement_ex : ∃ f : Nat → Nat → MM → Option (Bool × MM), f = fX2_readStatement_b := ⟨_, rfl⟩
noncomputable def fX2_readStatement : Nat → Nat → MM → Option (Bool × MM) := Classical.choose fX2_readStatement_ex
theorem fX2_readStatement_eq : fX2_readStatement = fX2_readStatement_b := Classical.choose_spec fX2_readStatement_ex
noncomputable def fX2_readInto_b9 (a0 : Nat) (a1 : Nat) (s : Int32 × Int32) (m : MM) : Option (((Int32 × Int32) ⊕ ((Unit) ⊕ ((Unit) ⊕ ((Int32) ⊕ (Unit))))) × MM) :=
  if (nI 250) < s.2 then
    some (Sum.inr (Sum.inl ()), m)
  else
    (fX2_readStatement a0 a1 m).bind fun o1 =>
    if ¬ (bI o1.1) = 0 then
      (fX2_scan a0 o1.2).bind fun o2 =>
      if ¬ (o2.2.1 2 a0 4) = 0 then
        if (o2.2.1 2 a0 4) = 3 then
          some (Sum.inl ((s.1 + 1), (s.2 + 1)), o2.2)
        else
          some (Sum.inr (Sum.inr (Sum.inl ())), o2.2)
      else
        some (Sum.inr (Sum.inr (Sum.inr (Sum.inl (s.1 + 1)))), o2.2)
    else
      some (Sum.inr (Sum.inr (Sum.inr (Sum.inr ()))), o1.2)
noncomputable def fX2_readInto_b (a0 : Nat) (a1 : Nat) (m : MM) : Option (Int32 × MM) :=
  (loopF 1000 (fX2_readInto_b9 a0 a1) (0, 0) ((upI m.1 2 a0 3 0), m.2)).bind fun o3 => match o3.1 with
  | Sum.inl x4 =>
    some ((-1), o3.2)
  | Sum.inr (Sum.inl x5) =>
    some ((-1), o3.2)
  | Sum.inr (Sum.inr (Sum.inl x6)) =>
    some (x6, o3.2)
  | Sum.inr (Sum.inr (Sum.inr x7)) =>
    some ((-1), o3.2)
theorem fX2_readInto_ex : ∃ f : Nat → Nat → MM → Option (Int32 × MM), f = fX2_readInto_b := ⟨_, rfl⟩
noncomputable def fX2_readInto : Nat → Nat → MM → Option (Int32 × MM) := Classical.choose fX2_readInto_ex
theorem fX2_readInto_eq : fX2_readInto = fX2_readInto_b := Classical.choose_spec fX2_readInto_ex
noncomputable def fX3_mark_b (a0 : Nat) (a1 : Int32) (a2 : Nat) (m : MM) : Option (Unit × MM) :=
  if a1 < 0 then
    some ((), m)
  else
    if (nI 61) ≤ a1 then
      some ((), m)
    else
      if (nI 61) ≤ a1 then
        some ((), m)
      else
        bif inB a1 61 then
          bif inB a1 61 then
            some ((), ((upI (upI m.1 41 a0 a1.toNatClampNeg (m.1 0 a2 2)) 42 a0 a1.toNatClampNeg ((upI m.1 41 a0 a1.toNatClampNeg (m.1 0 a2 2)) 0 a2 4)), m.2))
          else none
        else none
theorem fX3_mark_ex : ∃ f : Nat → Int32 → Nat → MM → Option (Unit × MM), f = fX3_mark_b := ⟨_, rfl⟩
noncomputable def fX3_mark : Nat → Int32 → Nat → MM → Option (Unit × MM) := Classical.choose fX3_mark_ex
theorem fX3_mark_eq : fX3_mark = fX3_mark_b := Classical.choose_spec fX3_mark_ex
noncomputable def fX3_cellAt_b (a0 : Nat) (a1 : Int32) (m : MM) : Option (Int32 × MM) :=
  if a1 < 0 then
    some ((-1), m)
  else
    if (nI 61) ≤ a1 then
      some ((-1), m)
    else
      bif inB a1 61 then
        some ((m.1 41 a0 a1.toNatClampNeg), m)
      else none
theorem fX3_cellAt_ex : ∃ f : Nat → Int32 → MM → Option (Int32 × MM), f = fX3_cellAt_b := ⟨_, rfl⟩
noncomputable def fX3_cellAt : Nat → Int32 → MM → Option (Int32 × MM) := Classical.choose fX3_cellAt_ex
theorem fX3_cellAt_eq : fX3_cellAt = fX3_cellAt_b := Classical.choose_spec fX3_cellAt_ex
noncomputable def fX3_howAt_b (a0 : Nat) (a1 : Int32) (m : MM) : Option (Int32 × MM) :=
  if a1 < 0 then
    some ((-1), m)
  else
    if (nI 61) ≤ a1 then
      some ((-1), m)
    else
      bif inB a1 61 then
        some ((m.1 42 a0 a1.toNatClampNeg), m)
      else none
theorem fX3_howAt_ex : ∃ f : Nat → Int32 → MM → Option (Int32 × MM), f = fX3_howAt_b := ⟨_, rfl⟩
noncomputable def fX3_howAt : Nat → Int32 → MM → Option (Int32 × MM) := Classical.choose fX3_howAt_ex
theorem fX3_howAt_eq : fX3_howAt = fX3_howAt_b := Classical.choose_spec fX3_howAt_ex
noncomputable def fX3_cellsVisited_b4 (a0 : Nat) (a1 : Int32) (s : Int32 × Int32) (m : MM) : Option (((Int32 × Int32) ⊕ (Int32)) × MM) :=
  if a1 < s.2 then
    some (Sum.inr s.1, m)
  else
    (fX3_cellAt a0 s.2 m).bind fun o1 =>
    some (Sum.inl ((s.1 ||| (1 <<< (o1.1 &&& 31))), (s.2 + 1)), o1.2)
noncomputable def fX3_cellsVisited_b (a0 : Nat) (a1 : Int32) (m : MM) : Option (Int32 × MM) :=
  (loopF 1000 (fX3_cellsVisited_b4 a0 a1) (0, 0) m).bind fun o2 =>
  some (o2.1, o2.2)
theorem fX3_cellsVisited_ex : ∃ f : Nat → Int32 → MM → Option (Int32 × MM), f = fX3_cellsVisited_b := ⟨_, rfl⟩
noncomputable def fX3_cellsVisited : Nat → Int32 → MM → Option (Int32 × MM) := Classical.choose fX3_cellsVisited_ex
theorem fX3_cellsVisited_eq : fX3_cellsVisited = fX3_cellsVisited_b := Classical.choose_spec fX3_cellsVisited_ex
noncomputable def fX4_become_b (a0 : Nat) (a1 : Nat) (m : MM) : Option (Unit × MM) :=
  (fX4_start a0 (m.1 4 a1 0) (m.1 4 a1 1) (m.1 4 a1 2) m).bind fun o1 =>
  some ((), o1.2)
theorem fX4_become_ex : ∃ f : Nat → Nat → MM → Option (Unit × MM), f = fX4_become_b := ⟨_, rfl⟩
noncomputable def fX4_become : Nat → Nat → MM → Option (Unit × MM) := Classical.choose fX4_become_ex
theorem fX4_become_eq : fX4_become = fX4_become_b := Classical.choose_spec fX4_become_ex
noncomputable def fX4_tellOf_b (a0 : Nat) (a1 : Int32) (m : MM) : Option (Int32 × MM) :=
  if ¬ a1 = 0 then
    if ¬ a1 = 1 then
      some ((m.1 4 a0 2), m)
    else
      some ((m.1 4 a0 1), m)
  else
    some ((m.1 4 a0 0), m)
theorem fX4_tellOf_ex : ∃ f : Nat → Int32 → MM → Option (Int32 × MM), f = fX4_tellOf_b := ⟨_, rfl⟩
noncomputable def fX4_tellOf : Nat → Int32 → MM → Option (Int32 × MM) := Classical.choose fX4_tellOf_ex
theorem fX4_tellOf_eq : fX4_tellOf = fX4_tellOf_b := Classical.choose_spec fX4_tellOf_ex
noncomputable def fX4_stroll_j35 (a0 : Nat) (a1 : Int32) (a2 : Int32) (m : MM) : Option (((Int32) ⊕ (Unit)) × MM) :=
  if ¬ (m.1 4 a0 2) = 1 then
    if ¬ (m.1 4 a0 2) = 0 then
      some (Sum.inl (a2 + 1), ((upI m.1 4 a0 0 ((m.1 4 a0 0) + (-1))), m.2))
    else
      some (Sum.inl (a2 + 1), ((upI m.1 4 a0 0 ((m.1 4 a0 0) + 1)), m.2))
  else
    if 0 < (m.1 4 a0 0) then
      if ¬ (m.1 4 a0 2) = 0 then
        some (Sum.inl (a2 + 1), ((upI m.1 4 a0 0 ((m.1 4 a0 0) + (-1))), m.2))
      else
        some (Sum.inl (a2 + 1), ((upI m.1 4 a0 0 ((m.1 4 a0 0) + 1)), m.2))
    else
      if ¬ ((upI m.1 4 a0 2 0) 4 a0 2) = 0 then
        some (Sum.inl (a2 + 1), ((upI (upI m.1 4 a0 2 0) 4 a0 0 (((upI m.1 4 a0 2 0) 4 a0 0) + (-1))), m.2))
      else
        some (Sum.inl (a2 + 1), ((upI (upI m.1 4 a0 2 0) 4 a0 0 (((upI m.1 4 a0 2 0) 4 a0 0) + 1)), m.2))
noncomputable def fX4_stroll_b2 (a0 : Nat) (a1 : Int32) (s : Int32) (m : MM) : Option (((Int32) ⊕ (Unit)) × MM) :=
  if (m.1 4 a0 1) ≤ s then
    some (Sum.inr (), m)
  else
    if ¬ (m.1 4 a0 2) = 0 then
      fX4_stroll_j35 a0 a1 s m
    else
      if (m.1 4 a0 0) < (a1 - 1) then
        fX4_stroll_j35 a0 a1 s m
      else
        if ¬ ((upI m.1 4 a0 2 1) 4 a0 2) = 0 then
          some (Sum.inl (s + 1), ((upI (upI m.1 4 a0 2 1) 4 a0 0 (((upI m.1 4 a0 2 1) 4 a0 0) + (-1))), m.2))
        else
          some (Sum.inl (s + 1), ((upI (upI m.1 4 a0 2 1) 4 a0 0 (((upI m.1 4 a0 2 1) 4 a0 0) + 1)), m.2))
noncomputable def fX4_stroll_b (a0 : Nat) (a1 : Int32) (m : MM) : Option (Unit × MM) :=
  (loopF 1000 (fX4_stroll_b2 a0 a1) 0 m).bind fun o1 =>
  some ((), o1.2)
theorem fX4_stroll_ex : ∃ f : Nat → Int32 → MM → Option (Unit × MM), f = fX4_stroll_b := ⟨_, rfl⟩
noncomputable def fX4_stroll : Nat → Int32 → MM → Option (Unit × MM) := Classical.choose fX4_stroll_ex
theorem fX4_stroll_eq : fX4_stroll = fX4_stroll_b := Classical.choose_spec fX4_stroll_ex
noncomputable def fX5_flow_b (a0 : Nat) (a1 : Int32) (m : MM) : Option (Int32 × MM) :=
  if a1 < 0 then
    some (3, m)
  else
    if (nI 30) ≤ a1 then
      some (3, m)
    else
      bif inB a1 30 then
        some ((m.1 40 a0 a1.toNatClampNeg), m)
      else none
theorem fX5_flow_ex : ∃ f : Nat → Int32 → MM → Option (Int32 × MM), f = fX5_flow_b := ⟨_, rfl⟩
noncomputable def fX5_flow : Nat → Int32 → MM → Option (Int32 × MM) := Classical.choose fX5_flow_ex
theorem fX5_flow_eq : fX5_flow = fX5_flow_b := Classical.choose_spec fX5_flow_ex
noncomputable def fX5_become_b58 (a0 : Nat) (a1 : Nat) (s : Int32) (m : MM) : Option (((Int32) ⊕ (Unit)) × MM) :=
  if (nI 30) ≤ s then
    some (Sum.inr (), m)
  else
    (fX5_flow a1 s m).bind fun o1 =>
    bif inB s 30 then
      some (Sum.inl (s + 1), ((upI o1.2.1 40 a0 s.toNatClampNeg o1.1), o1.2.2))
    else none
noncomputable def fX5_become_b86 (a0 : Nat) (a1 : Nat) (s : Int32) (m : MM) : Option (((Int32) ⊕ (Unit)) × MM) :=
  if (m.1 5 a0 5) ≤ s then
    some (Sum.inr (), m)
  else
    (fX5_bottleAt a0 s m).bind fun o3 => match o3.1 with
    | none =>
      (fX5_bottleAt a1 s o3.2).bind fun o5 => match o5.1 with
      | none =>
        some (Sum.inl (s + 1), o5.2)
      | some i6 =>
        some (Sum.inl (s + 1), o5.2)
    | some i4 =>
      (fX5_bottleAt a1 s o3.2).bind fun o7 => match o7.1 with
      | none =>
        some (Sum.inl (s + 1), o7.2)
      | some i8 =>
        (fX0_become i4 i8 o7.2).bind fun o9 =>
        some (Sum.inl (s + 1), o9.2)
noncomputable def fX5_become_b130 (a0 : Nat) (a1 : Nat) (s : Int32) (m : MM) : Option (((Int32) ⊕ (Unit)) × MM) :=
  if (m.1 5 a0 6) ≤ s then
    some (Sum.inr (), m)
  else
    (fX5_walkerAt a0 s m).bind fun o11 => match o11.1 with
    | none =>
      (fX5_walkerAt a1 s o11.2).bind fun o13 => match o13.1 with
      | none =>
        some (Sum.inl (s + 1), o13.2)
      | some i14 =>
        some (Sum.inl (s + 1), o13.2)
    | some i12 =>
      (fX5_walkerAt a1 s o11.2).bind fun o15 => match o15.1 with
      | none =>
        some (Sum.inl (s + 1), o15.2)
      | some i16 =>
        (fX4_become i12 i16 o15.2).bind fun o17 =>
        some (Sum.inl (s + 1), o17.2)
noncomputable def fX5_become_b (a0 : Nat) (a1 : Nat) (m : MM) : Option (Unit × MM) :=
  (loopF 1000 (fX5_become_b58 a0 a1) 0 ((upI (upI (upI (upI (upI (upI (upI m.1 5 a0 0 (m.1 5 a1 0)) 5 a0 1 ((upI m.1 5 a0 0 (m.1 5 a1 0)) 5 a1 1)) 5 a0 2 ((upI (upI m.1 5 a0 0 (m.1 5 a1 0)) 5 a0 1 ((upI m.1 5 a0 0 (m.1 5 a1 0)) 5 a1 1)) 5 a1 2)) 5 a0 3 ((upI (upI (upI m.1 5 a0 0 (m.1 5 a1 0)) 5 a0 1 ((upI m.1 5 a0 0 (m.1 5 a1 0)) 5 a1 1)) 5 a0 2 ((upI (upI m.1 5 a0 0 (m.1 5 a1 0)) 5 a0 1 ((upI m.1 5 a0 0 (m.1 5 a1 0)) 5 a1 1)) 5 a1 2)) 5 a1 3)) 5 a0 4 ((upI (upI (upI (upI m.1 5 a0 0 (m.1 5 a1 0)) 5 a0 1 ((upI m.1 5 a0 0 (m.1 5 a1 0)) 5 a1 1)) 5 a0 2 ((upI (upI m.1 5 a0 0 (m.1 5 a1 0)) 5 a0 1 ((upI m.1 5 a0 0 (m.1 5 a1 0)) 5 a1 1)) 5 a1 2)) 5 a0 3 ((upI (upI (upI m.1 5 a0 0 (m.1 5 a1 0)) 5 a0 1 ((upI m.1 5 a0 0 (m.1 5 a1 0)) 5 a1 1)) 5 a0 2 ((upI (upI m.1 5 a0 0 (m.1 5 a1 0)) 5 a0 1 ((upI m.1 5 a0 0 (m.1 5 a1 0)) 5 a1 1)) 5 a1 2)) 5 a1 3)) 5 a1 4)) 5 a0 5 ((upI (upI (upI (upI (upI m.1 5 a0 0 (m.1 5 a1 0)) 5 a0 1 ((upI m.1 5 a0 0 (m.1 5 a1 0)) 5 a1 1)) 5 a0 2 ((upI (upI m.1 5 a0 0 (m.1 5 a1 0)) 5 a0 1 ((upI m.1 5 a0 0 (m.1 5 a1 0)) 5 a1 1)) 5 a1 2)) 5 a0 3 ((upI (upI (upI m.1 5 a0 0 (m.1 5 a1 0)) 5 a0 1 ((upI m.1 5 a0 0 (m.1 5 a1 0)) 5 a1 1)) 5 a0 2 ((upI (upI m.1 5 a0 0 (m.1 5 a1 0)) 5 a0 1 ((upI m.1 5 a0 0 (m.1 5 a1 0)) 5 a1 1)) 5 a1 2)) 5 a1 3)) 5 a0 4 ((upI (upI (upI (upI m.1 5 a0 0 (m.1 5 a1 0)) 5 a0 1 ((upI m.1 5 a0 0 (m.1 5 a1 0)) 5 a1 1)) 5 a0 2 ((upI (upI m.1 5 a0 0 (m.1 5 a1 0)) 5 a0 1 ((upI m.1 5 a0 0 (m.1 5 a1 0)) 5 a1 1)) 5 a1 2)) 5 a0 3 ((upI (upI (upI m.1 5 a0 0 (m.1 5 a1 0)) 5 a0 1 ((upI m.1 5 a0 0 (m.1 5 a1 0)) 5 a1 1)) 5 a0 2 ((upI (upI m.1 5 a0 0 (m.1 5 a1 0)) 5 a0 1 ((upI m.1 5 a0 0 (m.1 5 a1 0)) 5 a1 1)) 5 a1 2)) 5 a1 3)) 5 a1 4)) 5 a1 5)) 5 a0 6 ((upI (upI (upI (upI (upI (upI m.1 5 a0 0 (m.1 5 a1 0)) 5 a0 1 ((upI m.1 5 a0 0 (m.1 5 a1 0)) 5 a1 1)) 5 a0 2 ((upI (upI m.1 5 a0 0 (m.1 5 a1 0)) 5 a0 1 ((upI m.1 5 a0 0 (m.1 5 a1 0)) 5 a1 1)) 5 a1 2)) 5 a0 3 ((upI (upI (upI m.1 5 a0 0 (m.1 5 a1 0)) 5 a0 1 ((upI m.1 5 a0 0 (m.1 5 a1 0)) 5 a1 1)) 5 a0 2 ((upI (upI m.1 5 a0 0 (m.1 5 a1 0)) 5 a0 1 ((upI m.1 5 a0 0 (m.1 5 a1 0)) 5 a1 1)) 5 a1 2)) 5 a1 3)) 5 a0 4 ((upI (upI (upI (upI m.1 5 a0 0 (m.1 5 a1 0)) 5 a0 1 ((upI m.1 5 a0 0 (m.1 5 a1 0)) 5 a1 1)) 5 a0 2 ((upI (upI m.1 5 a0 0 (m.1 5 a1 0)) 5 a0 1 ((upI m.1 5 a0 0 (m.1 5 a1 0)) 5 a1 1)) 5 a1 2)) 5 a0 3 ((upI (upI (upI m.1 5 a0 0 (m.1 5 a1 0)) 5 a0 1 ((upI m.1 5 a0 0 (m.1 5 a1 0)) 5 a1 1)) 5 a0 2 ((upI (upI m.1 5 a0 0 (m.1 5 a1 0)) 5 a0 1 ((upI m.1 5 a0 0 (m.1 5 a1 0)) 5 a1 1)) 5 a1 2)) 5 a1 3)) 5 a1 4)) 5 a0 5 ((upI (upI (upI (upI (upI m.1 5 a0 0 (m.1 5 a1 0)) 5 a0 1 ((upI m.1 5 a0 0 (m.1 5 a1 0)) 5 a1 1)) 5 a0 2 ((upI (upI m.1 5 a0 0 (m.1 5 a1 0)) 5 a0 1 ((upI m.1 5 a0 0 (m.1 5 a1 0)) 5 a1 1)) 5 a1 2)) 5 a0 3 ((upI (upI (upI m.1 5 a0 0 (m.1 5 a1 0)) 5 a0 1 ((upI m.1 5 a0 0 (m.1 5 a1 0)) 5 a1 1)) 5 a0 2 ((upI (upI m.1 5 a0 0 (m.1 5 a1 0)) 5 a0 1 ((upI m.1 5 a0 0 (m.1 5 a1 0)) 5 a1 1)) 5 a1 2)) 5 a1 3)) 5 a0 4 ((upI (upI (upI (upI m.1 5 a0 0 (m.1 5 a1 0)) 5 a0 1 ((upI m.1 5 a0 0 (m.1 5 a1 0)) 5 a1 1)) 5 a0 2 ((upI (upI m.1 5 a0 0 (m.1 5 a1 0)) 5 a0 1 ((upI m.1 5 a0 0 (m.1 5 a1 0)) 5 a1 1)) 5 a1 2)) 5 a0 3 ((upI (upI (upI m.1 5 a0 0 (m.1 5 a1 0)) 5 a0 1 ((upI m.1 5 a0 0 (m.1 5 a1 0)) 5 a1 1)) 5 a0 2 ((upI (upI m.1 5 a0 0 (m.1 5 a1 0)) 5 a0 1 ((upI m.1 5 a0 0 (m.1 5 a1 0)) 5 a1 1)) 5 a1 2)) 5 a1 3)) 5 a1 4)) 5 a1 5)) 5 a1 6)), m.2)).bind fun o2 =>
  (loopF 1000 (fX5_become_b86 a0 a1) 0 o2.2).bind fun o10 =>
  (loopF 1000 (fX5_become_b130 a0 a1) 0 o10.2).bind fun o18 =>
  some ((), o18.2)
theorem fX5_become_ex : ∃ f : Nat → Nat → MM → Option (Unit × MM), f = fX5_become_b := ⟨_, rfl⟩
noncomputable def fX5_become : Nat → Nat → MM → Option (Unit × MM) := Classical.choose fX5_become_ex
theorem fX5_become_eq : fX5_become = fX5_become_b := Classical.choose_spec fX5_become_ex
noncomputable def fX5_hasCell_b (a0 : Nat) (a1 : Int32) (m : MM) : Option (Bool × MM) :=
  if a1 < 0 then
    some (false, m)
  else
    if (m.1 5 a0 0) ≤ a1 then
      some (false, m)
    else
      some (true, m)
theorem fX5_hasCell_ex : ∃ f : Nat → Int32 → MM → Option (Bool × MM), f = fX5_hasCell_b := ⟨_, rfl⟩
noncomputable def fX5_hasCell : Nat → Int32 → MM → Option (Bool × MM) := Classical.choose fX5_hasCell_ex
theorem fX5_hasCell_eq : fX5_hasCell = fX5_hasCell_b := Classical.choose_spec fX5_hasCell_ex
noncomputable def fX5_addressedTo_b4 (a0 : Nat) (a1 : Int32) (s : Int32 × Int32) (m : MM) : Option (((Int32 × Int32) ⊕ (Int32)) × MM) :=
  if (m.1 5 a0 5) ≤ s.2 then
    some (Sum.inr s.1, m)
  else
    (fX5_bottleAt a0 s.2 m).bind fun o1 => match o1.1 with
    | none =>
      some (Sum.inl (s.1, (s.2 + 1)), o1.2)
    | some i2 =>
      if ¬ (o1.2.1 0 i2 3) = a1 then
        some (Sum.inl (s.1, (s.2 + 1)), o1.2)
      else
        some (Sum.inl ((s.1 ||| (1 <<< (s.2 &&& 31))), (s.2 + 1)), o1.2)
noncomputable def fX5_addressedTo_b (a0 : Nat) (a1 : Int32) (m : MM) : Option (Int32 × MM) :=
  (loopF 1000 (fX5_addressedTo_b4 a0 a1) (0, 0) m).bind fun o3 =>
  some (o3.1, o3.2)
theorem fX5_addressedTo_ex : ∃ f : Nat → Int32 → MM → Option (Int32 × MM), f = fX5_addressedTo_b := ⟨_, rfl⟩
noncomputable def fX5_addressedTo : Nat → Int32 → MM → Option (Int32 × MM) := Classical.choose fX5_addressedTo_ex
theorem fX5_addressedTo_eq : fX5_addressedTo = fX5_addressedTo_b := Classical.choose_spec fX5_addressedTo_ex
noncomputable def fX5_afloatIn_b4 (a0 : Nat) (a1 : Int32) (s : Int32 × Int32) (m : MM) : Option (((Int32 × Int32) ⊕ (Int32)) × MM) :=
  if (m.1 5 a0 5) ≤ s.2 then
    some (Sum.inr s.1, m)
  else
    (fX5_bottleAt a0 s.2 m).bind fun o1 => match o1.1 with
    | none =>
      some (Sum.inl (s.1, (s.2 + 1)), o1.2)
    | some i2 =>
      if ¬ (o1.2.1 0 i2 4) = 0 then
        some (Sum.inl (s.1, (s.2 + 1)), o1.2)
      else
        if ¬ (o1.2.1 0 i2 2) = a1 then
          some (Sum.inl (s.1, (s.2 + 1)), o1.2)
        else
          some (Sum.inl ((s.1 ||| (1 <<< (s.2 &&& 31))), (s.2 + 1)), o1.2)
noncomputable def fX5_afloatIn_b (a0 : Nat) (a1 : Int32) (m : MM) : Option (Int32 × MM) :=
  (loopF 1000 (fX5_afloatIn_b4 a0 a1) (0, 0) m).bind fun o3 =>
  some (o3.1, o3.2)
theorem fX5_afloatIn_ex : ∃ f : Nat → Int32 → MM → Option (Int32 × MM), f = fX5_afloatIn_b := ⟨_, rfl⟩
noncomputable def fX5_afloatIn : Nat → Int32 → MM → Option (Int32 × MM) := Classical.choose fX5_afloatIn_ex
theorem fX5_afloatIn_eq : fX5_afloatIn = fX5_afloatIn_b := Classical.choose_spec fX5_afloatIn_ex
noncomputable def fX5_walkersAt_b4 (a0 : Nat) (a1 : Int32) (s : Int32 × Int32) (m : MM) : Option (((Int32 × Int32) ⊕ (Int32)) × MM) :=
  if (m.1 5 a0 6) ≤ s.2 then
    some (Sum.inr s.1, m)
  else
    (fX5_walkerAt a0 s.2 m).bind fun o1 => match o1.1 with
    | none =>
      some (Sum.inl (s.1, (s.2 + 1)), o1.2)
    | some i2 =>
      if ¬ (o1.2.1 4 i2 0) = a1 then
        some (Sum.inl (s.1, (s.2 + 1)), o1.2)
      else
        some (Sum.inl ((s.1 ||| (1 <<< (s.2 &&& 31))), (s.2 + 1)), o1.2)
noncomputable def fX5_walkersAt_b (a0 : Nat) (a1 : Int32) (m : MM) : Option (Int32 × MM) :=
  (loopF 1000 (fX5_walkersAt_b4 a0 a1) (0, 0) m).bind fun o3 =>
  some (o3.1, o3.2)
theorem fX5_walkersAt_ex : ∃ f : Nat → Int32 → MM → Option (Int32 × MM), f = fX5_walkersAt_b := ⟨_, rfl⟩
noncomputable def fX5_walkersAt : Nat → Int32 → MM → Option (Int32 × MM) := Classical.choose fX5_walkersAt_ex
theorem fX5_walkersAt_eq : fX5_walkersAt = fX5_walkersAt_b := Classical.choose_spec fX5_walkersAt_ex
noncomputable def fX5_dayBehind_b (a0 : Nat) (a1 : Int32) (m : MM) : Option (Int32 × MM) :=
  some ((mnI 999 ((m.1 5 a0 2) + a1)), m)
theorem fX5_dayBehind_ex : ∃ f : Nat → Int32 → MM → Option (Int32 × MM), f = fX5_dayBehind_b := ⟨_, rfl⟩
noncomputable def fX5_dayBehind : Nat → Int32 → MM → Option (Int32 × MM) := Classical.choose fX5_dayBehind_ex
theorem fX5_dayBehind_eq : fX5_dayBehind = fX5_dayBehind_b := Classical.choose_spec fX5_dayBehind_ex
noncomputable def fX5_push_b (a0 : Nat) (a1 : Nat) (a2 : Int32) (m : MM) : Option (Int32 × MM) :=
  (fX5_flow a0 (m.1 0 a1 2) m).bind fun o1 =>
  if (o1.2.1 0 a1 0) = 1 then
    some ((o1.1 - 3), o1.2)
  else
    if (o1.2.1 0 a1 0) = 2 then
      some (((o1.1 - 3) + (2 * ((o1.2.1 5 a0 1) - 2))), o1.2)
    else
      if (o1.2.1 0 a1 0) = 3 then
        if ¬ (a2 - a2 / 2 * 2) = 0 then
          some (0, o1.2)
        else
          some ((o1.1 - 3), o1.2)
      else
        if (o1.2.1 0 a1 0) = 4 then
          some (((((o1.1 - 3) + (2 * ((o1.2.1 5 a0 1) - 2))) + ((o1.2.1 0 a1 1) - (o1.2.1 0 a1 1) / 3 * 3)) - 1), o1.2)
        else
          some (((o1.1 - 3) + ((o1.2.1 5 a0 1) - 2)), o1.2)
theorem fX5_push_ex : ∃ f : Nat → Nat → Int32 → MM → Option (Int32 × MM), f = fX5_push_b := ⟨_, rfl⟩
noncomputable def fX5_push : Nat → Nat → Int32 → MM → Option (Int32 × MM) := Classical.choose fX5_push_ex
theorem fX5_push_eq : fX5_push = fX5_push_b := Classical.choose_spec fX5_push_ex
noncomputable def fX5_spend_b (a0 : Nat) (a1 : Nat) (a2 : Int32) (a3 : Int32) (m : MM) : Option (Unit × MM) :=
  if (m.1 0 a1 4) = 0 then
    (fX5_push a0 a1 a2 m).bind fun o1 =>
    (fX6_toughnessOf (o1.2.1 0 a1 0) (o1.2.1 0 a1 1) o1.2).bind fun o2 =>
    if (abI o1.1) ≤ o2.1 then
      if ¬ ((upI o2.2.1 0 a1 2 (mxI 0 (mnI ((o2.2.1 5 a0 0) - 1) ((o2.2.1 0 a1 2) + o1.1)))) 0 a1 2) = a3 then
        some ((), ((upI o2.2.1 0 a1 2 (mxI 0 (mnI ((o2.2.1 5 a0 0) - 1) ((o2.2.1 0 a1 2) + o1.1)))), o2.2.2))
      else
        some ((), ((upI (upI o2.2.1 0 a1 2 (mxI 0 (mnI ((o2.2.1 5 a0 0) - 1) ((o2.2.1 0 a1 2) + o1.1)))) 0 a1 4 1), o2.2.2))
    else
      some ((), ((upI o2.2.1 0 a1 4 2), o2.2.2))
  else
    some ((), m)
theorem fX5_spend_ex : ∃ f : Nat → Nat → Int32 → Int32 → MM → Option (Unit × MM), f = fX5_spend_b := ⟨_, rfl⟩
noncomputable def fX5_spend : Nat → Nat → Int32 → Int32 → MM → Option (Unit × MM) := Classical.choose fX5_spend_ex
theorem fX5_spend_eq : fX5_spend = fX5_spend_b := Classical.choose_spec fX5_spend_ex
noncomputable def fX5_follow_j54 (a0 : Nat) (a1 : Nat) (a4 : Int32) (a5 : Int32) (m : MM) : Option (((Int32) ⊕ (Unit)) × MM) :=
  (fX5_dayBehind a0 (a5 - 1) m).bind fun o3 =>
  (fX5_spend a0 (9 * a0) o3.1 (-1) o3.2).bind fun o4 =>
  (fX3_mark a1 a5 (9 * a0) o4.2).bind fun o5 =>
  some (Sum.inl (a5 + 1), o5.2)
noncomputable def fX5_follow_b32n3 (a0 : Nat) (a1 : Nat) (a4 : Int32) (s : Int32) (m : MM) : Option (((Int32) ⊕ (Unit)) × MM) :=
  if a4 < s then
    some (Sum.inr (), m)
  else
    fX5_follow_j54 a0 a1 a4 s m
noncomputable def fX5_follow_j54_3_32 (a0 : Nat) (a1 : Nat) (a3 : Nat) (a4 : Int32) (a5 : Int32) (m : MM) : Option (((Int32) ⊕ (Unit)) × MM) :=
  (fX5_dayBehind a0 (a5 - 1) m).bind fun o11 =>
  (fX5_spend a0 (9 * a0) o11.1 (o11.2.1 4 (7 * a0) 0) o11.2).bind fun o12 =>
  (fX3_mark a1 a5 (9 * a0) o12.2).bind fun o13 =>
  some (Sum.inl (a5 + 1), o13.2)
noncomputable def fX5_follow_b32 (a0 : Nat) (a1 : Nat) (a3 : Nat) (a4 : Int32) (s : Int32) (m : MM) : Option (((Int32) ⊕ (Unit)) × MM) :=
  if a4 < s then
    some (Sum.inr (), m)
  else
    (fX4_stroll (7 * a0) (m.1 5 a0 0) m).bind fun o10 =>
    fX5_follow_j54_3_32 a0 a1 a3 a4 s o10.2
noncomputable def fX5_follow_j20 (a0 : Nat) (a1 : Nat) (a4 : Int32) (m : MM) : Option (Unit × MM) :=
  (fX3_mark a1 0 (9 * a0) m).bind fun o2 =>
  (loopF 1000 (fX5_follow_b32n3 a0 a1 a4) 1 o2.2).bind fun o6 =>
  some ((), o6.2)
noncomputable def fX5_follow_j20_2 (a0 : Nat) (a1 : Nat) (a3 : Nat) (a4 : Int32) (m : MM) : Option (Unit × MM) :=
  (fX3_mark a1 0 (9 * a0) m).bind fun o9 =>
  (loopF 1000 (fX5_follow_b32 a0 a1 a3 a4) 1 o9.2).bind fun o14 =>
  some ((), o14.2)
noncomputable def fX5_follow_0 (a0 : Nat) (a1 : Nat) (a2 : Nat) (a4 : Int32) (m : MM) : Option (Unit × MM) :=
  (fX0_become (9 * a0) a2 m).bind fun o1 =>
  fX5_follow_j20 a0 a1 a4 o1.2
noncomputable def fX5_follow_1 (a0 : Nat) (a1 : Nat) (a2 : Nat) (a3 : Nat) (a4 : Int32) (m : MM) : Option (Unit × MM) :=
  (fX0_become (9 * a0) a2 m).bind fun o7 =>
  (fX4_become (7 * a0) a3 o7.2).bind fun o8 =>
  fX5_follow_j20_2 a0 a1 a3 a4 o8.2
noncomputable def fX5_follow_b (a0 : Nat) (a1 : Nat) (a2 : Nat) (a3 : Option Nat) (a4 : Int32) (m : MM) : Option (Unit × MM) :=
  match a3 with
  | none => fX5_follow_0 a0 a1 a2 a4 m
  | some a3 => fX5_follow_1 a0 a1 a2 a3 a4 m
theorem fX5_follow_ex : ∃ f : Nat → Nat → Nat → Option Nat → Int32 → MM → Option (Unit × MM), f = fX5_follow_b := ⟨_, rfl⟩
noncomputable def fX5_follow : Nat → Nat → Nat → Option Nat → Int32 → MM → Option (Unit × MM) := Classical.choose fX5_follow_ex
theorem fX5_follow_eq : fX5_follow = fX5_follow_b := Classical.choose_spec fX5_follow_ex
noncomputable def fX5_soonest_b35 (a0 : Nat) (a3 : Int32) (s : Int32) (m : MM) : Option (((Int32) ⊕ ((Unit) ⊕ (Int32))) × MM) :=
  if a3 < s then
    some (Sum.inr (Sum.inl ()), m)
  else
    if ¬ (m.1 0 (9 * a0) 4) = 0 then
      some (Sum.inr (Sum.inl ()), m)
    else
      (fX4_stroll (7 * a0) (m.1 5 a0 0) m).bind fun o3 =>
      (fX5_dayBehind a0 (s - 1) o3.2).bind fun o4 =>
      (fX5_spend a0 (9 * a0) o4.1 (o4.2.1 4 (7 * a0) 0) o4.2).bind fun o5 =>
      if ¬ (o5.2.1 0 (9 * a0) 4) = 1 then
        some (Sum.inl (s + 1), o5.2)
      else
        some (Sum.inr (Sum.inr s), o5.2)
noncomputable def fX5_soonest_0 (a0 : Nat) (a1 : Nat) (a3 : Int32) (m : MM) : Option (Int32 × MM) :=
  if ¬ (m.1 0 a1 4) = 1 then
    some ((-1), m)
  else
    some (0, m)
noncomputable def fX5_soonest_1 (a0 : Nat) (a1 : Nat) (a2 : Nat) (a3 : Int32) (m : MM) : Option (Int32 × MM) :=
  if ¬ (m.1 0 a1 4) = 1 then
    (fX0_become (9 * a0) a1 m).bind fun o1 =>
    (fX4_become (7 * a0) a2 o1.2).bind fun o2 =>
    (loopF 1000 (fX5_soonest_b35 a0 a3) 1 o2.2).bind fun o6 => match o6.1 with
    | Sum.inl x7 =>
      some ((-1), o6.2)
    | Sum.inr x8 =>
      some (x8, o6.2)
  else
    some (0, m)
noncomputable def fX5_soonest_b (a0 : Nat) (a1 : Nat) (a2 : Option Nat) (a3 : Int32) (m : MM) : Option (Int32 × MM) :=
  match a2 with
  | none => fX5_soonest_0 a0 a1 a3 m
  | some a2 => fX5_soonest_1 a0 a1 a2 a3 m
theorem fX5_soonest_ex : ∃ f : Nat → Nat → Option Nat → Int32 → MM → Option (Int32 × MM), f = fX5_soonest_b := ⟨_, rfl⟩
noncomputable def fX5_soonest : Nat → Nat → Option Nat → Int32 → MM → Option (Int32 × MM) := Classical.choose fX5_soonest_ex
theorem fX5_soonest_eq : fX5_soonest = fX5_soonest_b := Classical.choose_spec fX5_soonest_ex
noncomputable def fX5_daysTillFound_b (a0 : Nat) (a1 : Nat) (m : MM) : Option (Int32 × MM) :=
  (fX5_walkerAt a0 (m.1 0 a1 3) m).bind fun o1 => match o1.1 with
  | none =>
    (fX5_soonest a0 a1 none 60 o1.2).bind fun o3 =>
    some (o3.1, o3.2)
  | some i2 =>
    (fX5_soonest a0 a1 (some i2) 60 o1.2).bind fun o4 =>
    some (o4.1, o4.2)
theorem fX5_daysTillFound_ex : ∃ f : Nat → Nat → MM → Option (Int32 × MM), f = fX5_daysTillFound_b := ⟨_, rfl⟩
noncomputable def fX5_daysTillFound : Nat → Nat → MM → Option (Int32 × MM) := Classical.choose fX5_daysTillFound_ex
theorem fX5_daysTillFound_eq : fX5_daysTillFound = fX5_daysTillFound_b := Classical.choose_spec fX5_daysTillFound_ex
noncomputable def fX5_countFound_b4 (a0 : Nat) (a1 : Int32) (s : Int32 × Int32) (m : MM) : Option (((Int32 × Int32) ⊕ (Int32)) × MM) :=
  if (m.1 5 a0 5) ≤ s.2 then
    some (Sum.inr s.1, m)
  else
    (fX5_bottleAt a0 s.2 m).bind fun o1 => match o1.1 with
    | none =>
      some (Sum.inl (s.1, (s.2 + 1)), o1.2)
    | some i2 =>
      if ¬ (o1.2.1 0 i2 4) = 0 then
        some (Sum.inl (s.1, (s.2 + 1)), o1.2)
      else
        (fX5_walkerAt a0 (o1.2.1 0 i2 3) o1.2).bind fun o3 => match o3.1 with
        | none =>
          (fX5_soonest a0 i2 none a1 o3.2).bind fun o5 =>
          if o5.1 = (-1) then
            some (Sum.inl (s.1, (s.2 + 1)), o5.2)
          else
            some (Sum.inl ((s.1 + 1), (s.2 + 1)), o5.2)
        | some i4 =>
          (fX5_soonest a0 i2 (some i4) a1 o3.2).bind fun o6 =>
          if o6.1 = (-1) then
            some (Sum.inl (s.1, (s.2 + 1)), o6.2)
          else
            some (Sum.inl ((s.1 + 1), (s.2 + 1)), o6.2)
noncomputable def fX5_countFound_b (a0 : Nat) (a1 : Int32) (m : MM) : Option (Int32 × MM) :=
  (loopF 1000 (fX5_countFound_b4 a0 a1) (0, 0) m).bind fun o7 =>
  some (o7.1, o7.2)
theorem fX5_countFound_ex : ∃ f : Nat → Int32 → MM → Option (Int32 × MM), f = fX5_countFound_b := ⟨_, rfl⟩
noncomputable def fX5_countFound : Nat → Int32 → MM → Option (Int32 × MM) := Classical.choose fX5_countFound_ex
theorem fX5_countFound_eq : fX5_countFound = fX5_countFound_b := Classical.choose_spec fX5_countFound_ex
noncomputable def fX5_passDay_b2 (a0 : Nat) (s : Int32) (m : MM) : Option (((Int32) ⊕ (Unit)) × MM) :=
  if (m.1 5 a0 6) ≤ s then
    some (Sum.inr (), m)
  else
    (fX5_walkerAt a0 s m).bind fun o1 => match o1.1 with
    | none =>
      some (Sum.inl (s + 1), o1.2)
    | some i2 =>
      (fX4_stroll i2 (o1.2.1 5 a0 0) o1.2).bind fun o3 =>
      some (Sum.inl (s + 1), o3.2)
noncomputable def fX5_passDay_b38 (a0 : Nat) (s : Int32 × Int32) (m : MM) : Option (((Int32 × Int32) ⊕ (Int32)) × MM) :=
  if (m.1 5 a0 5) ≤ s.2 then
    some (Sum.inr s.1, m)
  else
    (fX5_bottleAt a0 s.2 m).bind fun o5 => match o5.1 with
    | none =>
      some (Sum.inl (s.1, (s.2 + 1)), o5.2)
    | some i6 =>
      if (o5.2.1 0 i6 4) = 0 then
        (fX5_walkerAt a0 (o5.2.1 0 i6 3) o5.2).bind fun o7 => match o7.1 with
        | none =>
          (fX5_spend a0 i6 (o7.2.1 5 a0 2) (-1) o7.2).bind fun o9 =>
          if ¬ (o9.2.1 0 i6 4) = 1 then
            some (Sum.inl (s.1, (s.2 + 1)), o9.2)
          else
            some (Sum.inl ((s.1 + 1), (s.2 + 1)), o9.2)
        | some i8 =>
          (fX5_spend a0 i6 (o7.2.1 5 a0 2) (o7.2.1 4 i8 0) o7.2).bind fun o10 =>
          if ¬ (o10.2.1 0 i6 4) = 1 then
            some (Sum.inl (s.1, (s.2 + 1)), o10.2)
          else
            some (Sum.inl ((s.1 + 1), (s.2 + 1)), o10.2)
      else
        some (Sum.inl (s.1, (s.2 + 1)), o5.2)
noncomputable def fX5_passDay_b (a0 : Nat) (m : MM) : Option (Int32 × MM) :=
  (loopF 1000 (fX5_passDay_b2 a0) 0 m).bind fun o4 =>
  (loopF 1000 (fX5_passDay_b38 a0) (0, 0) o4.2).bind fun o11 =>
  (fX5_dayBehind a0 1 ((upI o11.2.1 5 a0 3 ((o11.2.1 5 a0 3) + o11.1)), o11.2.2)).bind fun o12 =>
  some (o11.1, ((upI o12.2.1 5 a0 2 o12.1), o12.2.2))
theorem fX5_passDay_ex : ∃ f : Nat → MM → Option (Int32 × MM), f = fX5_passDay_b := ⟨_, rfl⟩
noncomputable def fX5_passDay : Nat → MM → Option (Int32 × MM) := Classical.choose fX5_passDay_ex
theorem fX5_passDay_eq : fX5_passDay = fX5_passDay_b := Classical.choose_spec fX5_passDay_ex
noncomputable def fX5_draw_b (a0 : Nat) (a1 : Int32) (m : MM) : Option (Int32 × MM) :=
  if 0 < a1 then
    if a1 = 0 then
      none
    else
      some (((usr ((upI m.1 5 a0 4 (((m.1 5 a0 4) * 1103515245) + 12345)) 5 a0 4) 16) - (usr ((upI m.1 5 a0 4 (((m.1 5 a0 4) * 1103515245) + 12345)) 5 a0 4) 16) / a1 * a1), ((upI m.1 5 a0 4 (((m.1 5 a0 4) * 1103515245) + 12345)), m.2))
  else
    some (0, ((upI m.1 5 a0 4 (((m.1 5 a0 4) * 1103515245) + 12345)), m.2))
theorem fX5_draw_ex : ∃ f : Nat → Int32 → MM → Option (Int32 × MM), f = fX5_draw_b := ⟨_, rfl⟩
noncomputable def fX5_draw : Nat → Int32 → MM → Option (Int32 × MM) := Classical.choose fX5_draw_ex
theorem fX5_draw_eq : fX5_draw = fX5_draw_b := Classical.choose_spec fX5_draw_ex
noncomputable def fX5_passDrawnDay_b (a0 : Nat) (m : MM) : Option (Int32 × MM) :=
  (fX5_draw a0 5 m).bind fun o1 =>
  (fX5_draw a0 ((upI o1.2.1 5 a0 1 o1.1) 5 a0 5) ((upI o1.2.1 5 a0 1 o1.1), o1.2.2)).bind fun o2 =>
  (fX5_bottleAt a0 o2.1 o2.2).bind fun o3 => match o3.1 with
  | none =>
    (fX5_draw a0 (o3.2.1 5 a0 0) o3.2).bind fun o5 =>
    (fX5_passDay a0 o5.2).bind fun o6 =>
    some (o6.1, o6.2)
  | some i4 =>
    (fX5_draw a0 (o3.2.1 5 a0 0) o3.2).bind fun o7 =>
    if (o7.2.1 0 i4 4) = 0 then
      (fX5_passDay a0 o7.2).bind fun o8 =>
      some (o8.1, o8.2)
    else
      (fX5_passDay a0 ((upI (upI o7.2.1 0 i4 4 0) 0 i4 2 o7.1), o7.2.2)).bind fun o9 =>
      some (o9.1, o9.2)
theorem fX5_passDrawnDay_ex : ∃ f : Nat → MM → Option (Int32 × MM), f = fX5_passDrawnDay_b := ⟨_, rfl⟩
noncomputable def fX5_passDrawnDay : Nat → MM → Option (Int32 × MM) := Classical.choose fX5_passDrawnDay_ex
theorem fX5_passDrawnDay_eq : fX5_passDrawnDay = fX5_passDrawnDay_b := Classical.choose_spec fX5_passDrawnDay_ex
noncomputable def fX6_refuse_j6 (a0 : Nat) (a1 : Int32) (a2 : Int32) (m : MM) : Option (Int32 × MM) :=
  if a2 < 0 then
    some (a1, m)
  else
    if (nI 5) ≤ a2 then
      some (a1, m)
    else
      bif inB a2 5 then
        bif inB a2 5 then
          some (a1, ((upI m.1 47 0 a2.toNatClampNeg ((m.1 47 0 a2.toNatClampNeg) + 1)), m.2))
        else none
      else none
noncomputable def fX6_refuse_b (a0 : Nat) (a1 : Int32) (m : MM) : Option (Int32 × MM) :=
  fX6_refuse_j6 a0 a1 ((-1002) - a1) m
theorem fX6_refuse_ex : ∃ f : Nat → Int32 → MM → Option (Int32 × MM), f = fX6_refuse_b := ⟨_, rfl⟩
noncomputable def fX6_refuse : Nat → Int32 → MM → Option (Int32 × MM) := Classical.choose fX6_refuse_ex
theorem fX6_refuse_eq : fX6_refuse = fX6_refuse_b := Classical.choose_spec fX6_refuse_ex
noncomputable def fX6_shelfAt_b (a0 : Nat) (a1 : Int32) (m : MM) : Option (Option Nat × MM) :=
  if a1 < 0 then
    some (none, m)
  else
    if (nI 8) ≤ a1 then
      some (none, m)
    else
      bif inB a1 8 then
        some ((some a1.toNatClampNeg), m)
      else none
theorem fX6_shelfAt_ex : ∃ f : Nat → Int32 → MM → Option (Option Nat × MM), f = fX6_shelfAt_b := ⟨_, rfl⟩
noncomputable def fX6_shelfAt : Nat → Int32 → MM → Option (Option Nat × MM) := Classical.choose fX6_shelfAt_ex
theorem fX6_shelfAt_eq : fX6_shelfAt = fX6_shelfAt_b := Classical.choose_spec fX6_shelfAt_ex
noncomputable def fX6_within_b (a0 : Int32) (a1 : Int32) (a2 : Int32) (m : MM) : Option (Bool × MM) :=
  if a0 < a1 then
    some (false, m)
  else
    if a2 < a0 then
      some (false, m)
    else
      some (true, m)
theorem fX6_within_ex : ∃ f : Int32 → Int32 → Int32 → MM → Option (Bool × MM), f = fX6_within_b := ⟨_, rfl⟩
noncomputable def fX6_within : Int32 → Int32 → Int32 → MM → Option (Bool × MM) := Classical.choose fX6_within_ex
theorem fX6_within_eq : fX6_within = fX6_within_b := Classical.choose_spec fX6_within_ex
noncomputable def fX6_row_b (a0 : Nat) (a1 : Int32) (a2 : Int32) (a3 : Int32) (m : MM) : Option (Int32 × MM) :=
  (fX6_shelfAt a0 a1 m).bind fun o1 => match o1.1 with
  | none =>
    (fX6_refuse a0 (-1002) o1.2).bind fun o3 =>
    some (o3.1, o3.2)
  | some i2 =>
    (fX6_within a2 0 4 o1.2).bind fun o4 =>
    if (bI o4.1) = 0 then
      (fX6_refuse a0 (-1002) o4.2).bind fun o5 =>
      some (o5.1, o5.2)
    else
      (fX6_within a3 0 40 o4.2).bind fun o6 =>
      if ¬ (bI o6.1) = 0 then
        (fX1_startRow i2 a2 a3 o6.2).bind fun o7 =>
        some (1, o7.2)
      else
        (fX6_refuse a0 (-1002) o6.2).bind fun o8 =>
        some (o8.1, o8.2)
theorem fX6_row_ex : ∃ f : Nat → Int32 → Int32 → Int32 → MM → Option (Int32 × MM), f = fX6_row_b := ⟨_, rfl⟩
noncomputable def fX6_row : Nat → Int32 → Int32 → Int32 → MM → Option (Int32 × MM) := Classical.choose fX6_row_ex
theorem fX6_row_eq : fX6_row = fX6_row_b := Classical.choose_spec fX6_row_ex
noncomputable def fX6_set_b (a0 : Nat) (a1 : Int32) (a2 : Int32) (a3 : Int64) (m : MM) : Option (Int32 × MM) :=
  (fX6_shelfAt a0 a1 m).bind fun o1 => match o1.1 with
  | none =>
    (fX6_refuse a0 (-1002) o1.2).bind fun o3 =>
    some (o3.1, o3.2)
  | some i2 =>
    (fX1_isRow i2 o1.2).bind fun o4 =>
    if ¬ (bI o4.1) = 0 then
      (fX1_hasPlace i2 a2 o4.2).bind fun o5 =>
      if ¬ (bI o5.1) = 0 then
        (fX1_put i2 a2 a3 o5.2).bind fun o6 =>
        some (1, o6.2)
      else
        (fX6_refuse a0 (-1002) o5.2).bind fun o7 =>
        some (o7.1, o7.2)
    else
      (fX1_whyNoRow i2 o4.2).bind fun o8 =>
      (fX6_refuse a0 o8.1 o8.2).bind fun o9 =>
      some (o9.1, o9.2)
theorem fX6_set_ex : ∃ f : Nat → Int32 → Int32 → Int64 → MM → Option (Int32 × MM), f = fX6_set_b := ⟨_, rfl⟩
noncomputable def fX6_set : Nat → Int32 → Int32 → Int64 → MM → Option (Int32 × MM) := Classical.choose fX6_set_ex
theorem fX6_set_eq : fX6_set = fX6_set_b := Classical.choose_spec fX6_set_ex
noncomputable def fX6_copy_j105 (a0 : Nat) (a3 : Int32) (a4 : Int32) (a5 : Int32) (a6 : Nat) (a7 : Nat) (a8 : Int32) (m : MM) : Option (Int32 × MM) :=
  if ¬ a8 = 0 then
    (fX1_hasSpan a6 a3 a5 m).bind fun o14 =>
    if (bI o14.1) = 0 then
      (fX6_refuse a0 (-1002) o14.2).bind fun o15 =>
      some (o15.1, o15.2)
    else
      (fX1_hasSpan a7 a4 a5 o14.2).bind fun o16 =>
      if ¬ (bI o16.1) = 0 then
        if 0 ≤ a3 ∧ 0 ≤ a4 ∧ 0 ≤ a5 ∧ a3.toNatClampNeg + a5.toNatClampNeg ≤ 40 ∧ a4.toNatClampNeg + a5.toNatClampNeg ≤ 40 then
          some (a5, (o16.2.1, (cpL o16.2.2 20 a6 a3.toNatClampNeg 20 a7 a4.toNatClampNeg a5.toNatClampNeg)))
        else
          none
      else
        (fX6_refuse a0 (-1002) o16.2).bind fun o17 =>
        some (o17.1, o17.2)
  else
    (fX6_refuse a0 (-1004) m).bind fun o18 =>
    some (o18.1, o18.2)
noncomputable def fX6_copy_j77 (a0 : Nat) (a3 : Int32) (a4 : Int32) (a5 : Int32) (a6 : Nat) (a7 : Nat) (z0 : Int32) (m : MM) : Option (Int32 × MM) :=
  if z0 = 0 then
    fX6_copy_j105 a0 a3 a4 a5 a6 a7 z0 m
  else
    if (m.1 1 a6 0) = (m.1 1 a7 0) then
      fX6_copy_j105 a0 a3 a4 a5 a6 a7 z0 m
    else
      (fX6_refuse a0 (-1003) m).bind fun o19 =>
      some (o19.1, o19.2)
noncomputable def fX6_copy_j76 (a0 : Nat) (a3 : Int32) (a4 : Int32) (a5 : Int32) (a6 : Nat) (a7 : Nat) (m : MM) : Option (Int32 × MM) :=
  fX6_copy_j77 a0 a3 a4 a5 a6 a7 0 m
noncomputable def fX6_copy_b (a0 : Nat) (a1 : Int32) (a2 : Int32) (a3 : Int32) (a4 : Int32) (a5 : Int32) (m : MM) : Option (Int32 × MM) :=
  (fX6_shelfAt a0 a1 m).bind fun o1 => match o1.1 with
  | none =>
    (fX6_shelfAt a0 a2 o1.2).bind fun o3 => match o3.1 with
    | none =>
      (fX6_refuse a0 (-1002) o3.2).bind fun o5 =>
      some (o5.1, o5.2)
    | some i4 =>
      (fX6_refuse a0 (-1002) o3.2).bind fun o6 =>
      some (o6.1, o6.2)
  | some i2 =>
    (fX6_shelfAt a0 a2 o1.2).bind fun o7 => match o7.1 with
    | none =>
      (fX6_refuse a0 (-1002) o7.2).bind fun o9 =>
      some (o9.1, o9.2)
    | some i8 =>
      (fX1_isBottle i2 o7.2).bind fun o10 =>
      if ¬ (bI o10.1) = 0 then
        (fX6_refuse a0 (-1003) o10.2).bind fun o11 =>
        some (o11.1, o11.2)
      else
        (fX1_isBottle i8 o10.2).bind fun o12 =>
        if (bI o12.1) = 0 then
          (fX1_isRow i2 o12.2).bind fun o13 =>
          if (bI o13.1) = 0 then
            fX6_copy_j76 a0 a3 a4 a5 i2 i8 o13.2
          else
            (fX1_isRow i8 o13.2).bind fun o20 =>
            if (bI o20.1) = 0 then
              fX6_copy_j76 a0 a3 a4 a5 i2 i8 o20.2
            else
              fX6_copy_j77 a0 a3 a4 a5 i2 i8 1 o20.2
        else
          (fX6_refuse a0 (-1003) o12.2).bind fun o21 =>
          some (o21.1, o21.2)
theorem fX6_copy_ex : ∃ f : Nat → Int32 → Int32 → Int32 → Int32 → Int32 → MM → Option (Int32 × MM), f = fX6_copy_b := ⟨_, rfl⟩
noncomputable def fX6_copy : Nat → Int32 → Int32 → Int32 → Int32 → Int32 → MM → Option (Int32 × MM) := Classical.choose fX6_copy_ex
theorem fX6_copy_eq : fX6_copy = fX6_copy_b := Classical.choose_spec fX6_copy_ex
noncomputable def fX6_element_b (a0 : Nat) (a1 : Int32) (a2 : Int32) (m : MM) : Option (Int64 × MM) :=
  (fX6_shelfAt a0 a1 m).bind fun o1 => match o1.1 with
  | none =>
    some (0, o1.2)
  | some i2 =>
    (fX1_take i2 a2 o1.2).bind fun o3 =>
    some (o3.1, o3.2)
theorem fX6_element_ex : ∃ f : Nat → Int32 → Int32 → MM → Option (Int64 × MM), f = fX6_element_b := ⟨_, rfl⟩
noncomputable def fX6_element : Nat → Int32 → Int32 → MM → Option (Int64 × MM) := Classical.choose fX6_element_ex
theorem fX6_element_eq : fX6_element = fX6_element_b := Classical.choose_spec fX6_element_ex
noncomputable def fX6_holds_b (a0 : Nat) (a1 : Int32) (m : MM) : Option (Int32 × MM) :=
  (fX6_shelfAt a0 a1 m).bind fun o1 => match o1.1 with
  | none =>
    some ((-1), o1.2)
  | some i2 =>
    some ((o1.2.1 1 i2 0), o1.2)
theorem fX6_holds_ex : ∃ f : Nat → Int32 → MM → Option (Int32 × MM), f = fX6_holds_b := ⟨_, rfl⟩
noncomputable def fX6_holds : Nat → Int32 → MM → Option (Int32 × MM) := Classical.choose fX6_holds_ex
theorem fX6_holds_eq : fX6_holds = fX6_holds_b := Classical.choose_spec fX6_holds_ex
noncomputable def fX6_show_j27 (a0 : Nat) (a2 : Int32) (z0 : Int32) (m : MM) : Option (Int32 × MM) :=
  (fX6_refuse a0 (-1002) m).bind fun o3 =>
  some (o3.1, o3.2)
noncomputable def fX6_show_j22 (a0 : Nat) (a2 : Int32) (m : MM) : Option (Int32 × MM) :=
  fX6_show_j27 a0 a2 1 m
noncomputable def fX6_show_j27_3 (a0 : Nat) (a2 : Int32) (a3 : Nat) (z0 : Int32) (m : MM) : Option (Int32 × MM) :=
  if ¬ z0 = 0 then
    if ¬ a2 = (-1) then
      some (1, ((upI m.1 1 a3 0 (10 + a2)), m.2))
    else
      some (1, ((upI m.1 1 a3 0 (-1)), m.2))
  else
    (fX6_refuse a0 (-1002) m).bind fun o6 =>
    some (o6.1, o6.2)
noncomputable def fX6_show_j22_2 (a0 : Nat) (a2 : Int32) (a3 : Nat) (m : MM) : Option (Int32 × MM) :=
  fX6_show_j27_3 a0 a2 a3 1 m
noncomputable def fX6_show_b (a0 : Nat) (a1 : Int32) (a2 : Int32) (m : MM) : Option (Int32 × MM) :=
  (fX6_shelfAt a0 a1 m).bind fun o1 => match o1.1 with
  | none =>
    if a2 = (-1) then
      fX6_show_j22 a0 a2 o1.2
    else
      (fX5_bottleAt 0 a2 o1.2).bind fun o4 => match o4.1 with
      | none =>
        fX6_show_j27 a0 a2 0 o4.2
      | some i5 =>
        fX6_show_j22 a0 a2 o4.2
  | some i2 =>
    if a2 = (-1) then
      fX6_show_j22_2 a0 a2 i2 o1.2
    else
      (fX5_bottleAt 0 a2 o1.2).bind fun o7 => match o7.1 with
      | none =>
        fX6_show_j27_3 a0 a2 i2 0 o7.2
      | some i8 =>
        fX6_show_j22_2 a0 a2 i2 o7.2
theorem fX6_show_ex : ∃ f : Nat → Int32 → Int32 → MM → Option (Int32 × MM), f = fX6_show_b := ⟨_, rfl⟩
noncomputable def fX6_show : Nat → Int32 → Int32 → MM → Option (Int32 × MM) := Classical.choose fX6_show_ex
theorem fX6_show_eq : fX6_show = fX6_show_b := Classical.choose_spec fX6_show_ex
noncomputable def fX6_isKind_b (a0 : Int32) (m : MM) : Option (Bool × MM) :=
  (fX6_within a0 0 5 m).bind fun o1 =>
  some (o1.1, o1.2)
theorem fX6_isKind_ex : ∃ f : Int32 → MM → Option (Bool × MM), f = fX6_isKind_b := ⟨_, rfl⟩
noncomputable def fX6_isKind : Int32 → MM → Option (Bool × MM) := Classical.choose fX6_isKind_ex
theorem fX6_isKind_eq : fX6_isKind = fX6_isKind_b := Classical.choose_spec fX6_isKind_ex
noncomputable def fX6_isOrIsUnder_b4 (a1 : Int32) (s : Int32 × Int32) (m : MM) : Option (((Int32 × Int32) ⊕ ((Unit) ⊕ (Unit))) × MM) :=
  if 6 ≤ s.2 then
    some (Sum.inr (Sum.inl ()), m)
  else
    (fX6_isKind s.1 m).bind fun o1 =>
    if (bI o1.1) = 0 then
      some (Sum.inr (Sum.inl ()), o1.2)
    else
      if ¬ s.1 = a1 then
        bif inB s.1 6 then
          some (Sum.inl ((o1.2.1 32 0 s.1.toNatClampNeg), (s.2 + 1)), o1.2)
        else none
      else
        some (Sum.inr (Sum.inr ()), o1.2)
noncomputable def fX6_isOrIsUnder_b (a0 : Int32) (a1 : Int32) (m : MM) : Option (Bool × MM) :=
  (loopF 1000 (fX6_isOrIsUnder_b4 a1) (a0, 0) m).bind fun o2 => match o2.1 with
  | Sum.inl x3 =>
    some (false, o2.2)
  | Sum.inr x4 =>
    some (true, o2.2)
theorem fX6_isOrIsUnder_ex : ∃ f : Int32 → Int32 → MM → Option (Bool × MM), f = fX6_isOrIsUnder_b := ⟨_, rfl⟩
noncomputable def fX6_isOrIsUnder : Int32 → Int32 → MM → Option (Bool × MM) := Classical.choose fX6_isOrIsUnder_ex
theorem fX6_isOrIsUnder_eq : fX6_isOrIsUnder = fX6_isOrIsUnder_b := Classical.choose_spec fX6_isOrIsUnder_ex
noncomputable def fX6_says_b (a0 : Nat) (a1 : Int32) (a2 : Int32) (m : MM) : Option (Int32 × MM) :=
  (fX6_shelfAt a0 a1 m).bind fun o1 => match o1.1 with
  | none =>
    (fX6_refuse a0 (-1002) o1.2).bind fun o3 =>
    some (o3.1, o3.2)
  | some i2 =>
    (fX6_isKind a2 o1.2).bind fun o4 =>
    if ¬ (bI o4.1) = 0 then
      (fX1_isRow i2 o4.2).bind fun o5 =>
      if (bI o5.1) = 0 then
        (fX1_isEmpty i2 o5.2).bind fun o6 =>
        if (bI o6.1) = 0 then
          (fX5_bottleAt 0 ((o6.2.1 1 i2 0) - 10) o6.2).bind fun o7 => match o7.1 with
          | none =>
            (fX6_refuse a0 (-1003) o7.2).bind fun o9 =>
            some (o9.1, o9.2)
          | some i8 =>
            (fX6_isOrIsUnder (o7.2.1 0 i8 0) a2 o7.2).bind fun o10 =>
            if ¬ (bI o10.1) = 0 then
              if ¬ a2 = 0 then
                (fX5_push 0 i8 (o10.2.1 5 0 2) o10.2).bind fun o11 =>
                some (o11.1, o11.2)
              else
                some ((o10.2.1 0 i8 2), o10.2)
            else
              (fX6_refuse a0 (-1003) o10.2).bind fun o12 =>
              some (o12.1, o12.2)
        else
          (fX6_refuse a0 (-1004) o6.2).bind fun o13 =>
          some (o13.1, o13.2)
      else
        (fX6_refuse a0 (-1003) o5.2).bind fun o14 =>
        some (o14.1, o14.2)
    else
      (fX6_refuse a0 (-1002) o4.2).bind fun o15 =>
      some (o15.1, o15.2)
theorem fX6_says_ex : ∃ f : Nat → Int32 → Int32 → MM → Option (Int32 × MM), f = fX6_says_b := ⟨_, rfl⟩
noncomputable def fX6_says : Nat → Int32 → Int32 → MM → Option (Int32 × MM) := Classical.choose fX6_says_ex
theorem fX6_says_eq : fX6_says = fX6_says_b := Classical.choose_spec fX6_says_ex
noncomputable def fX6_paves_b (a0 : Nat) (a1 : Int32) (m : MM) : Option (Int32 × MM) :=
  (fX6_within a1 (m.1 5 0 0) 30 m).bind fun o1 =>
  if ¬ (bI o1.1) = 0 then
    some ((o1.2.1 5 0 0), ((upI o1.2.1 5 0 0 a1), o1.2.2))
  else
    (fX6_refuse a0 (-1002) o1.2).bind fun o2 =>
    some (o2.1, o2.2)
theorem fX6_paves_ex : ∃ f : Nat → Int32 → MM → Option (Int32 × MM), f = fX6_paves_b := ⟨_, rfl⟩
noncomputable def fX6_paves : Nat → Int32 → MM → Option (Int32 × MM) := Classical.choose fX6_paves_ex
theorem fX6_paves_eq : fX6_paves = fX6_paves_b := Classical.choose_spec fX6_paves_ex
noncomputable def fX6_walker_b (a0 : Nat) (a1 : Int32) (a2 : Int32) (a3 : Int32) (m : MM) : Option (Int32 × MM) :=
  (fX5_hasCell 0 a1 m).bind fun o1 =>
  if (bI o1.1) = 0 then
    (fX6_refuse a0 (-1002) o1.2).bind fun o2 =>
    some (o2.1, o2.2)
  else
    (fX6_within a2 0 3 o1.2).bind fun o3 =>
    if (bI o3.1) = 0 then
      (fX6_refuse a0 (-1002) o3.2).bind fun o4 =>
      some (o4.1, o4.2)
    else
      (fX6_within a3 0 1 o3.2).bind fun o5 =>
      if ¬ (bI o5.1) = 0 then
        (fX5_hasRoomForWalker 0 o5.2).bind fun o6 =>
        if ¬ (bI o6.1) = 0 then
          (fX5_addWalker 0 a1 a2 a3 o6.2).bind fun o7 =>
          some (o7.1, o7.2)
        else
          (fX6_refuse a0 (-1006) o6.2).bind fun o8 =>
          some (o8.1, o8.2)
      else
        (fX6_refuse a0 (-1002) o5.2).bind fun o9 =>
        some (o9.1, o9.2)
theorem fX6_walker_ex : ∃ f : Nat → Int32 → Int32 → Int32 → MM → Option (Int32 × MM), f = fX6_walker_b := ⟨_, rfl⟩
noncomputable def fX6_walker : Nat → Int32 → Int32 → Int32 → MM → Option (Int32 × MM) := Classical.choose fX6_walker_ex
theorem fX6_walker_eq : fX6_walker = fX6_walker_b := Classical.choose_spec fX6_walker_ex
noncomputable def fX6_sends_j58 (a0 : Nat) (a2 : Int32) (a3 : Int32) (a4 : Nat) (z0 : Int32) (m : MM) : Option (Int32 × MM) :=
  (fX6_within a3 0 z0 m).bind fun o5 =>
  if ¬ (bI o5.1) = 0 then
    (fX4_tellOf a4 a2 o5.2).bind fun o6 =>
    if ¬ a2 = 0 then
      if ¬ a2 = 1 then
        some (o6.1, ((upI o6.2.1 4 a4 2 a3), o6.2.2))
      else
        some (o6.1, ((upI o6.2.1 4 a4 1 a3), o6.2.2))
    else
      some (o6.1, ((upI o6.2.1 4 a4 0 a3), o6.2.2))
  else
    (fX6_refuse a0 (-1002) o5.2).bind fun o7 =>
    some (o7.1, o7.2)
noncomputable def fX6_sends_b (a0 : Nat) (a1 : Int32) (a2 : Int32) (a3 : Int32) (m : MM) : Option (Int32 × MM) :=
  (fX5_walkerAt 0 a1 m).bind fun o1 => match o1.1 with
  | none =>
    (fX6_refuse a0 (-1002) o1.2).bind fun o3 =>
    some (o3.1, o3.2)
  | some i2 =>
    (fX6_within a2 0 2 o1.2).bind fun o4 =>
    if ¬ (bI o4.1) = 0 then
      if ¬ a2 = 0 then
        if ¬ a2 = 1 then
          fX6_sends_j58 a0 a2 a3 i2 1 o4.2
        else
          fX6_sends_j58 a0 a2 a3 i2 3 o4.2
      else
        fX6_sends_j58 a0 a2 a3 i2 ((o4.2.1 5 0 0) - 1) o4.2
    else
      (fX6_refuse a0 (-1002) o4.2).bind fun o8 =>
      some (o8.1, o8.2)
theorem fX6_sends_ex : ∃ f : Nat → Int32 → Int32 → Int32 → MM → Option (Int32 × MM), f = fX6_sends_b := ⟨_, rfl⟩
noncomputable def fX6_sends : Nat → Int32 → Int32 → Int32 → MM → Option (Int32 × MM) := Classical.choose fX6_sends_ex
theorem fX6_sends_eq : fX6_sends = fX6_sends_b := Classical.choose_spec fX6_sends_ex
noncomputable def fX6_current_b (a0 : Nat) (a1 : Int32) (a2 : Int32) (m : MM) : Option (Int32 × MM) :=
  (fX5_hasCell 0 a1 m).bind fun o1 =>
  if (bI o1.1) = 0 then
    (fX6_refuse a0 (-1002) o1.2).bind fun o2 =>
    some (o2.1, o2.2)
  else
    (fX6_within a2 0 6 o1.2).bind fun o3 =>
    if ¬ (bI o3.1) = 0 then
      (fX5_flow 0 a1 o3.2).bind fun o4 =>
      (fX5_setFlow 0 a1 a2 o4.2).bind fun o5 =>
      some (o4.1, o5.2)
    else
      (fX6_refuse a0 (-1002) o3.2).bind fun o6 =>
      some (o6.1, o6.2)
theorem fX6_current_ex : ∃ f : Nat → Int32 → Int32 → MM → Option (Int32 × MM), f = fX6_current_b := ⟨_, rfl⟩
noncomputable def fX6_current : Nat → Int32 → Int32 → MM → Option (Int32 × MM) := Classical.choose fX6_current_ex
theorem fX6_current_eq : fX6_current = fX6_current_b := Classical.choose_spec fX6_current_ex
noncomputable def fX6_tell_j31 (a0 : Nat) (a1 : Int32) (a2 : Int32) (m : MM) : Option (Int32 × MM) :=
  if ¬ a1 = 1 then
    (fX6_refuse a0 (-1002) m).bind fun o1 =>
    some (o1.1, o1.2)
  else
    (fX6_within a2 0 999 m).bind fun o2 =>
    if (bI o2.1) = 0 then
      (fX6_refuse a0 (-1002) o2.2).bind fun o3 =>
      some (o3.1, o3.2)
    else
      some ((o2.2.1 5 0 2), ((upI o2.2.1 5 0 2 a2), o2.2.2))
noncomputable def fX6_tell_b (a0 : Nat) (a1 : Int32) (a2 : Int32) (m : MM) : Option (Int32 × MM) :=
  if ¬ a1 = 0 then
    fX6_tell_j31 a0 a1 a2 m
  else
    (fX6_within a2 0 4 m).bind fun o4 =>
    if (bI o4.1) = 0 then
      fX6_tell_j31 a0 a1 a2 o4.2
    else
      some ((o4.2.1 5 0 1), ((upI o4.2.1 5 0 1 a2), o4.2.2))
theorem fX6_tell_ex : ∃ f : Nat → Int32 → Int32 → MM → Option (Int32 × MM), f = fX6_tell_b := ⟨_, rfl⟩
noncomputable def fX6_tell : Nat → Int32 → Int32 → MM → Option (Int32 × MM) := Classical.choose fX6_tell_ex
theorem fX6_tell_eq : fX6_tell = fX6_tell_b := Classical.choose_spec fX6_tell_ex
noncomputable def fX6_feed_b (a0 : Nat) (a1 : Int32) (m : MM) : Option (Int32 × MM) :=
  (fX6_within a1 0 255 m).bind fun o1 =>
  if ¬ (bI o1.1) = 0 then
    (fX2_hasRoom 0 o1.2).bind fun o2 =>
    if ¬ (bI o2.1) = 0 then
      (fX2_append 0 a1 o2.2).bind fun o3 =>
      some (o3.1, o3.2)
    else
      (fX6_refuse a0 (-1006) o2.2).bind fun o4 =>
      some (o4.1, o4.2)
  else
    (fX6_refuse a0 (-1002) o1.2).bind fun o5 =>
    some (o5.1, o5.2)
theorem fX6_feed_ex : ∃ f : Nat → Int32 → MM → Option (Int32 × MM), f = fX6_feed_b := ⟨_, rfl⟩
noncomputable def fX6_feed : Nat → Int32 → MM → Option (Int32 × MM) := Classical.choose fX6_feed_ex
theorem fX6_feed_eq : fX6_feed = fX6_feed_b := Classical.choose_spec fX6_feed_ex
noncomputable def fX6_wipe_b (a0 : Nat) (m : MM) : Option (Int32 × MM) :=
  some ((m.1 2 0 0), ((upI m.1 2 0 0 0), m.2))
theorem fX6_wipe_ex : ∃ f : Nat → MM → Option (Int32 × MM), f = fX6_wipe_b := ⟨_, rfl⟩
noncomputable def fX6_wipe : Nat → MM → Option (Int32 × MM) := Classical.choose fX6_wipe_ex
theorem fX6_wipe_eq : fX6_wipe = fX6_wipe_b := Classical.choose_spec fX6_wipe_ex
noncomputable def fX6_coast_b (a0 : Nat) (m : MM) : Option (Int32 × MM) :=
  (fX5_become 2 0 m).bind fun o1 =>
  (fX2_readInto 0 2 o1.2).bind fun o2 =>
  if ¬ o2.1 = (-1) then
    (fX5_become 0 2 ((upI o2.2.1 2 0 0 0), o2.2.2)).bind fun o3 =>
    some (o2.1, o3.2)
  else
    (fX6_refuse a0 (-1002) ((upI o2.2.1 2 0 0 0), o2.2.2)).bind fun o4 =>
    some (((-2000) - (o4.2.1 2 0 1)), o4.2)
theorem fX6_coast_ex : ∃ f : Nat → MM → Option (Int32 × MM), f = fX6_coast_b := ⟨_, rfl⟩
noncomputable def fX6_coast : Nat → MM → Option (Int32 × MM) := Classical.choose fX6_coast_ex
theorem fX6_coast_eq : fX6_coast = fX6_coast_b := Classical.choose_spec fX6_coast_ex
noncomputable def fX6_bottleOf_b (a0 : Nat) (a1 : Int32) (a2 : Int32) (m : MM) : Option (Int32 × MM) :=
  (fX5_bottleAt 0 a1 m).bind fun o1 => match o1.1 with
  | none =>
    (fX6_refuse a0 (-1002) o1.2).bind fun o3 =>
    some (o3.1, o3.2)
  | some i2 =>
    (fX6_within a2 0 5 o1.2).bind fun o4 =>
    if ¬ (bI o4.1) = 0 then
      (fX0_tellOf i2 a2 o4.2).bind fun o5 =>
      some (o5.1, o5.2)
    else
      (fX6_refuse a0 (-1002) o4.2).bind fun o6 =>
      some (o6.1, o6.2)
theorem fX6_bottleOf_ex : ∃ f : Nat → Int32 → Int32 → MM → Option (Int32 × MM), f = fX6_bottleOf_b := ⟨_, rfl⟩
noncomputable def fX6_bottleOf : Nat → Int32 → Int32 → MM → Option (Int32 × MM) := Classical.choose fX6_bottleOf_ex
theorem fX6_bottleOf_eq : fX6_bottleOf = fX6_bottleOf_b := Classical.choose_spec fX6_bottleOf_ex
noncomputable def fX6_walkerOf_b (a0 : Nat) (a1 : Int32) (a2 : Int32) (m : MM) : Option (Int32 × MM) :=
  (fX5_walkerAt 0 a1 m).bind fun o1 => match o1.1 with
  | none =>
    (fX6_refuse a0 (-1002) o1.2).bind fun o3 =>
    some (o3.1, o3.2)
  | some i2 =>
    (fX6_within a2 0 3 o1.2).bind fun o4 =>
    if ¬ (bI o4.1) = 0 then
      if ¬ a2 = 3 then
        (fX4_tellOf i2 a2 o4.2).bind fun o5 =>
        some (o5.1, o5.2)
      else
        (fX5_addressedTo 0 a1 o4.2).bind fun o6 =>
        some (o6.1, o6.2)
    else
      (fX6_refuse a0 (-1002) o4.2).bind fun o7 =>
      some (o7.1, o7.2)
theorem fX6_walkerOf_ex : ∃ f : Nat → Int32 → Int32 → MM → Option (Int32 × MM), f = fX6_walkerOf_b := ⟨_, rfl⟩
noncomputable def fX6_walkerOf : Nat → Int32 → Int32 → MM → Option (Int32 × MM) := Classical.choose fX6_walkerOf_ex
theorem fX6_walkerOf_eq : fX6_walkerOf = fX6_walkerOf_b := Classical.choose_spec fX6_walkerOf_ex
noncomputable def fX6_currentAt_b (a0 : Nat) (a1 : Int32) (m : MM) : Option (Int32 × MM) :=
  (fX5_hasCell 0 a1 m).bind fun o1 =>
  if (bI o1.1) = 0 then
    (fX6_refuse a0 (-1002) o1.2).bind fun o2 =>
    some (o2.1, o2.2)
  else
    (fX5_flow 0 a1 o1.2).bind fun o3 =>
    some (o3.1, o3.2)
theorem fX6_currentAt_ex : ∃ f : Nat → Int32 → MM → Option (Int32 × MM), f = fX6_currentAt_b := ⟨_, rfl⟩
noncomputable def fX6_currentAt : Nat → Int32 → MM → Option (Int32 × MM) := Classical.choose fX6_currentAt_ex
theorem fX6_currentAt_eq : fX6_currentAt = fX6_currentAt_b := Classical.choose_spec fX6_currentAt_ex
noncomputable def fX6_ahead_b (a0 : Nat) (a1 : Int32) (a2 : Int32) (a3 : Int32) (m : MM) : Option (Int32 × MM) :=
  (fX5_bottleAt 0 a1 m).bind fun o1 => match o1.1 with
  | none =>
    (fX6_refuse a0 (-1002) o1.2).bind fun o3 =>
    some (o3.1, o3.2)
  | some i2 =>
    (fX6_within a2 0 60 o1.2).bind fun o4 =>
    if (bI o4.1) = 0 then
      (fX6_refuse a0 (-1002) o4.2).bind fun o5 =>
      some (o5.1, o5.2)
    else
      (fX6_within a3 0 1 o4.2).bind fun o6 =>
      if ¬ (bI o6.1) = 0 then
        (fX5_walkerAt 0 (o6.2.1 0 i2 3) o6.2).bind fun o7 => match o7.1 with
        | none =>
          (fX5_follow 0 0 i2 none a2 o7.2).bind fun o9 =>
          if ¬ a3 = 0 then
            (fX3_howAt 0 a2 o9.2).bind fun o10 =>
            some (o10.1, o10.2)
          else
            (fX3_cellAt 0 a2 o9.2).bind fun o11 =>
            some (o11.1, o11.2)
        | some i8 =>
          (fX5_follow 0 0 i2 (some i8) a2 o7.2).bind fun o12 =>
          if ¬ a3 = 0 then
            (fX3_howAt 0 a2 o12.2).bind fun o13 =>
            some (o13.1, o13.2)
          else
            (fX3_cellAt 0 a2 o12.2).bind fun o14 =>
            some (o14.1, o14.2)
      else
        (fX6_refuse a0 (-1002) o6.2).bind fun o15 =>
        some (o15.1, o15.2)
theorem fX6_ahead_ex : ∃ f : Nat → Int32 → Int32 → Int32 → MM → Option (Int32 × MM), f = fX6_ahead_b := ⟨_, rfl⟩
noncomputable def fX6_ahead : Nat → Int32 → Int32 → Int32 → MM → Option (Int32 × MM) := Classical.choose fX6_ahead_ex
theorem fX6_ahead_eq : fX6_ahead = fX6_ahead_b := Classical.choose_spec fX6_ahead_ex
noncomputable def fX6_walks_b42 (a0 : Nat) (a2 : Int32) (s : Int32) (m : MM) : Option (((Int32) ⊕ (Unit)) × MM) :=
  if a2 < s then
    some (Sum.inr (), m)
  else
    (fX4_stroll 21 (m.1 5 0 0) m).bind fun o6 =>
    some (Sum.inl (s + 1), o6.2)
noncomputable def fX6_walks_b (a0 : Nat) (a1 : Int32) (a2 : Int32) (m : MM) : Option (Int32 × MM) :=
  (fX5_walkerAt 0 a1 m).bind fun o1 => match o1.1 with
  | none =>
    (fX6_refuse a0 (-1002) o1.2).bind fun o3 =>
    some (o3.1, o3.2)
  | some i2 =>
    (fX6_within a2 0 60 o1.2).bind fun o4 =>
    if ¬ (bI o4.1) = 0 then
      (fX4_become 21 i2 o4.2).bind fun o5 =>
      (loopF 1000 (fX6_walks_b42 a0 a2) 1 o5.2).bind fun o7 =>
      some ((o7.2.1 4 21 0), o7.2)
    else
      (fX6_refuse a0 (-1002) o4.2).bind fun o8 =>
      some (o8.1, o8.2)
theorem fX6_walks_ex : ∃ f : Nat → Int32 → Int32 → MM → Option (Int32 × MM), f = fX6_walks_b := ⟨_, rfl⟩
noncomputable def fX6_walks : Nat → Int32 → Int32 → MM → Option (Int32 × MM) := Classical.choose fX6_walks_ex
theorem fX6_walks_eq : fX6_walks = fX6_walks_b := Classical.choose_spec fX6_walks_ex
noncomputable def fX6_found_b (a0 : Nat) (a1 : Int32) (m : MM) : Option (Int32 × MM) :=
  (fX6_within a1 0 60 m).bind fun o1 =>
  if (bI o1.1) = 0 then
    (fX6_refuse a0 (-1002) o1.2).bind fun o2 =>
    some (o2.1, o2.2)
  else
    (fX5_countFound 0 a1 o1.2).bind fun o3 =>
    some (o3.1, o3.2)
theorem fX6_found_ex : ∃ f : Nat → Int32 → MM → Option (Int32 × MM), f = fX6_found_b := ⟨_, rfl⟩
noncomputable def fX6_found : Nat → Int32 → MM → Option (Int32 × MM) := Classical.choose fX6_found_ex
theorem fX6_found_eq : fX6_found = fX6_found_b := Classical.choose_spec fX6_found_ex
noncomputable def fX6_when_b (a0 : Nat) (a1 : Int32) (m : MM) : Option (Int32 × MM) :=
  (fX5_bottleAt 0 a1 m).bind fun o1 => match o1.1 with
  | none =>
    (fX6_refuse a0 (-1002) o1.2).bind fun o3 =>
    some (o3.1, o3.2)
  | some i2 =>
    (fX5_daysTillFound 0 i2 o1.2).bind fun o4 =>
    some (o4.1, o4.2)
theorem fX6_when_ex : ∃ f : Nat → Int32 → MM → Option (Int32 × MM), f = fX6_when_b := ⟨_, rfl⟩
noncomputable def fX6_when : Nat → Int32 → MM → Option (Int32 × MM) := Classical.choose fX6_when_ex
theorem fX6_when_eq : fX6_when = fX6_when_b := Classical.choose_spec fX6_when_ex
noncomputable def fX6_firstMeeting_b16 (a0 : Nat) (a2 : Int32) (s : Int32) (m : MM) : Option (((Int32) ⊕ ((Unit) ⊕ (Int32))) × MM) :=
  if a2 < s then
    some (Sum.inr (Sum.inl ()), m)
  else
    (fX4_stroll 21 (m.1 5 0 0) m).bind fun o2 =>
    (fX3_howAt 0 s o2.2).bind fun o3 =>
    if ¬ o3.1 = 0 then
      some (Sum.inl (s + 1), o3.2)
    else
      (fX3_cellAt 0 s o3.2).bind fun o4 =>
      if ¬ o4.1 = (o4.2.1 4 21 0) then
        some (Sum.inl (s + 1), o4.2)
      else
        some (Sum.inr (Sum.inr s), o4.2)
noncomputable def fX6_firstMeeting_0 (a0 : Nat) (a2 : Int32) (m : MM) : Option (Int32 × MM) :=
  some ((-1), m)
noncomputable def fX6_firstMeeting_1 (a0 : Nat) (a1 : Nat) (a2 : Int32) (m : MM) : Option (Int32 × MM) :=
  (fX4_become 21 a1 m).bind fun o1 =>
  (loopF 1000 (fX6_firstMeeting_b16 a0 a2) 1 o1.2).bind fun o5 => match o5.1 with
  | Sum.inl x6 =>
    some ((-1), o5.2)
  | Sum.inr x7 =>
    some (x7, o5.2)
noncomputable def fX6_firstMeeting_b (a0 : Nat) (a1 : Option Nat) (a2 : Int32) (m : MM) : Option (Int32 × MM) :=
  match a1 with
  | none => fX6_firstMeeting_0 a0 a2 m
  | some a1 => fX6_firstMeeting_1 a0 a1 a2 m
theorem fX6_firstMeeting_ex : ∃ f : Nat → Option Nat → Int32 → MM → Option (Int32 × MM), f = fX6_firstMeeting_b := ⟨_, rfl⟩
noncomputable def fX6_firstMeeting : Nat → Option Nat → Int32 → MM → Option (Int32 × MM) := Classical.choose fX6_firstMeeting_ex
theorem fX6_firstMeeting_eq : fX6_firstMeeting = fX6_firstMeeting_b := Classical.choose_spec fX6_firstMeeting_ex
noncomputable def fX6_meets_b (a0 : Nat) (a1 : Int32) (a2 : Int32) (m : MM) : Option (Int32 × MM) :=
  (fX5_bottleAt 0 a1 m).bind fun o1 => match o1.1 with
  | none =>
    (fX5_walkerAt 0 a2 o1.2).bind fun o3 => match o3.1 with
    | none =>
      (fX6_refuse a0 (-1002) o3.2).bind fun o5 =>
      some (o5.1, o5.2)
    | some i4 =>
      (fX6_refuse a0 (-1002) o3.2).bind fun o6 =>
      some (o6.1, o6.2)
  | some i2 =>
    (fX5_walkerAt 0 a2 o1.2).bind fun o7 => match o7.1 with
    | none =>
      (fX6_refuse a0 (-1002) o7.2).bind fun o9 =>
      some (o9.1, o9.2)
    | some i8 =>
      (fX5_follow 0 0 i2 none 60 o7.2).bind fun o10 =>
      (fX6_firstMeeting a0 (some i8) 60 o10.2).bind fun o11 =>
      some (o11.1, o11.2)
theorem fX6_meets_ex : ∃ f : Nat → Int32 → Int32 → MM → Option (Int32 × MM), f = fX6_meets_b := ⟨_, rfl⟩
noncomputable def fX6_meets : Nat → Int32 → Int32 → MM → Option (Int32 × MM) := Classical.choose fX6_meets_ex
theorem fX6_meets_eq : fX6_meets = fX6_meets_b := Classical.choose_spec fX6_meets_ex
noncomputable def fX6_finder_b45 (a0 : Nat) (s : Int32 × Int32 × Int32) (m : MM) : Option (((Int32 × Int32 × Int32) ⊕ (Int32)) × MM) :=
  if (m.1 5 0 6) ≤ s.2.2 then
    some (Sum.inr s.1, m)
  else
    (fX5_walkerAt 0 s.2.2 m).bind fun o5 => match o5.1 with
    | none =>
      (fX6_firstMeeting a0 none 60 o5.2).bind fun o7 =>
      if o7.1 = (-1) then
        some (Sum.inl (s.1, s.2.1, (s.2.2 + 1)), o7.2)
      else
        if s.2.1 ≤ o7.1 then
          some (Sum.inl (s.1, s.2.1, (s.2.2 + 1)), o7.2)
        else
          some (Sum.inl (s.2.2, o7.1, (s.2.2 + 1)), o7.2)
    | some i6 =>
      (fX6_firstMeeting a0 (some i6) 60 o5.2).bind fun o8 =>
      if o8.1 = (-1) then
        some (Sum.inl (s.1, s.2.1, (s.2.2 + 1)), o8.2)
      else
        if s.2.1 ≤ o8.1 then
          some (Sum.inl (s.1, s.2.1, (s.2.2 + 1)), o8.2)
        else
          some (Sum.inl (s.2.2, o8.1, (s.2.2 + 1)), o8.2)
noncomputable def fX6_finder_b (a0 : Nat) (a1 : Int32) (m : MM) : Option (Int32 × MM) :=
  (fX5_bottleAt 0 a1 m).bind fun o1 => match o1.1 with
  | none =>
    (fX6_refuse a0 (-1002) o1.2).bind fun o3 =>
    some (o3.1, o3.2)
  | some i2 =>
    (fX5_follow 0 0 i2 none 60 o1.2).bind fun o4 =>
    (loopF 1000 (fX6_finder_b45 a0) ((-1), 61, 0) o4.2).bind fun o9 =>
    some (o9.1, o9.2)
theorem fX6_finder_ex : ∃ f : Nat → Int32 → MM → Option (Int32 × MM), f = fX6_finder_b := ⟨_, rfl⟩
noncomputable def fX6_finder : Nat → Int32 → MM → Option (Int32 × MM) := Classical.choose fX6_finder_ex
theorem fX6_finder_eq : fX6_finder = fX6_finder_b := Classical.choose_spec fX6_finder_ex
noncomputable def fX6_two_b61 (a0 : Nat) (s : Int32) (m : MM) : Option (((Int32) ⊕ ((Unit) ⊕ (Int32))) × MM) :=
  if 60 < s then
    some (Sum.inr (Sum.inl ()), m)
  else
    if ¬ (m.1 4 21 0) = (m.1 4 22 0) then
      (fX4_stroll 21 (m.1 5 0 0) m).bind fun o12 =>
      (fX4_stroll 22 (o12.2.1 5 0 0) o12.2).bind fun o13 =>
      some (Sum.inl (s + 1), o13.2)
    else
      some (Sum.inr (Sum.inr s), m)
noncomputable def fX6_two_b (a0 : Nat) (a1 : Int32) (a2 : Int32) (m : MM) : Option (Int32 × MM) :=
  (fX5_walkerAt 0 a1 m).bind fun o1 => match o1.1 with
  | none =>
    (fX5_walkerAt 0 a2 o1.2).bind fun o3 => match o3.1 with
    | none =>
      (fX6_refuse a0 (-1002) o3.2).bind fun o5 =>
      some (o5.1, o5.2)
    | some i4 =>
      (fX6_refuse a0 (-1002) o3.2).bind fun o6 =>
      some (o6.1, o6.2)
  | some i2 =>
    (fX5_walkerAt 0 a2 o1.2).bind fun o7 => match o7.1 with
    | none =>
      (fX6_refuse a0 (-1002) o7.2).bind fun o9 =>
      some (o9.1, o9.2)
    | some i8 =>
      if ¬ a1 = a2 then
        (fX4_become 21 i2 o7.2).bind fun o10 =>
        (fX4_become 22 i8 o10.2).bind fun o11 =>
        (loopF 1000 (fX6_two_b61 a0) 0 o11.2).bind fun o14 => match o14.1 with
        | Sum.inl x15 =>
          some ((-1), o14.2)
        | Sum.inr x16 =>
          some (x16, o14.2)
      else
        (fX6_refuse a0 (-1002) o7.2).bind fun o17 =>
        some (o17.1, o17.2)
theorem fX6_two_ex : ∃ f : Nat → Int32 → Int32 → MM → Option (Int32 × MM), f = fX6_two_b := ⟨_, rfl⟩
noncomputable def fX6_two : Nat → Int32 → Int32 → MM → Option (Int32 × MM) := Classical.choose fX6_two_ex
theorem fX6_two_eq : fX6_two = fX6_two_b := Classical.choose_spec fX6_two_ex
noncomputable def fX6_aim_b59 (a0 : Nat) (a1 : Int32) (a2 : Int32) (a3 : Int32) (a4 : Int32) (a5 : Nat) (s : Int32 × Int32 × Int32) (m : MM) : Option (((Int32 × Int32 × Int32) ⊕ (Int32 × Int32)) × MM) :=
  if (m.1 5 0 0) ≤ s.2.2 then
    some (Sum.inr (s.1, s.2.1), m)
  else
    (fX0_start 27 a1 a2 s.2.2 a3 m).bind fun o13 =>
    (fX5_soonest 0 27 (some a5) 60 o13.2).bind fun o14 =>
    if o14.1 = (-1) then
      some (Sum.inl (s.1, s.2.1, (s.2.2 + 1)), o14.2)
    else
      if s.2.1 = (-1) then
        some (Sum.inl (s.2.2, o14.1, (s.2.2 + 1)), o14.2)
      else
        if s.2.1 ≤ o14.1 then
          some (Sum.inl (s.1, s.2.1, (s.2.2 + 1)), o14.2)
        else
          some (Sum.inl (s.2.2, o14.1, (s.2.2 + 1)), o14.2)
noncomputable def fX6_aim_b (a0 : Nat) (a1 : Int32) (a2 : Int32) (a3 : Int32) (a4 : Int32) (m : MM) : Option (Int32 × MM) :=
  (fX5_walkerAt 0 a3 m).bind fun o1 => match o1.1 with
  | none =>
    (fX6_isKind a1 o1.2).bind fun o3 =>
    if (bI o3.1) = 0 then
      (fX6_refuse a0 (-1002) o3.2).bind fun o4 =>
      some (o4.1, o4.2)
    else
      (fX6_within a2 0 9 o3.2).bind fun o5 =>
      if (bI o5.1) = 0 then
        (fX6_refuse a0 (-1002) o5.2).bind fun o6 =>
        some (o6.1, o6.2)
      else
        (fX6_refuse a0 (-1002) o5.2).bind fun o7 =>
        some (o7.1, o7.2)
  | some i2 =>
    (fX6_isKind a1 o1.2).bind fun o8 =>
    if (bI o8.1) = 0 then
      (fX6_refuse a0 (-1002) o8.2).bind fun o9 =>
      some (o9.1, o9.2)
    else
      (fX6_within a2 0 9 o8.2).bind fun o10 =>
      if (bI o10.1) = 0 then
        (fX6_refuse a0 (-1002) o10.2).bind fun o11 =>
        some (o11.1, o11.2)
      else
        (fX6_within a4 0 1 o10.2).bind fun o12 =>
        if ¬ (bI o12.1) = 0 then
          (loopF 1000 (fX6_aim_b59 a0 a1 a2 a3 a4 i2) ((-1), (-1), 0) o12.2).bind fun o15 =>
          if ¬ a4 = 0 then
            some (o15.1.2, o15.2)
          else
            some (o15.1.1, o15.2)
        else
          (fX6_refuse a0 (-1002) o12.2).bind fun o16 =>
          some (o16.1, o16.2)
theorem fX6_aim_ex : ∃ f : Nat → Int32 → Int32 → Int32 → Int32 → MM → Option (Int32 × MM), f = fX6_aim_b := ⟨_, rfl⟩
noncomputable def fX6_aim : Nat → Int32 → Int32 → Int32 → Int32 → MM → Option (Int32 × MM) := Classical.choose fX6_aim_ex
theorem fX6_aim_eq : fX6_aim = fX6_aim_b := Classical.choose_spec fX6_aim_ex
noncomputable def fX6_foundWalking_b37 (a0 : Nat) (a1 : Int32) (a4 : Int32) (s : Int32 × Int32) (m : MM) : Option (((Int32 × Int32) ⊕ (Int32)) × MM) :=
  if (m.1 5 0 5) ≤ s.2 then
    some (Sum.inr s.1, m)
  else
    (fX5_bottleAt 0 s.2 m).bind fun o4 => match o4.1 with
    | none =>
      some (Sum.inl (s.1, (s.2 + 1)), o4.2)
    | some i5 =>
      if ¬ (o4.2.1 0 i5 3) = a1 then
        some (Sum.inl (s.1, (s.2 + 1)), o4.2)
      else
        if ¬ (o4.2.1 0 i5 4) = 0 then
          some (Sum.inl (s.1, (s.2 + 1)), o4.2)
        else
          (fX5_soonest 0 i5 (some 22) a4 o4.2).bind fun o6 =>
          if o6.1 = (-1) then
            some (Sum.inl (s.1, (s.2 + 1)), o6.2)
          else
            some (Sum.inl ((s.1 + 1), (s.2 + 1)), o6.2)
noncomputable def fX6_foundWalking_b (a0 : Nat) (a1 : Int32) (a2 : Int32) (a3 : Int32) (a4 : Int32) (m : MM) : Option (Int32 × MM) :=
  (fX5_walkerAt 0 a1 m).bind fun o1 => match o1.1 with
  | none =>
    some (0, o1.2)
  | some i2 =>
    (fX4_start 22 (o1.2.1 4 i2 0) a2 a3 o1.2).bind fun o3 =>
    (loopF 1000 (fX6_foundWalking_b37 a0 a1 a4) (0, 0) o3.2).bind fun o7 =>
    some (o7.1, o7.2)
theorem fX6_foundWalking_ex : ∃ f : Nat → Int32 → Int32 → Int32 → Int32 → MM → Option (Int32 × MM), f = fX6_foundWalking_b := ⟨_, rfl⟩
noncomputable def fX6_foundWalking : Nat → Int32 → Int32 → Int32 → Int32 → MM → Option (Int32 × MM) := Classical.choose fX6_foundWalking_ex
theorem fX6_foundWalking_eq : fX6_foundWalking = fX6_foundWalking_b := Classical.choose_spec fX6_foundWalking_ex
noncomputable def fX6_walk_b56 (a0 : Nat) (a1 : Int32) (a2 : Int32) (a3 : Int32) (a6 : Int32) (s : Int32 × Int32 × Int32) (m : MM) : Option (((Int32 × Int32 × Int32) ⊕ (Int32 × Int32)) × MM) :=
  if 1 < s.2.2 then
    some (Sum.inr (s.1, s.2.1), m)
  else
    (fX6_foundWalking a0 a1 a6 s.2.2 a2 m).bind fun o7 =>
    if o7.1 ≤ s.2.1 then
      some (Sum.inl (s.1, s.2.1, (s.2.2 + 1)), o7.2)
    else
      some (Sum.inl (((10 * a6) + s.2.2), o7.1, (s.2.2 + 1)), o7.2)
noncomputable def fX6_walk_b47 (a0 : Nat) (a1 : Int32) (a2 : Int32) (a3 : Int32) (s : Int32 × Int32 × Int32) (m : MM) : Option (((Int32 × Int32 × Int32) ⊕ (Int32 × Int32)) × MM) :=
  if 3 < s.2.2 then
    some (Sum.inr (s.1, s.2.1), m)
  else
    (loopF 1000 (fX6_walk_b56 a0 a1 a2 a3 s.2.2) (s.1, s.2.1, 0) m).bind fun o8 =>
    some (Sum.inl (o8.1.1, o8.1.2, (s.2.2 + 1)), o8.2)
noncomputable def fX6_walk_b (a0 : Nat) (a1 : Int32) (a2 : Int32) (a3 : Int32) (m : MM) : Option (Int32 × MM) :=
  (fX5_walkerAt 0 a1 m).bind fun o1 => match o1.1 with
  | none =>
    (fX6_refuse a0 (-1002) o1.2).bind fun o3 =>
    some (o3.1, o3.2)
  | some i2 =>
    (fX6_within a2 1 30 o1.2).bind fun o4 =>
    if (bI o4.1) = 0 then
      (fX6_refuse a0 (-1002) o4.2).bind fun o5 =>
      some (o5.1, o5.2)
    else
      (fX6_within a3 0 1 o4.2).bind fun o6 =>
      if ¬ (bI o6.1) = 0 then
        (loopF 1000 (fX6_walk_b47 a0 a1 a2 a3) (0, (-1), 0) o6.2).bind fun o9 =>
        if ¬ a3 = 0 then
          some (o9.1.2, o9.2)
        else
          some (o9.1.1, o9.2)
      else
        (fX6_refuse a0 (-1002) o6.2).bind fun o10 =>
        some (o10.1, o10.2)
theorem fX6_walk_ex : ∃ f : Nat → Int32 → Int32 → Int32 → MM → Option (Int32 × MM), f = fX6_walk_b := ⟨_, rfl⟩
noncomputable def fX6_walk : Nat → Int32 → Int32 → Int32 → MM → Option (Int32 × MM) := Classical.choose fX6_walk_ex
theorem fX6_walk_eq : fX6_walk = fX6_walk_b := Classical.choose_spec fX6_walk_ex
noncomputable def fX6_driftsAlong_b47 (a0 : Nat) (a1 : Nat) (a2 : Int32) (s : Int32) (m : MM) : Option (((Int32) ⊕ ((Unit) ⊕ (Unit))) × MM) :=
  if a2 ≤ s then
    some (Sum.inr (Sum.inl ()), m)
  else
    (fX5_dayBehind 2 (s - 1) m).bind fun o3 =>
    (fX5_spend 2 27 o3.1 (-1) o3.2).bind fun o4 =>
    if (o4.2.1 0 27 4) = 2 then
      some (Sum.inr (Sum.inr ()), o4.2)
    else
      (fX1_take a1 s o4.2).bind fun o5 =>
      if (lg_cmp (o4.2.1 0 27 2).toInt64 o5.1) = 0 then
        some (Sum.inl (s + 1), o5.2)
      else
        some (Sum.inr (Sum.inr ()), o5.2)
noncomputable def fX6_driftsAlong_b (a0 : Nat) (a1 : Nat) (a2 : Int32) (a3 : Int32) (a4 : Int32) (m : MM) : Option (Bool × MM) :=
  (fX1_take a1 0 m).bind fun o1 =>
  if (lg_cmp o1.1 0) < 0 then
    some (false, o1.2)
  else
    if (lg_cmp o1.1 (o1.2.1 5 2 0).toInt64) < 0 then
      (fX0_start 27 a3 a4 o1.1.toInt32 (-1) o1.2).bind fun o2 =>
      (loopF 1000 (fX6_driftsAlong_b47 a0 a1 a2) 1 o2.2).bind fun o6 => match o6.1 with
      | Sum.inl x7 =>
        some (true, o6.2)
      | Sum.inr x8 =>
        some (false, o6.2)
    else
      some (false, o1.2)
theorem fX6_driftsAlong_ex : ∃ f : Nat → Nat → Int32 → Int32 → Int32 → MM → Option (Bool × MM), f = fX6_driftsAlong_b := ⟨_, rfl⟩
noncomputable def fX6_driftsAlong : Nat → Nat → Int32 → Int32 → Int32 → MM → Option (Bool × MM) := Classical.choose fX6_driftsAlong_ex
theorem fX6_driftsAlong_eq : fX6_driftsAlong = fX6_driftsAlong_b := Classical.choose_spec fX6_driftsAlong_ex
noncomputable def fX6_fits_j141 (a0 : Nat) (a2 : Int32) (a4 : Int32) (a5 : Nat) (a6 : Nat) (a7 : Int32) (a8 : Int32) (a9 : Int32) (m : MM) : Option (((Int32 × Int32) ⊕ (Int32)) × MM) :=
  if ¬ a4 = 0 then
    (fX6_driftsAlong a0 a5 a2 a9 (m.1 0 a6 1) m).bind fun o17 =>
    if (bI o17.1) = 0 then
      some (Sum.inl (a8, (a9 + 1)), o17.2)
    else
      some (Sum.inl ((a8 ||| (1 <<< (a9 &&& 31))), (a9 + 1)), o17.2)
  else
    (fX6_driftsAlong a0 a5 a2 (m.1 0 a6 0) (m.1 0 a6 1) m).bind fun o18 =>
    if (bI o18.1) = 0 then
      some (Sum.inl (a8, (a9 + 1)), o18.2)
    else
      some (Sum.inl ((a8 ||| (1 <<< (a9 &&& 31))), (a9 + 1)), o18.2)
noncomputable def fX6_fits_b120 (a0 : Nat) (a2 : Int32) (a4 : Int32) (a5 : Nat) (a6 : Nat) (a7 : Int32) (s : Int32 × Int32) (m : MM) : Option (((Int32 × Int32) ⊕ (Int32)) × MM) :=
  if a7 ≤ s.2 then
    some (Sum.inr s.1, m)
  else
    if ¬ a4 = 0 then
      fX6_fits_j141 a0 a2 a4 a5 a6 a7 s.1 s.2 m
    else
      fX6_fits_j141 a0 a2 a4 a5 a6 a7 s.1 s.2 ((upI m.1 5 2 1 s.2), m.2)
noncomputable def fX6_fits_j101 (a0 : Nat) (a2 : Int32) (a4 : Int32) (a5 : Nat) (a6 : Nat) (z0 : Int32) (m : MM) : Option (Int32 × MM) :=
  (fX5_become 2 0 m).bind fun o16 =>
  (loopF 1000 (fX6_fits_b120 a0 a2 a4 a5 a6 z0) (0, 0) o16.2).bind fun o19 =>
  some (o19.1, o19.2)
noncomputable def fX6_fits_b (a0 : Nat) (a1 : Int32) (a2 : Int32) (a3 : Int32) (a4 : Int32) (m : MM) : Option (Int32 × MM) :=
  (fX6_shelfAt a0 a1 m).bind fun o1 => match o1.1 with
  | none =>
    (fX5_bottleAt 0 a3 o1.2).bind fun o3 => match o3.1 with
    | none =>
      (fX6_refuse a0 (-1002) o3.2).bind fun o5 =>
      some (o5.1, o5.2)
    | some i4 =>
      (fX6_refuse a0 (-1002) o3.2).bind fun o6 =>
      some (o6.1, o6.2)
  | some i2 =>
    (fX5_bottleAt 0 a3 o1.2).bind fun o7 => match o7.1 with
    | none =>
      (fX6_within a2 1 40 o7.2).bind fun o9 =>
      if (bI o9.1) = 0 then
        (fX6_refuse a0 (-1002) o9.2).bind fun o10 =>
        some (o10.1, o10.2)
      else
        (fX6_refuse a0 (-1002) o9.2).bind fun o11 =>
        some (o11.1, o11.2)
    | some i8 =>
      (fX6_within a2 1 40 o7.2).bind fun o12 =>
      if (bI o12.1) = 0 then
        (fX6_refuse a0 (-1002) o12.2).bind fun o13 =>
        some (o13.1, o13.2)
      else
        (fX6_within a4 0 1 o12.2).bind fun o14 =>
        if ¬ (bI o14.1) = 0 then
          (fX1_isRow i2 o14.2).bind fun o15 =>
          if ¬ (bI o15.1) = 0 then
            if a2 ≤ (o15.2.1 1 i2 1) then
              if ¬ a4 = 0 then
                fX6_fits_j101 a0 a2 a4 i2 i8 6 o15.2
              else
                fX6_fits_j101 a0 a2 a4 i2 i8 5 o15.2
            else
              (fX6_refuse a0 (-1002) o15.2).bind fun o20 =>
              some (o20.1, o20.2)
          else
            (fX1_whyNoRow i2 o15.2).bind fun o21 =>
            (fX6_refuse a0 o21.1 o21.2).bind fun o22 =>
            some (o22.1, o22.2)
        else
          (fX6_refuse a0 (-1002) o14.2).bind fun o23 =>
          some (o23.1, o23.2)
theorem fX6_fits_ex : ∃ f : Nat → Int32 → Int32 → Int32 → Int32 → MM → Option (Int32 × MM), f = fX6_fits_b := ⟨_, rfl⟩
noncomputable def fX6_fits : Nat → Int32 → Int32 → Int32 → Int32 → MM → Option (Int32 × MM) := Classical.choose fX6_fits_ex
theorem fX6_fits_eq : fX6_fits = fX6_fits_b := Classical.choose_spec fX6_fits_ex
noncomputable def fX6_from_b50 (a0 : Nat) (a2 : Int32) (a3 : Int32) (a4 : Nat) (s : Int32 × Int32) (m : MM) : Option (((Int32 × Int32) ⊕ (Int32)) × MM) :=
  if (m.1 5 0 0) ≤ s.2 then
    some (Sum.inr s.1, m)
  else
    (fX0_start 27 (m.1 0 a4 0) (m.1 0 a4 1) s.2 (-1) m).bind fun o7 =>
    (fX5_follow 0 0 27 none a2 o7.2).bind fun o8 =>
    (fX3_howAt 0 a2 o8.2).bind fun o9 =>
    if ¬ o9.1 = 0 then
      some (Sum.inl (s.1, (s.2 + 1)), o9.2)
    else
      (fX3_cellAt 0 a2 o9.2).bind fun o10 =>
      if ¬ o10.1 = a3 then
        some (Sum.inl (s.1, (s.2 + 1)), o10.2)
      else
        some (Sum.inl ((s.1 ||| (1 <<< (s.2 &&& 31))), (s.2 + 1)), o10.2)
noncomputable def fX6_from_b (a0 : Nat) (a1 : Int32) (a2 : Int32) (a3 : Int32) (m : MM) : Option (Int32 × MM) :=
  (fX5_bottleAt 0 a1 m).bind fun o1 => match o1.1 with
  | none =>
    (fX6_refuse a0 (-1002) o1.2).bind fun o3 =>
    some (o3.1, o3.2)
  | some i2 =>
    (fX6_within a2 0 30 o1.2).bind fun o4 =>
    if (bI o4.1) = 0 then
      (fX6_refuse a0 (-1002) o4.2).bind fun o5 =>
      some (o5.1, o5.2)
    else
      (fX5_hasCell 0 a3 o4.2).bind fun o6 =>
      if ¬ (bI o6.1) = 0 then
        (loopF 1000 (fX6_from_b50 a0 a2 a3 i2) (0, 0) o6.2).bind fun o11 =>
        some (o11.1, o11.2)
      else
        (fX6_refuse a0 (-1002) o6.2).bind fun o12 =>
        some (o12.1, o12.2)
theorem fX6_from_ex : ∃ f : Nat → Int32 → Int32 → Int32 → MM → Option (Int32 × MM), f = fX6_from_b := ⟨_, rfl⟩
noncomputable def fX6_from : Nat → Int32 → Int32 → Int32 → MM → Option (Int32 × MM) := Classical.choose fX6_from_ex
theorem fX6_from_eq : fX6_from = fX6_from_b := Classical.choose_spec fX6_from_ex
noncomputable def fX6_bestFrom_b (a0 : Nat) (a1 : Int32) (a2 : Int32) (m : MM) : Option (Int32 × MM) :=
  (fX6_within a1 0 8 m).bind fun o1 =>
  if (bI o1.1) = 0 then
    some (0, o1.2)
  else
    (fX6_within a2 0 63 o1.2).bind fun o2 =>
    if (bI o2.1) = 0 then
      some (0, o2.2)
    else
      bif inB a1 9 then
        bif inB a2 64 then
          some ((o2.2.1 44 a1.toNatClampNeg a2.toNatClampNeg), o2.2)
        else none
      else none
theorem fX6_bestFrom_ex : ∃ f : Nat → Int32 → Int32 → MM → Option (Int32 × MM), f = fX6_bestFrom_b := ⟨_, rfl⟩
noncomputable def fX6_bestFrom : Nat → Int32 → Int32 → MM → Option (Int32 × MM) := Classical.choose fX6_bestFrom_ex
theorem fX6_bestFrom_eq : fX6_bestFrom = fX6_bestFrom_b := Classical.choose_spec fX6_bestFrom_ex
noncomputable def fX6_pairingScore_b (a0 : Nat) (a1 : Int32) (a2 : Int32) (a3 : Int32) (m : MM) : Option (Int32 × MM) :=
  (fX6_within a1 0 7 m).bind fun o1 =>
  if (bI o1.1) = 0 then
    some ((-1), o1.2)
  else
    (fX6_within a2 0 5 o1.2).bind fun o2 =>
    if ¬ (bI o2.1) = 0 then
      bif inB a1 8 then
        bif inB a2 6 then
          if (o2.2.1 43 a1.toNatClampNeg a2.toNatClampNeg) = (-1) then
            some ((-1), o2.2)
          else
            if ((a3 >>> (a2 &&& 31)) &&& 1) = 0 then
              (fX6_bestFrom a0 (a1 + 1) (a3 ||| (1 <<< (a2 &&& 31))) o2.2).bind fun o3 =>
              some (((1000 - (o2.2.1 43 a1.toNatClampNeg a2.toNatClampNeg)) + o3.1), o3.2)
            else
              some ((-1), o2.2)
        else none
      else none
    else
      some ((-1), o2.2)
theorem fX6_pairingScore_ex : ∃ f : Nat → Int32 → Int32 → Int32 → MM → Option (Int32 × MM), f = fX6_pairingScore_b := ⟨_, rfl⟩
noncomputable def fX6_pairingScore : Nat → Int32 → Int32 → Int32 → MM → Option (Int32 × MM) := Classical.choose fX6_pairingScore_ex
theorem fX6_pairingScore_eq : fX6_pairingScore = fX6_pairingScore_b := Classical.choose_spec fX6_pairingScore_ex
noncomputable def fX6_fillBestPairs_b2 (a0 : Nat) (s : Int32) (m : MM) : Option (((Int32) ⊕ (Unit)) × MM) :=
  if 64 ≤ s then
    some (Sum.inr (), m)
  else
    bif inB 8 9 then
      bif inB s 64 then
        some (Sum.inl (s + 1), ((upI m.1 44 (8 : Int32).toNatClampNeg s.toNatClampNeg 0), m.2))
      else none
    else none
noncomputable def fX6_fillBestPairs_b51 (a0 : Nat) (a1 : Int32) (a2 : Int32) (s : Int32 × Int32) (m : MM) : Option (((Int32 × Int32) ⊕ (Int32)) × MM) :=
  if 6 ≤ s.2 then
    some (Sum.inr s.1, m)
  else
    (fX6_pairingScore a0 a1 s.2 a2 m).bind fun o3 =>
    some (Sum.inl ((mxI s.1 o3.1), (s.2 + 1)), o3.2)
noncomputable def fX6_fillBestPairs_b33 (a0 : Nat) (a1 : Int32) (s : Int32) (m : MM) : Option (((Int32) ⊕ (Unit)) × MM) :=
  if 64 ≤ s then
    some (Sum.inr (), m)
  else
    (fX6_bestFrom a0 (a1 + 1) s m).bind fun o2 =>
    (loopF 1000 (fX6_fillBestPairs_b51 a0 a1 s) (o2.1, 0) o2.2).bind fun o4 =>
    bif inB a1 9 then
      bif inB s 64 then
        some (Sum.inl (s + 1), ((upI o4.2.1 44 a1.toNatClampNeg s.toNatClampNeg o4.1), o4.2.2))
      else none
    else none
noncomputable def fX6_fillBestPairs_b27 (a0 : Nat) (s : Int32) (m : MM) : Option (((Int32) ⊕ (Unit)) × MM) :=
  if s < 0 then
    some (Sum.inr (), m)
  else
    (loopF 1000 (fX6_fillBestPairs_b33 a0 s) 0 m).bind fun o5 =>
    some (Sum.inl (s + (-1)), o5.2)
noncomputable def fX6_fillBestPairs_b (a0 : Nat) (m : MM) : Option (Unit × MM) :=
  (loopF 1000 (fX6_fillBestPairs_b2 a0) 0 m).bind fun o1 =>
  (loopF 1000 (fX6_fillBestPairs_b27 a0) 7 o1.2).bind fun o6 =>
  some ((), o6.2)
theorem fX6_fillBestPairs_ex : ∃ f : Nat → MM → Option (Unit × MM), f = fX6_fillBestPairs_b := ⟨_, rfl⟩
noncomputable def fX6_fillBestPairs : Nat → MM → Option (Unit × MM) := Classical.choose fX6_fillBestPairs_ex
theorem fX6_fillBestPairs_eq : fX6_fillBestPairs = fX6_fillBestPairs_b := Classical.choose_spec fX6_fillBestPairs_ex
noncomputable def fX6_fillMeetings_b38n3 (a0 : Nat) (a1 : Int32) (a2 : Int32) (s : Int32) (m : MM) : Option (((Int32) ⊕ (Unit)) × MM) :=
  if 6 ≤ s then
    some (Sum.inr (), m)
  else
    bif inB a2 8 then
      bif inB s 6 then
        some (Sum.inl (s + 1), ((upI m.1 43 a2.toNatClampNeg s.toNatClampNeg (-1)), m.2))
      else none
    else none
noncomputable def fX6_fillMeetings_b38 (a0 : Nat) (a1 : Int32) (a2 : Int32) (a3 : Nat) (s : Int32) (m : MM) : Option (((Int32) ⊕ (Unit)) × MM) :=
  if 6 ≤ s then
    some (Sum.inr (), m)
  else
    bif inB a2 8 then
      (fX5_walkerAt 0 s m).bind fun o5 => match o5.1 with
      | none =>
        (fX6_firstMeeting a0 none a1 o5.2).bind fun o7 =>
        bif inB s 6 then
          some (Sum.inl (s + 1), ((upI o7.2.1 43 a2.toNatClampNeg s.toNatClampNeg o7.1), o7.2.2))
        else none
      | some i6 =>
        (fX6_firstMeeting a0 (some i6) a1 o5.2).bind fun o8 =>
        bif inB s 6 then
          some (Sum.inl (s + 1), ((upI o8.2.1 43 a2.toNatClampNeg s.toNatClampNeg o8.1), o8.2.2))
        else none
    else none
noncomputable def fX6_fillMeetings_j35 (a0 : Nat) (a1 : Int32) (a2 : Int32) (m : MM) : Option (((Int32) ⊕ (Unit)) × MM) :=
  (loopF 1000 (fX6_fillMeetings_b38n3 a0 a1 a2) 0 m).bind fun o3 =>
  some (Sum.inl (a2 + 1), o3.2)
noncomputable def fX6_fillMeetings_j35_1_2 (a0 : Nat) (a1 : Int32) (a2 : Int32) (a3 : Nat) (m : MM) : Option (((Int32) ⊕ (Unit)) × MM) :=
  (loopF 1000 (fX6_fillMeetings_b38 a0 a1 a2 a3) 0 m).bind fun o9 =>
  some (Sum.inl (a2 + 1), o9.2)
noncomputable def fX6_fillMeetings_b2 (a0 : Nat) (a1 : Int32) (s : Int32) (m : MM) : Option (((Int32) ⊕ (Unit)) × MM) :=
  if 8 ≤ s then
    some (Sum.inr (), m)
  else
    (fX5_bottleAt 0 s m).bind fun o1 => match o1.1 with
    | none =>
      fX6_fillMeetings_j35 a0 a1 s o1.2
    | some i2 =>
      (fX5_follow 0 0 i2 none a1 o1.2).bind fun o4 =>
      fX6_fillMeetings_j35_1_2 a0 a1 s i2 o4.2
noncomputable def fX6_fillMeetings_b (a0 : Nat) (a1 : Int32) (m : MM) : Option (Unit × MM) :=
  (loopF 1000 (fX6_fillMeetings_b2 a0 a1) 0 m).bind fun o10 =>
  some ((), o10.2)
theorem fX6_fillMeetings_ex : ∃ f : Nat → Int32 → MM → Option (Unit × MM), f = fX6_fillMeetings_b := ⟨_, rfl⟩
noncomputable def fX6_fillMeetings : Nat → Int32 → MM → Option (Unit × MM) := Classical.choose fX6_fillMeetings_ex
theorem fX6_fillMeetings_eq : fX6_fillMeetings = fX6_fillMeetings_b := Classical.choose_spec fX6_fillMeetings_ex
noncomputable def fX6_partnerOf_b25 (a0 : Nat) (a1 : Int32) (a2 : Int32) (a4 : Int32) (s : Int32 × Int32) (m : MM) : Option (((Int32 × Int32) ⊕ (Int32)) × MM) :=
  if 6 ≤ s.2 then
    some (Sum.inr s.1, m)
  else
    if ¬ s.1 = (-1) then
      some (Sum.inr s.1, m)
    else
      (fX6_pairingScore a0 a4 s.2 a2 m).bind fun o1 =>
      (fX6_bestFrom a0 a4 a2 o1.2).bind fun o2 =>
      if ¬ o1.1 = o2.1 then
        some (Sum.inl (s.1, (s.2 + 1)), o2.2)
      else
        some (Sum.inl (s.2, (s.2 + 1)), o2.2)
noncomputable def fX6_partnerOf_b7 (a0 : Nat) (a1 : Int32) (s : Int32 × Int32 × Int32) (m : MM) : Option (((Int32 × Int32 × Int32) ⊕ (Int32)) × MM) :=
  if a1 < s.2.2 then
    some (Sum.inr s.2.1, m)
  else
    if 8 ≤ s.2.2 then
      some (Sum.inr s.2.1, m)
    else
      (loopF 1000 (fX6_partnerOf_b25 a0 a1 s.1 s.2.2) ((-1), 0) m).bind fun o3 =>
      if o3.1 = (-1) then
        some (Sum.inl (s.1, o3.1, (s.2.2 + 1)), o3.2)
      else
        some (Sum.inl ((s.1 ||| (1 <<< (o3.1 &&& 31))), o3.1, (s.2.2 + 1)), o3.2)
noncomputable def fX6_partnerOf_b (a0 : Nat) (a1 : Int32) (m : MM) : Option (Int32 × MM) :=
  (loopF 1000 (fX6_partnerOf_b7 a0 a1) (0, (-1), 0) m).bind fun o4 =>
  some (o4.1, o4.2)
theorem fX6_partnerOf_ex : ∃ f : Nat → Int32 → MM → Option (Int32 × MM), f = fX6_partnerOf_b := ⟨_, rfl⟩
noncomputable def fX6_partnerOf : Nat → Int32 → MM → Option (Int32 × MM) := Classical.choose fX6_partnerOf_ex
theorem fX6_partnerOf_eq : fX6_partnerOf = fX6_partnerOf_b := Classical.choose_spec fX6_partnerOf_ex
noncomputable def fX6_pairs_j27 (a0 : Nat) (a1 : Int32) (a2 : Int32) (z0 : Int32) (m : MM) : Option (Int32 × MM) :=
  (fX6_within a1 1 60 m).bind fun o1 =>
  if (bI o1.1) = 0 then
    (fX6_refuse a0 (-1002) o1.2).bind fun o2 =>
    some (o2.1, o2.2)
  else
    if ¬ z0 = 0 then
      (fX6_fillMeetings a0 a1 o1.2).bind fun o3 =>
      (fX6_fillBestPairs a0 o3.2).bind fun o4 =>
      if a2 < 0 then
        (fX6_bestFrom a0 0 0 o4.2).bind fun o5 =>
        if ¬ a2 = (-1) then
          some ((((o5.1 + 1000) - 1) / 1000), o5.2)
        else
          some ((((((o5.1 + 1000) - 1) / 1000) * 1000) - o5.1), o5.2)
      else
        (fX6_partnerOf a0 a2 o4.2).bind fun o6 =>
        some (o6.1, o6.2)
    else
      (fX6_refuse a0 (-1002) o1.2).bind fun o7 =>
      some (o7.1, o7.2)
noncomputable def fX6_pairs_j22 (a0 : Nat) (a1 : Int32) (a2 : Int32) (m : MM) : Option (Int32 × MM) :=
  fX6_pairs_j27 a0 a1 a2 1 m
noncomputable def fX6_pairs_b (a0 : Nat) (a1 : Int32) (a2 : Int32) (m : MM) : Option (Int32 × MM) :=
  if a2 = (-2) then
    fX6_pairs_j22 a0 a1 a2 m
  else
    if a2 = (-1) then
      fX6_pairs_j22 a0 a1 a2 m
    else
      (fX5_bottleAt 0 a2 m).bind fun o8 => match o8.1 with
      | none =>
        fX6_pairs_j27 a0 a1 a2 0 o8.2
      | some i9 =>
        fX6_pairs_j22 a0 a1 a2 o8.2
theorem fX6_pairs_ex : ∃ f : Nat → Int32 → Int32 → MM → Option (Int32 × MM), f = fX6_pairs_b := ⟨_, rfl⟩
noncomputable def fX6_pairs : Nat → Int32 → Int32 → MM → Option (Int32 × MM) := Classical.choose fX6_pairs_ex
theorem fX6_pairs_eq : fX6_pairs = fX6_pairs_b := Classical.choose_spec fX6_pairs_ex
noncomputable def fX6_mended_j186 (a0 : Nat) (a2 : Int32) (a3 : Nat) (a4 : Int32) (a5 : Int32) (a6 : Int32) (a7 : Int32) (a8 : Int32) (a9 : Int32) (a10 : Int32) (a11 : Int32) (z0 : Int32) (m : MM) : Option (((Int32 × Int32 × Int32) ⊕ (Int32 × Int32)) × MM) :=
  if z0 = (-1) then
    some (Sum.inl (a6, a7, (a11 + 1)), m)
  else
    if a7 = (-1) then
      some (Sum.inl (((10 * a8) + a11), z0, (a11 + 1)), m)
    else
      if a7 ≤ z0 then
        some (Sum.inl (a6, a7, (a11 + 1)), m)
      else
        some (Sum.inl (((10 * a8) + a11), z0, (a11 + 1)), m)
noncomputable def fX6_mended_b139 (a0 : Nat) (a2 : Int32) (a3 : Nat) (a4 : Int32) (a5 : Int32) (a8 : Int32) (a9 : Int32) (a10 : Int32) (s : Int32 × Int32 × Int32) (m : MM) : Option (((Int32 × Int32 × Int32) ⊕ (Int32 × Int32)) × MM) :=
  if 6 < s.2.2 then
    some (Sum.inr (s.1, s.2.1), m)
  else
    (fX5_setFlow 2 a8 s.2.2 m).bind fun o12 =>
    if ¬ s.2.2 = a10 then
      if a9 = 0 then
        fX6_mended_j186 a0 a2 a3 a4 a5 s.1 s.2.1 a8 a9 a10 s.2.2 a4 o12.2
      else
        (fX5_daysTillFound 2 a3 o12.2).bind fun o13 =>
        fX6_mended_j186 a0 a2 a3 a4 a5 s.1 s.2.1 a8 a9 a10 s.2.2 o13.1 o13.2
    else
      fX6_mended_j186 a0 a2 a3 a4 a5 s.1 s.2.1 a8 a9 a10 s.2.2 (-1) o12.2
noncomputable def fX6_mended_j123 (a0 : Nat) (a2 : Int32) (a3 : Nat) (a4 : Int32) (a5 : Int32) (a6 : Int32) (a7 : Int32) (a8 : Int32) (z0 : Int32) (m : MM) : Option (((Int32 × Int32 × Int32) ⊕ (Int32 × Int32)) × MM) :=
  (fX5_flow 0 a8 m).bind fun o11 =>
  (loopF 1000 (fX6_mended_b139 a0 a2 a3 a4 a5 a8 z0 o11.1) (a6, a7, 0) o11.2).bind fun o14 =>
  (fX5_setFlow 2 a8 o11.1 o14.2).bind fun o15 =>
  some (Sum.inl (o14.1.1, o14.1.2, (a8 + 1)), o15.2)
noncomputable def fX6_mended_b96 (a0 : Nat) (a2 : Int32) (a3 : Nat) (a4 : Int32) (a5 : Int32) (s : Int32 × Int32 × Int32) (m : MM) : Option (((Int32 × Int32 × Int32) ⊕ (Int32 × Int32)) × MM) :=
  if (m.1 5 0 0) ≤ s.2.2 then
    some (Sum.inr (s.1, s.2.1), m)
  else
    if ((a5 >>> (s.2.2 &&& 31)) &&& 1) = 0 then
      fX6_mended_j123 a0 a2 a3 a4 a5 s.1 s.2.1 s.2.2 0 m
    else
      fX6_mended_j123 a0 a2 a3 a4 a5 s.1 s.2.1 s.2.2 1 m
noncomputable def fX6_mended_b (a0 : Nat) (a1 : Int32) (a2 : Int32) (m : MM) : Option (Int32 × MM) :=
  (fX5_bottleAt 0 a1 m).bind fun o1 => match o1.1 with
  | none =>
    (fX6_refuse a0 (-1002) o1.2).bind fun o3 =>
    some (o3.1, o3.2)
  | some i2 =>
    (fX6_within a2 0 1 o1.2).bind fun o4 =>
    if ¬ (bI o4.1) = 0 then
      (fX5_daysTillFound 0 i2 o4.2).bind fun o5 =>
      (fX5_walkerAt 0 (o5.2.1 0 i2 3) o5.2).bind fun o6 => match o6.1 with
      | none =>
        (fX5_follow 0 0 i2 none 60 o6.2).bind fun o8 =>
        (fX3_cellsVisited 0 60 o8.2).bind fun o9 =>
        (fX5_become 2 0 o9.2).bind fun o10 =>
        (loopF 1000 (fX6_mended_b96 a0 a2 i2 o5.1 o9.1) ((-1), (-1), 0) o10.2).bind fun o16 =>
        if ¬ a2 = 0 then
          some (o16.1.2, o16.2)
        else
          some (o16.1.1, o16.2)
      | some i7 =>
        (fX5_follow 0 0 i2 (some i7) 60 o6.2).bind fun o17 =>
        (fX3_cellsVisited 0 60 o17.2).bind fun o18 =>
        (fX5_become 2 0 o18.2).bind fun o19 =>
        (loopF 1000 (fX6_mended_b96 a0 a2 i2 o5.1 o18.1) ((-1), (-1), 0) o19.2).bind fun o20 =>
        if ¬ a2 = 0 then
          some (o20.1.2, o20.2)
        else
          some (o20.1.1, o20.2)
    else
      (fX6_refuse a0 (-1002) o4.2).bind fun o21 =>
      some (o21.1, o21.2)
theorem fX6_mended_ex : ∃ f : Nat → Int32 → Int32 → MM → Option (Int32 × MM), f = fX6_mended_b := ⟨_, rfl⟩
noncomputable def fX6_mended : Nat → Int32 → Int32 → MM → Option (Int32 × MM) := Classical.choose fX6_mended_ex
theorem fX6_mended_eq : fX6_mended = fX6_mended_b := Classical.choose_spec fX6_mended_ex
noncomputable def fX6_endsBy_b46 (a0 : Nat) (a2 : Int32) (s : Int32 × Int32) (m : MM) : Option (((Int32 × Int32) ⊕ (Unit)) × MM) :=
  if a2 ≤ s.2 then
    some (Sum.inr (), m)
  else
    (fX4_stroll 21 ((upI m.1 5 2 1 (s.1 - s.1 / 5 * 5)) 5 2 0) ((upI m.1 5 2 1 (s.1 - s.1 / 5 * 5)), m.2)).bind fun o5 =>
    (fX5_dayBehind 2 s.2 o5.2).bind fun o6 =>
    (fX5_spend 2 27 o6.1 (o6.2.1 4 21 0) o6.2).bind fun o7 =>
    some (Sum.inl ((s.1 / 5), (s.2 + 1)), o7.2)
noncomputable def fX6_endsBy_b (a0 : Nat) (a1 : Nat) (a2 : Int32) (a3 : Int32) (m : MM) : Option (Int32 × MM) :=
  (fX5_walkerAt 0 (m.1 0 a1 3) m).bind fun o1 => match o1.1 with
  | none =>
    some ((o1.2.1 0 a1 4), o1.2)
  | some i2 =>
    (fX0_become 27 a1 o1.2).bind fun o3 =>
    (fX4_become 21 i2 o3.2).bind fun o4 =>
    (loopF 1000 (fX6_endsBy_b46 a0 a2) (a3, 0) o4.2).bind fun o8 =>
    some ((o8.2.1 0 27 4), o8.2)
theorem fX6_endsBy_ex : ∃ f : Nat → Nat → Int32 → Int32 → MM → Option (Int32 × MM), f = fX6_endsBy_b := ⟨_, rfl⟩
noncomputable def fX6_endsBy : Nat → Nat → Int32 → Int32 → MM → Option (Int32 × MM) := Classical.choose fX6_endsBy_ex
theorem fX6_endsBy_eq : fX6_endsBy = fX6_endsBy_b := Classical.choose_spec fX6_endsBy_ex
noncomputable def fX6_odds_b58 (a0 : Nat) (a2 : Int32) (a4 : Nat) (a5 : Int32) (s : Int32 × Int32) (m : MM) : Option (((Int32 × Int32) ⊕ (Int32)) × MM) :=
  if a2 ≤ s.2 then
    some (Sum.inr s.1, m)
  else
    some (Sum.inl ((s.1 * 5), (s.2 + 1)), m)
noncomputable def fX6_odds_b93 (a0 : Nat) (a2 : Int32) (a4 : Nat) (a5 : Int32) (a6 : Int32) (s : Int32 × Int32) (m : MM) : Option (((Int32 × Int32) ⊕ (Int32)) × MM) :=
  if a6 ≤ s.2 then
    some (Sum.inr s.1, m)
  else
    (fX6_endsBy a0 a4 a2 s.2 m).bind fun o9 =>
    if ¬ o9.1 = a5 then
      some (Sum.inl (s.1, (s.2 + 1)), o9.2)
    else
      some (Sum.inl ((s.1 + 1), (s.2 + 1)), o9.2)
noncomputable def fX6_odds_j50 (a0 : Nat) (a2 : Int32) (a4 : Nat) (z0 : Int32) (m : MM) : Option (Int32 × MM) :=
  (loopF 1000 (fX6_odds_b58 a0 a2 a4 z0) (1, 0) m).bind fun o7 =>
  (fX5_become 2 0 o7.2).bind fun o8 =>
  (loopF 1000 (fX6_odds_b93 a0 a2 a4 z0 o7.1) (0, 0) o8.2).bind fun o10 =>
  if 0 < o7.1 then
    if o7.1 = 0 then
      none
    else
      some (((o10.1 * 1000000) / o7.1), o10.2)
  else
    some (0, o10.2)
noncomputable def fX6_odds_b (a0 : Nat) (a1 : Int32) (a2 : Int32) (a3 : Int32) (m : MM) : Option (Int32 × MM) :=
  (fX5_bottleAt 0 a1 m).bind fun o1 => match o1.1 with
  | none =>
    (fX6_refuse a0 (-1002) o1.2).bind fun o3 =>
    some (o3.1, o3.2)
  | some i2 =>
    (fX6_within a2 0 4 o1.2).bind fun o4 =>
    if (bI o4.1) = 0 then
      (fX6_refuse a0 (-1002) o4.2).bind fun o5 =>
      some (o5.1, o5.2)
    else
      (fX6_within a3 0 1 o4.2).bind fun o6 =>
      if ¬ (bI o6.1) = 0 then
        if ¬ a3 = 0 then
          fX6_odds_j50 a0 a2 i2 2 o6.2
        else
          fX6_odds_j50 a0 a2 i2 1 o6.2
      else
        (fX6_refuse a0 (-1002) o6.2).bind fun o11 =>
        some (o11.1, o11.2)
theorem fX6_odds_ex : ∃ f : Nat → Int32 → Int32 → Int32 → MM → Option (Int32 × MM), f = fX6_odds_b := ⟨_, rfl⟩
noncomputable def fX6_odds : Nat → Int32 → Int32 → Int32 → MM → Option (Int32 × MM) := Classical.choose fX6_odds_ex
theorem fX6_odds_eq : fX6_odds = fX6_odds_b := Classical.choose_spec fX6_odds_ex
noncomputable def fX6_windFor_b40 (a0 : Nat) (a2 : Nat) (s : Int32 × Int32 × Int32) (m : MM) : Option (((Int32 × Int32 × Int32) ⊕ (Int32)) × MM) :=
  if 5 ≤ s.2.2 then
    some (Sum.inr s.1, m)
  else
    (fX5_daysTillFound 2 a2 ((upI m.1 5 2 1 s.2.2), m.2)).bind fun o5 =>
    if o5.1 = (-1) then
      some (Sum.inl (s.1, s.2.1, (s.2.2 + 1)), o5.2)
    else
      if s.2.1 = (-1) then
        some (Sum.inl (s.2.2, o5.1, (s.2.2 + 1)), o5.2)
      else
        if s.2.1 ≤ o5.1 then
          some (Sum.inl (s.1, s.2.1, (s.2.2 + 1)), o5.2)
        else
          some (Sum.inl (s.2.2, o5.1, (s.2.2 + 1)), o5.2)
noncomputable def fX6_windFor_b (a0 : Nat) (a1 : Int32) (m : MM) : Option (Int32 × MM) :=
  (fX5_bottleAt 0 a1 m).bind fun o1 => match o1.1 with
  | none =>
    (fX6_refuse a0 (-1002) o1.2).bind fun o3 =>
    some (o3.1, o3.2)
  | some i2 =>
    (fX5_become 2 0 o1.2).bind fun o4 =>
    (loopF 1000 (fX6_windFor_b40 a0 i2) ((-1), (-1), 0) o4.2).bind fun o6 =>
    some (o6.1, o6.2)
theorem fX6_windFor_ex : ∃ f : Nat → Int32 → MM → Option (Int32 × MM), f = fX6_windFor_b := ⟨_, rfl⟩
noncomputable def fX6_windFor : Nat → Int32 → MM → Option (Int32 × MM) := Classical.choose fX6_windFor_ex
theorem fX6_windFor_eq : fX6_windFor = fX6_windFor_b := Classical.choose_spec fX6_windFor_ex
noncomputable def fX6_bestWind_b46 (a0 : Nat) (a1 : Int32) (a2 : Int32) (s : Int32 × Int32 × Int32) (m : MM) : Option (((Int32 × Int32 × Int32) ⊕ (Int32 × Int32)) × MM) :=
  if 5 ≤ s.2.2 then
    some (Sum.inr (s.1, s.2.1), m)
  else
    (fX5_countFound 2 a1 ((upI m.1 5 2 1 s.2.2), m.2)).bind fun o5 =>
    if o5.1 ≤ s.2.1 then
      some (Sum.inl (s.1, s.2.1, (s.2.2 + 1)), o5.2)
    else
      some (Sum.inl (s.2.2, o5.1, (s.2.2 + 1)), o5.2)
noncomputable def fX6_bestWind_b (a0 : Nat) (a1 : Int32) (a2 : Int32) (m : MM) : Option (Int32 × MM) :=
  (fX6_within a1 0 60 m).bind fun o1 =>
  if (bI o1.1) = 0 then
    (fX6_refuse a0 (-1002) o1.2).bind fun o2 =>
    some (o2.1, o2.2)
  else
    (fX6_within a2 0 1 o1.2).bind fun o3 =>
    if ¬ (bI o3.1) = 0 then
      (fX5_become 2 0 o3.2).bind fun o4 =>
      (loopF 1000 (fX6_bestWind_b46 a0 a1 a2) (0, (-1), 0) o4.2).bind fun o6 =>
      if ¬ a2 = 0 then
        some (o6.1.2, o6.2)
      else
        some (o6.1.1, o6.2)
    else
      (fX6_refuse a0 (-1002) o3.2).bind fun o7 =>
      some (o7.1, o7.2)
theorem fX6_bestWind_ex : ∃ f : Nat → Int32 → Int32 → MM → Option (Int32 × MM), f = fX6_bestWind_b := ⟨_, rfl⟩
noncomputable def fX6_bestWind : Nat → Int32 → Int32 → MM → Option (Int32 × MM) := Classical.choose fX6_bestWind_ex
theorem fX6_bestWind_eq : fX6_bestWind = fX6_bestWind_b := Classical.choose_spec fX6_bestWind_ex
noncomputable def fX6_who_b21 (a0 : Nat) (a1 : Int32) (s : Int32 × Int32) (m : MM) : Option (((Int32 × Int32) ⊕ (Int32)) × MM) :=
  if (m.1 5 0 5) ≤ s.2 then
    some (Sum.inr s.1, m)
  else
    (fX5_bottleAt 0 s.2 m).bind fun o2 => match o2.1 with
    | none =>
      some (Sum.inl (s.1, (s.2 + 1)), o2.2)
    | some i3 =>
      if ¬ a1 = 3 then
        if ¬ (o2.2.1 0 i3 4) = a1 then
          some (Sum.inl (s.1, (s.2 + 1)), o2.2)
        else
          some (Sum.inl ((s.1 ||| (1 <<< (s.2 &&& 31))), (s.2 + 1)), o2.2)
      else
        if ¬ (o2.2.1 0 i3 4) = 0 then
          some (Sum.inl (s.1, (s.2 + 1)), o2.2)
        else
          (fX5_daysTillFound 0 i3 o2.2).bind fun o4 =>
          if o4.1 = (-1) then
            some (Sum.inl (s.1, (s.2 + 1)), o4.2)
          else
            some (Sum.inl ((s.1 ||| (1 <<< (s.2 &&& 31))), (s.2 + 1)), o4.2)
noncomputable def fX6_who_b (a0 : Nat) (a1 : Int32) (m : MM) : Option (Int32 × MM) :=
  (fX6_within a1 0 3 m).bind fun o1 =>
  if ¬ (bI o1.1) = 0 then
    (loopF 1000 (fX6_who_b21 a0 a1) (0, 0) o1.2).bind fun o5 =>
    some (o5.1, o5.2)
  else
    (fX6_refuse a0 (-1002) o1.2).bind fun o6 =>
    some (o6.1, o6.2)
theorem fX6_who_ex : ∃ f : Nat → Int32 → MM → Option (Int32 × MM), f = fX6_who_b := ⟨_, rfl⟩
noncomputable def fX6_who : Nat → Int32 → MM → Option (Int32 × MM) := Classical.choose fX6_who_ex
theorem fX6_who_eq : fX6_who = fX6_who_b := Classical.choose_spec fX6_who_ex
noncomputable def fX6_there_b (a0 : Nat) (a1 : Int32) (a2 : Int32) (m : MM) : Option (Int32 × MM) :=
  (fX5_hasCell 0 a1 m).bind fun o1 =>
  if (bI o1.1) = 0 then
    (fX6_refuse a0 (-1002) o1.2).bind fun o2 =>
    some (o2.1, o2.2)
  else
    (fX6_within a2 0 1 o1.2).bind fun o3 =>
    if ¬ (bI o3.1) = 0 then
      if ¬ a2 = 0 then
        (fX5_walkersAt 0 a1 o3.2).bind fun o4 =>
        some (o4.1, o4.2)
      else
        (fX5_afloatIn 0 a1 o3.2).bind fun o5 =>
        some (o5.1, o5.2)
    else
      (fX6_refuse a0 (-1002) o3.2).bind fun o6 =>
      some (o6.1, o6.2)
theorem fX6_there_ex : ∃ f : Nat → Int32 → Int32 → MM → Option (Int32 × MM), f = fX6_there_b := ⟨_, rfl⟩
noncomputable def fX6_there : Nat → Int32 → Int32 → MM → Option (Int32 × MM) := Classical.choose fX6_there_ex
theorem fX6_there_eq : fX6_there = fX6_there_b := Classical.choose_spec fX6_there_ex
noncomputable def fX6_settles_b50 (a0 : Nat) (s : Int32 × Int32) (m : MM) : Option (((Int32 × Int32) ⊕ ((Unit) ⊕ ((Int32) ⊕ (Unit)))) × MM) :=
  if 60 < s.2 then
    some (Sum.inr (Sum.inl ()), m)
  else
    (fX3_cellAt 0 s.2 m).bind fun o6 =>
    (fX3_howAt 0 s.2 o6.2).bind fun o7 =>
    if ¬ o7.1 = 2 then
      if (s.1 &&& (1 <<< (o6.1 &&& 31))) = 0 then
        some (Sum.inl ((s.1 ||| (1 <<< (o6.1 &&& 31))), (s.2 + 1)), o7.2)
      else
        some (Sum.inr (Sum.inr (Sum.inl s.2)), o7.2)
    else
      some (Sum.inr (Sum.inr (Sum.inr ())), o7.2)
noncomputable def fX6_settles_b (a0 : Nat) (a1 : Int32) (m : MM) : Option (Int32 × MM) :=
  (fX5_bottleAt 0 a1 m).bind fun o1 => match o1.1 with
  | none =>
    (fX6_refuse a0 (-1002) o1.2).bind fun o3 =>
    some (o3.1, o3.2)
  | some i2 =>
    (fX5_follow 0 0 i2 none 60 o1.2).bind fun o4 =>
    (fX3_cellAt 0 0 o4.2).bind fun o5 =>
    (loopF 1000 (fX6_settles_b50 a0) ((1 <<< (o5.1 &&& 31)), 1) o5.2).bind fun o8 => match o8.1 with
    | Sum.inl x9 =>
      some ((-1), o8.2)
    | Sum.inr (Sum.inl x10) =>
      some (x10, o8.2)
    | Sum.inr (Sum.inr x11) =>
      some ((-1), o8.2)
theorem fX6_settles_ex : ∃ f : Nat → Int32 → MM → Option (Int32 × MM), f = fX6_settles_b := ⟨_, rfl⟩
noncomputable def fX6_settles : Nat → Int32 → MM → Option (Int32 × MM) := Classical.choose fX6_settles_ex
theorem fX6_settles_eq : fX6_settles = fX6_settles_b := Classical.choose_spec fX6_settles_ex
noncomputable def fX6_reach_b58 (a0 : Nat) (a2 : Int32) (s : Int32 × Int32) (m : MM) : Option (((Int32 × Int32) ⊕ (Int32)) × MM) :=
  if 60 < s.2 then
    some (Sum.inr s.1, m)
  else
    (fX3_cellAt 0 s.2 m).bind fun o7 =>
    if ¬ a2 = 0 then
      some (Sum.inl ((mxI s.1 o7.1), (s.2 + 1)), o7.2)
    else
      some (Sum.inl ((mnI s.1 o7.1), (s.2 + 1)), o7.2)
noncomputable def fX6_reach_b (a0 : Nat) (a1 : Int32) (a2 : Int32) (m : MM) : Option (Int32 × MM) :=
  (fX5_bottleAt 0 a1 m).bind fun o1 => match o1.1 with
  | none =>
    (fX6_refuse a0 (-1002) o1.2).bind fun o3 =>
    some (o3.1, o3.2)
  | some i2 =>
    (fX6_within a2 0 1 o1.2).bind fun o4 =>
    if ¬ (bI o4.1) = 0 then
      (fX5_follow 0 0 i2 none 60 o4.2).bind fun o5 =>
      (fX3_cellAt 0 0 o5.2).bind fun o6 =>
      (loopF 1000 (fX6_reach_b58 a0 a2) (o6.1, 1) o6.2).bind fun o8 =>
      some (o8.1, o8.2)
    else
      (fX6_refuse a0 (-1002) o4.2).bind fun o9 =>
      some (o9.1, o9.2)
theorem fX6_reach_ex : ∃ f : Nat → Int32 → Int32 → MM → Option (Int32 × MM), f = fX6_reach_b := ⟨_, rfl⟩
noncomputable def fX6_reach : Nat → Int32 → Int32 → MM → Option (Int32 × MM) := Classical.choose fX6_reach_ex
theorem fX6_reach_eq : fX6_reach = fX6_reach_b := Classical.choose_spec fX6_reach_ex
noncomputable def fX6_fillVisited_b2 (a0 : Nat) (s : Int32) (m : MM) : Option (((Int32) ⊕ (Unit)) × MM) :=
  if (nI 8) ≤ s then
    some (Sum.inr (), m)
  else
    (fX5_bottleAt 0 s m).bind fun o1 => match o1.1 with
    | none =>
      bif inB s 8 then
        some (Sum.inl (s + 1), ((upI o1.2.1 48 0 s.toNatClampNeg 0), o1.2.2))
      else none
    | some i2 =>
      bif inB s 8 then
        (fX5_follow 0 0 i2 none 60 ((upI o1.2.1 48 0 s.toNatClampNeg 0), o1.2.2)).bind fun o3 =>
        (fX3_cellsVisited 0 60 o3.2).bind fun o4 =>
        bif inB s 8 then
          some (Sum.inl (s + 1), ((upI o4.2.1 48 0 s.toNatClampNeg o4.1), o4.2.2))
        else none
      else none
noncomputable def fX6_fillVisited_b (a0 : Nat) (m : MM) : Option (Unit × MM) :=
  (loopF 1000 (fX6_fillVisited_b2 a0) 0 m).bind fun o5 =>
  some ((), o5.2)
theorem fX6_fillVisited_ex : ∃ f : Nat → MM → Option (Unit × MM), f = fX6_fillVisited_b := ⟨_, rfl⟩
noncomputable def fX6_fillVisited : Nat → MM → Option (Unit × MM) := Classical.choose fX6_fillVisited_ex
theorem fX6_fillVisited_eq : fX6_fillVisited = fX6_fillVisited_b := Classical.choose_spec fX6_fillVisited_ex
noncomputable def fX6_busiest_b46 (a0 : Nat) (a1 : Int32) (a2 : Int32) (a3 : Int32) (a4 : Int32) (s : Int32 × Int32) (m : MM) : Option (((Int32 × Int32) ⊕ (Int32)) × MM) :=
  if (m.1 5 0 5) ≤ s.2 then
    some (Sum.inr s.1, m)
  else
    if (nI 8) ≤ s.2 then
      some (Sum.inr s.1, m)
    else
      bif inB s.2 8 then
        some (Sum.inl ((s.1 + (((m.1 48 0 s.2.toNatClampNeg) >>> (a4 &&& 31)) &&& 1)), (s.2 + 1)), m)
      else none
noncomputable def fX6_busiest_b28 (a0 : Nat) (a1 : Int32) (s : Int32 × Int32 × Int32) (m : MM) : Option (((Int32 × Int32 × Int32) ⊕ (Int32 × Int32)) × MM) :=
  if (m.1 5 0 0) ≤ s.2.2 then
    some (Sum.inr (s.1, s.2.1), m)
  else
    (loopF 1000 (fX6_busiest_b46 a0 a1 s.1 s.2.1 s.2.2) (0, 0) m).bind fun o3 =>
    if o3.1 ≤ s.2.1 then
      some (Sum.inl (s.1, s.2.1, (s.2.2 + 1)), o3.2)
    else
      some (Sum.inl (s.2.2, o3.1, (s.2.2 + 1)), o3.2)
noncomputable def fX6_busiest_b (a0 : Nat) (a1 : Int32) (m : MM) : Option (Int32 × MM) :=
  (fX6_within a1 0 1 m).bind fun o1 =>
  if ¬ (bI o1.1) = 0 then
    (fX6_fillVisited a0 o1.2).bind fun o2 =>
    (loopF 1000 (fX6_busiest_b28 a0 a1) (0, (-1), 0) o2.2).bind fun o4 =>
    if ¬ a1 = 0 then
      some (o4.1.2, o4.2)
    else
      some (o4.1.1, o4.2)
  else
    (fX6_refuse a0 (-1002) o1.2).bind fun o5 =>
    some (o5.1, o5.2)
theorem fX6_busiest_ex : ∃ f : Nat → Int32 → MM → Option (Int32 × MM), f = fX6_busiest_b := ⟨_, rfl⟩
noncomputable def fX6_busiest : Nat → Int32 → MM → Option (Int32 × MM) := Classical.choose fX6_busiest_ex
theorem fX6_busiest_eq : fX6_busiest = fX6_busiest_b := Classical.choose_spec fX6_busiest_ex
noncomputable def fX6_round_b31 (a0 : Nat) (a2 : Nat) (s : Int32) (m : MM) : Option (((Int32) ⊕ ((Unit) ⊕ (Int32))) × MM) :=
  if 60 < s then
    some (Sum.inr (Sum.inl ()), m)
  else
    (fX4_stroll 21 (m.1 5 0 0) m).bind fun o5 =>
    if ¬ (o5.2.1 4 21 0) = (o5.2.1 4 a2 0) then
      some (Sum.inl (s + 1), o5.2)
    else
      if ¬ (o5.2.1 4 21 2) = (o5.2.1 4 a2 2) then
        some (Sum.inl (s + 1), o5.2)
      else
        some (Sum.inr (Sum.inr s), o5.2)
noncomputable def fX6_round_b (a0 : Nat) (a1 : Int32) (m : MM) : Option (Int32 × MM) :=
  (fX5_walkerAt 0 a1 m).bind fun o1 => match o1.1 with
  | none =>
    (fX6_refuse a0 (-1002) o1.2).bind fun o3 =>
    some (o3.1, o3.2)
  | some i2 =>
    (fX4_become 21 i2 o1.2).bind fun o4 =>
    (loopF 1000 (fX6_round_b31 a0 i2) 1 o4.2).bind fun o6 => match o6.1 with
    | Sum.inl x7 =>
      some ((-1), o6.2)
    | Sum.inr x8 =>
      some (x8, o6.2)
theorem fX6_round_ex : ∃ f : Nat → Int32 → MM → Option (Int32 × MM), f = fX6_round_b := ⟨_, rfl⟩
noncomputable def fX6_round : Nat → Int32 → MM → Option (Int32 × MM) := Classical.choose fX6_round_ex
theorem fX6_round_eq : fX6_round = fX6_round_b := Classical.choose_spec fX6_round_ex
noncomputable def fX6_join_j110 (a0 : Nat) (a5 : Int32) (m : MM) : Option (((Int32) ⊕ ((Unit) ⊕ (Int32))) × MM) :=
  some (Sum.inl (a5 + 1), m)
noncomputable def fX6_join_b75 (a0 : Nat) (s : Int32) (m : MM) : Option (((Int32) ⊕ ((Unit) ⊕ (Int32))) × MM) :=
  if 60 < s then
    some (Sum.inr (Sum.inl ()), m)
  else
    (fX3_howAt 0 s m).bind fun o12 =>
    if ¬ o12.1 = 0 then
      fX6_join_j110 a0 s o12.2
    else
      (fX3_howAt 1 s o12.2).bind fun o13 =>
      if ¬ o13.1 = 0 then
        fX6_join_j110 a0 s o13.2
      else
        (fX3_cellAt 0 s o13.2).bind fun o14 =>
        (fX3_cellAt 1 s o14.2).bind fun o15 =>
        if ¬ o14.1 = o15.1 then
          some (Sum.inl (s + 1), o15.2)
        else
          some (Sum.inr (Sum.inr s), o15.2)
noncomputable def fX6_join_b (a0 : Nat) (a1 : Int32) (a2 : Int32) (m : MM) : Option (Int32 × MM) :=
  (fX5_bottleAt 0 a1 m).bind fun o1 => match o1.1 with
  | none =>
    (fX5_bottleAt 0 a2 o1.2).bind fun o3 => match o3.1 with
    | none =>
      (fX6_refuse a0 (-1002) o3.2).bind fun o5 =>
      some (o5.1, o5.2)
    | some i4 =>
      (fX6_refuse a0 (-1002) o3.2).bind fun o6 =>
      some (o6.1, o6.2)
  | some i2 =>
    (fX5_bottleAt 0 a2 o1.2).bind fun o7 => match o7.1 with
    | none =>
      (fX6_refuse a0 (-1002) o7.2).bind fun o9 =>
      some (o9.1, o9.2)
    | some i8 =>
      if ¬ a1 = a2 then
        (fX5_follow 0 0 i2 none 60 o7.2).bind fun o10 =>
        (fX5_follow 0 1 i8 none 60 o10.2).bind fun o11 =>
        (loopF 1000 (fX6_join_b75 a0) 0 o11.2).bind fun o16 => match o16.1 with
        | Sum.inl x17 =>
          some ((-1), o16.2)
        | Sum.inr x18 =>
          some (x18, o16.2)
      else
        (fX6_refuse a0 (-1002) o7.2).bind fun o19 =>
        some (o19.1, o19.2)
theorem fX6_join_ex : ∃ f : Nat → Int32 → Int32 → MM → Option (Int32 × MM), f = fX6_join_b := ⟨_, rfl⟩
noncomputable def fX6_join : Nat → Int32 → Int32 → MM → Option (Int32 × MM) := Classical.choose fX6_join_ex
theorem fX6_join_eq : fX6_join = fX6_join_b := Classical.choose_spec fX6_join_ex
noncomputable def fX6_breaks_b48 (a0 : Nat) (s : Int32) (m : MM) : Option (((Int32) ⊕ ((Unit) ⊕ (Int32))) × MM) :=
  if 60 < s then
    some (Sum.inr (Sum.inl ()), m)
  else
    (fX3_howAt 0 s m).bind fun o7 =>
    if ¬ o7.1 = 2 then
      some (Sum.inl (s + 1), o7.2)
    else
      some (Sum.inr (Sum.inr s), o7.2)
noncomputable def fX6_breaks_b (a0 : Nat) (a1 : Int32) (m : MM) : Option (Int32 × MM) :=
  (fX5_bottleAt 0 a1 m).bind fun o1 => match o1.1 with
  | none =>
    (fX6_refuse a0 (-1002) o1.2).bind fun o3 =>
    some (o3.1, o3.2)
  | some i2 =>
    (fX5_walkerAt 0 (o1.2.1 0 i2 3) o1.2).bind fun o4 => match o4.1 with
    | none =>
      (fX5_follow 0 0 i2 none 60 o4.2).bind fun o6 =>
      (loopF 1000 (fX6_breaks_b48 a0) 0 o6.2).bind fun o8 => match o8.1 with
      | Sum.inl x9 =>
        some ((-1), o8.2)
      | Sum.inr x10 =>
        some (x10, o8.2)
    | some i5 =>
      (fX5_follow 0 0 i2 (some i5) 60 o4.2).bind fun o11 =>
      (loopF 1000 (fX6_breaks_b48 a0) 0 o11.2).bind fun o12 => match o12.1 with
      | Sum.inl x13 =>
        some ((-1), o12.2)
      | Sum.inr x14 =>
        some (x14, o12.2)
theorem fX6_breaks_ex : ∃ f : Nat → Int32 → MM → Option (Int32 × MM), f = fX6_breaks_b := ⟨_, rfl⟩
noncomputable def fX6_breaks : Nat → Int32 → MM → Option (Int32 × MM) := Classical.choose fX6_breaks_ex
theorem fX6_breaks_eq : fX6_breaks = fX6_breaks_b := Classical.choose_spec fX6_breaks_ex
noncomputable def fX6_first_b26 (a0 : Nat) (a1 : Int32) (s : Int32 × Int32 × Int32) (m : MM) : Option (((Int32 × Int32 × Int32) ⊕ (Int32)) × MM) :=
  if (m.1 5 0 5) ≤ s.2.2 then
    some (Sum.inr s.1, m)
  else
    (fX5_bottleAt 0 s.2.2 m).bind fun o4 => match o4.1 with
    | none =>
      some (Sum.inl (s.1, s.2.1, (s.2.2 + 1)), o4.2)
    | some i5 =>
      if ¬ (o4.2.1 0 i5 3) = a1 then
        some (Sum.inl (s.1, s.2.1, (s.2.2 + 1)), o4.2)
      else
        if (o4.2.1 0 i5 4) = 0 then
          (fX5_daysTillFound 0 i5 o4.2).bind fun o6 =>
          if o6.1 = (-1) then
            some (Sum.inl (s.1, s.2.1, (s.2.2 + 1)), o6.2)
          else
            if s.2.1 = (-1) then
              some (Sum.inl (s.2.2, o6.1, (s.2.2 + 1)), o6.2)
            else
              if s.2.1 ≤ o6.1 then
                some (Sum.inl (s.1, s.2.1, (s.2.2 + 1)), o6.2)
              else
                some (Sum.inl (s.2.2, o6.1, (s.2.2 + 1)), o6.2)
        else
          some (Sum.inl (s.1, s.2.1, (s.2.2 + 1)), o4.2)
noncomputable def fX6_first_b (a0 : Nat) (a1 : Int32) (m : MM) : Option (Int32 × MM) :=
  (fX5_walkerAt 0 a1 m).bind fun o1 => match o1.1 with
  | none =>
    (fX6_refuse a0 (-1002) o1.2).bind fun o3 =>
    some (o3.1, o3.2)
  | some i2 =>
    (loopF 1000 (fX6_first_b26 a0 a1) ((-1), (-1), 0) o1.2).bind fun o7 =>
    some (o7.1, o7.2)
theorem fX6_first_ex : ∃ f : Nat → Int32 → MM → Option (Int32 × MM), f = fX6_first_b := ⟨_, rfl⟩
noncomputable def fX6_first : Nat → Int32 → MM → Option (Int32 × MM) := Classical.choose fX6_first_ex
theorem fX6_first_eq : fX6_first = fX6_first_b := Classical.choose_spec fX6_first_ex
noncomputable def fX6_next_b (a0 : Nat) (a1 : Int32) (a2 : Int32) (a3 : Int32) (m : MM) : Option (Int32 × MM) :=
  (fX6_isKind a1 m).bind fun o1 =>
  if (bI o1.1) = 0 then
    (fX6_refuse a0 (-1002) o1.2).bind fun o2 =>
    some (o2.1, o2.2)
  else
    (fX6_within a2 0 9 o1.2).bind fun o3 =>
    if (bI o3.1) = 0 then
      (fX6_refuse a0 (-1002) o3.2).bind fun o4 =>
      some (o4.1, o4.2)
    else
      (fX5_hasCell 0 a3 o3.2).bind fun o5 =>
      if ¬ (bI o5.1) = 0 then
        (fX0_start 27 a1 a2 a3 (-1) o5.2).bind fun o6 =>
        (fX5_spend 0 27 (o6.2.1 5 0 2) (-1) o6.2).bind fun o7 =>
        if ¬ (o7.2.1 0 27 4) = 2 then
          some ((o7.2.1 0 27 2), o7.2)
        else
          some ((-1), o7.2)
      else
        (fX6_refuse a0 (-1002) o5.2).bind fun o8 =>
        some (o8.1, o8.2)
theorem fX6_next_ex : ∃ f : Nat → Int32 → Int32 → Int32 → MM → Option (Int32 × MM), f = fX6_next_b := ⟨_, rfl⟩
noncomputable def fX6_next : Nat → Int32 → Int32 → Int32 → MM → Option (Int32 × MM) := Classical.choose fX6_next_ex
theorem fX6_next_eq : fX6_next = fX6_next_b := Classical.choose_spec fX6_next_ex
noncomputable def fX6_stays_b30 (a0 : Nat) (a1 : Int32) (a2 : Int32) (s : Int32 × Int32) (m : MM) : Option (((Int32 × Int32) ⊕ (Int32)) × MM) :=
  if (m.1 5 0 0) ≤ s.2 then
    some (Sum.inr s.1, m)
  else
    (fX0_start 27 a1 a2 s.2 (-1) m).bind fun o4 =>
    (fX5_spend 0 27 (o4.2.1 5 0 2) (-1) o4.2).bind fun o5 =>
    if ¬ (o5.2.1 0 27 2) = s.2 then
      some (Sum.inl (s.1, (s.2 + 1)), o5.2)
    else
      some (Sum.inl ((s.1 ||| (1 <<< (s.2 &&& 31))), (s.2 + 1)), o5.2)
noncomputable def fX6_stays_b (a0 : Nat) (a1 : Int32) (a2 : Int32) (m : MM) : Option (Int32 × MM) :=
  (fX6_isKind a1 m).bind fun o1 =>
  if (bI o1.1) = 0 then
    (fX6_refuse a0 (-1002) o1.2).bind fun o2 =>
    some (o2.1, o2.2)
  else
    (fX6_within a2 0 9 o1.2).bind fun o3 =>
    if ¬ (bI o3.1) = 0 then
      (loopF 1000 (fX6_stays_b30 a0 a1 a2) (0, 0) o3.2).bind fun o6 =>
      some (o6.1, o6.2)
    else
      (fX6_refuse a0 (-1002) o3.2).bind fun o7 =>
      some (o7.1, o7.2)
theorem fX6_stays_ex : ∃ f : Nat → Int32 → Int32 → MM → Option (Int32 × MM), f = fX6_stays_b := ⟨_, rfl⟩
noncomputable def fX6_stays : Nat → Int32 → Int32 → MM → Option (Int32 × MM) := Classical.choose fX6_stays_ex
theorem fX6_stays_eq : fX6_stays = fX6_stays_b := Classical.choose_spec fX6_stays_ex
noncomputable def fX6_strays_b4 (a0 : Nat) (s : Int32 × Int32) (m : MM) : Option (((Int32 × Int32) ⊕ (Int32)) × MM) :=
  if (m.1 5 0 5) ≤ s.2 then
    some (Sum.inr s.1, m)
  else
    (fX5_bottleAt 0 s.2 m).bind fun o1 => match o1.1 with
    | none =>
      some (Sum.inl (s.1, (s.2 + 1)), o1.2)
    | some i2 =>
      (fX5_walkerAt 0 (o1.2.1 0 i2 3) o1.2).bind fun o3 => match o3.1 with
      | none =>
        (fX5_follow 0 0 i2 none 60 o3.2).bind fun o5 =>
        (fX3_howAt 0 60 o5.2).bind fun o6 =>
        if ¬ o6.1 = 0 then
          some (Sum.inl (s.1, (s.2 + 1)), o6.2)
        else
          some (Sum.inl ((s.1 ||| (1 <<< (s.2 &&& 31))), (s.2 + 1)), o6.2)
      | some i4 =>
        (fX5_follow 0 0 i2 (some i4) 60 o3.2).bind fun o7 =>
        (fX3_howAt 0 60 o7.2).bind fun o8 =>
        if ¬ o8.1 = 0 then
          some (Sum.inl (s.1, (s.2 + 1)), o8.2)
        else
          some (Sum.inl ((s.1 ||| (1 <<< (s.2 &&& 31))), (s.2 + 1)), o8.2)
noncomputable def fX6_strays_b (a0 : Nat) (m : MM) : Option (Int32 × MM) :=
  (loopF 1000 (fX6_strays_b4 a0) (0, 0) m).bind fun o9 =>
  some (o9.1, o9.2)
theorem fX6_strays_ex : ∃ f : Nat → MM → Option (Int32 × MM), f = fX6_strays_b := ⟨_, rfl⟩
noncomputable def fX6_strays : Nat → MM → Option (Int32 × MM) := Classical.choose fX6_strays_ex
theorem fX6_strays_eq : fX6_strays = fX6_strays_b := Classical.choose_spec fX6_strays_ex
noncomputable def fX6_ofKind_b19 (a0 : Nat) (a1 : Int32) (s : Int32 × Int32) (m : MM) : Option (((Int32 × Int32) ⊕ (Int32)) × MM) :=
  if (m.1 5 0 5) ≤ s.2 then
    some (Sum.inr s.1, m)
  else
    (fX5_bottleAt 0 s.2 m).bind fun o2 => match o2.1 with
    | none =>
      some (Sum.inl (s.1, (s.2 + 1)), o2.2)
    | some i3 =>
      if ¬ (o2.2.1 0 i3 0) = a1 then
        some (Sum.inl (s.1, (s.2 + 1)), o2.2)
      else
        some (Sum.inl ((s.1 + 1), (s.2 + 1)), o2.2)
noncomputable def fX6_ofKind_b (a0 : Nat) (a1 : Int32) (m : MM) : Option (Int32 × MM) :=
  (fX6_isKind a1 m).bind fun o1 =>
  if ¬ (bI o1.1) = 0 then
    (loopF 1000 (fX6_ofKind_b19 a0 a1) (0, 0) o1.2).bind fun o4 =>
    some (o4.1, o4.2)
  else
    (fX6_refuse a0 (-1002) o1.2).bind fun o5 =>
    some (o5.1, o5.2)
theorem fX6_ofKind_ex : ∃ f : Nat → Int32 → MM → Option (Int32 × MM), f = fX6_ofKind_b := ⟨_, rfl⟩
noncomputable def fX6_ofKind : Nat → Int32 → MM → Option (Int32 × MM) := Classical.choose fX6_ofKind_ex
theorem fX6_ofKind_eq : fX6_ofKind = fX6_ofKind_b := Classical.choose_spec fX6_ofKind_ex
noncomputable def fX6_judge_b109 (a0 : Nat) (a2 : Int32) (a4 : Nat) (s : Int32) (m : MM) : Option (((Int32) ⊕ ((Unit) ⊕ (Int32))) × MM) :=
  if a2 ≤ s then
    some (Sum.inr (Sum.inl ()), m)
  else
    (fX1_take a4 s m).bind fun o18 =>
    (fX3_cellAt 0 (s + 1) o18.2).bind fun o19 =>
    if (lg_cmp o18.1 o19.1.toInt64) = 0 then
      some (Sum.inl (s + 1), o19.2)
    else
      some (Sum.inr (Sum.inr s), o19.2)
noncomputable def fX6_judge_b (a0 : Nat) (a1 : Int32) (a2 : Int32) (a3 : Int32) (m : MM) : Option (Int32 × MM) :=
  (fX6_shelfAt a0 a1 m).bind fun o1 => match o1.1 with
  | none =>
    (fX5_bottleAt 0 a3 o1.2).bind fun o3 => match o3.1 with
    | none =>
      (fX6_refuse a0 (-1002) o3.2).bind fun o5 =>
      some (o5.1, o5.2)
    | some i4 =>
      (fX6_refuse a0 (-1002) o3.2).bind fun o6 =>
      some (o6.1, o6.2)
  | some i2 =>
    (fX5_bottleAt 0 a3 o1.2).bind fun o7 => match o7.1 with
    | none =>
      (fX6_within a2 0 40 o7.2).bind fun o9 =>
      if (bI o9.1) = 0 then
        (fX6_refuse a0 (-1002) o9.2).bind fun o10 =>
        some (o10.1, o10.2)
      else
        (fX6_refuse a0 (-1002) o9.2).bind fun o11 =>
        some (o11.1, o11.2)
    | some i8 =>
      (fX6_within a2 0 40 o7.2).bind fun o12 =>
      if (bI o12.1) = 0 then
        (fX6_refuse a0 (-1002) o12.2).bind fun o13 =>
        some (o13.1, o13.2)
      else
        (fX1_isRow i2 o12.2).bind fun o14 =>
        if ¬ (bI o14.1) = 0 then
          if a2 ≤ (o14.2.1 1 i2 1) then
            (fX5_walkerAt 0 (o14.2.1 0 i8 3) o14.2).bind fun o15 => match o15.1 with
            | none =>
              (fX5_follow 0 0 i8 none a2 o15.2).bind fun o17 =>
              (loopF 1000 (fX6_judge_b109 a0 a2 i2) 0 o17.2).bind fun o20 => match o20.1 with
              | Sum.inl x21 =>
                some ((-1), o20.2)
              | Sum.inr x22 =>
                some (x22, o20.2)
            | some i16 =>
              (fX5_follow 0 0 i8 (some i16) a2 o15.2).bind fun o23 =>
              (loopF 1000 (fX6_judge_b109 a0 a2 i2) 0 o23.2).bind fun o24 => match o24.1 with
              | Sum.inl x25 =>
                some ((-1), o24.2)
              | Sum.inr x26 =>
                some (x26, o24.2)
          else
            (fX6_refuse a0 (-1002) o14.2).bind fun o27 =>
            some (o27.1, o27.2)
        else
          (fX1_whyNoRow i2 o14.2).bind fun o28 =>
          (fX6_refuse a0 o28.1 o28.2).bind fun o29 =>
          some (o29.1, o29.2)
theorem fX6_judge_ex : ∃ f : Nat → Int32 → Int32 → Int32 → MM → Option (Int32 × MM), f = fX6_judge_b := ⟨_, rfl⟩
noncomputable def fX6_judge : Nat → Int32 → Int32 → Int32 → MM → Option (Int32 × MM) := Classical.choose fX6_judge_ex
theorem fX6_judge_eq : fX6_judge = fX6_judge_b := Classical.choose_spec fX6_judge_ex
noncomputable def fX6_thrown_j28 (a0 : Nat) (a1 : Int32) (a2 : Int32) (a3 : Int32) (a4 : Int32) (z0 : Int32) (m : MM) : Option (Int32 × MM) :=
  (fX6_isKind a1 m).bind fun o2 =>
  if (bI o2.1) = 0 then
    (fX6_refuse a0 (-1002) o2.2).bind fun o3 =>
    some (o3.1, o3.2)
  else
    (fX6_within a2 0 9 o2.2).bind fun o4 =>
    if (bI o4.1) = 0 then
      (fX6_refuse a0 (-1002) o4.2).bind fun o5 =>
      some (o5.1, o5.2)
    else
      if ¬ z0 = 0 then
        (fX5_hasRoomForBottle 0 o4.2).bind fun o6 =>
        if ¬ (bI o6.1) = 0 then
          (fX5_addBottle 0 a1 a2 a3 a4 o6.2).bind fun o7 =>
          some (o7.1, o7.2)
        else
          (fX6_refuse a0 (-1006) o6.2).bind fun o8 =>
          some (o8.1, o8.2)
      else
        (fX6_refuse a0 (-1002) o4.2).bind fun o9 =>
        some (o9.1, o9.2)
noncomputable def fX6_thrown_j27 (a0 : Nat) (a1 : Int32) (a2 : Int32) (a3 : Int32) (a4 : Int32) (m : MM) : Option (Int32 × MM) :=
  fX6_thrown_j28 a0 a1 a2 a3 a4 0 m
noncomputable def fX6_thrown_b (a0 : Nat) (a1 : Int32) (a2 : Int32) (a3 : Int32) (a4 : Int32) (m : MM) : Option (Int32 × MM) :=
  (fX5_hasCell 0 a3 m).bind fun o1 =>
  if (bI o1.1) = 0 then
    fX6_thrown_j27 a0 a1 a2 a3 a4 o1.2
  else
    (fX5_walkerAt 0 a4 o1.2).bind fun o10 => match o10.1 with
    | none =>
      fX6_thrown_j27 a0 a1 a2 a3 a4 o10.2
    | some i11 =>
      fX6_thrown_j28 a0 a1 a2 a3 a4 1 o10.2
theorem fX6_thrown_ex : ∃ f : Nat → Int32 → Int32 → Int32 → Int32 → MM → Option (Int32 × MM), f = fX6_thrown_b := ⟨_, rfl⟩
noncomputable def fX6_thrown : Nat → Int32 → Int32 → Int32 → Int32 → MM → Option (Int32 × MM) := Classical.choose fX6_thrown_ex
theorem fX6_thrown_eq : fX6_thrown = fX6_thrown_b := Classical.choose_spec fX6_thrown_ex
noncomputable def fX6_days_b20 (a0 : Nat) (a1 : Int32) (s : Int32) (m : MM) : Option (((Int32) ⊕ (Unit)) × MM) :=
  if a1 ≤ s then
    some (Sum.inr (), m)
  else
    (fX5_passDay 0 m).bind fun o2 =>
    some (Sum.inl (s + 1), o2.2)
noncomputable def fX6_days_b (a0 : Nat) (a1 : Int32) (m : MM) : Option (Int32 × MM) :=
  (fX6_within a1 1 60 m).bind fun o1 =>
  if ¬ (bI o1.1) = 0 then
    (loopF 1000 (fX6_days_b20 a0 a1) 0 o1.2).bind fun o3 =>
    some ((o3.2.1 5 0 3), o3.2)
  else
    (fX6_refuse a0 (-1002) o1.2).bind fun o4 =>
    some (o4.1, o4.2)
theorem fX6_days_ex : ∃ f : Nat → Int32 → MM → Option (Int32 × MM), f = fX6_days_b := ⟨_, rfl⟩
noncomputable def fX6_days : Nat → Int32 → MM → Option (Int32 × MM) := Classical.choose fX6_days_ex
theorem fX6_days_eq : fX6_days = fX6_days_b := Classical.choose_spec fX6_days_ex
noncomputable def fX6_drawn_b40 (a0 : Nat) (a1 : Int32) (s : Int32 × Int32) (m : MM) : Option (((Int32 × Int32) ⊕ (Int32)) × MM) :=
  if a1 ≤ s.2 then
    some (Sum.inr s.1, m)
  else
    (fX5_passDrawnDay 0 m).bind fun o2 =>
    some (Sum.inl ((s.1 + o2.1), (s.2 + 1)), o2.2)
noncomputable def fX6_drawn_b (a0 : Nat) (a1 : Int32) (m : MM) : Option (Int32 × MM) :=
  (fX6_within a1 1 60 m).bind fun o1 =>
  if ¬ (bI o1.1) = 0 then
    if ¬ (o1.2.1 5 0 5) = 0 then
      (loopF 1000 (fX6_drawn_b40 a0 a1) (0, 0) o1.2).bind fun o3 =>
      some (o3.1, o3.2)
    else
      (fX6_refuse a0 (-1005) o1.2).bind fun o4 =>
      some (o4.1, o4.2)
  else
    (fX6_refuse a0 (-1002) o1.2).bind fun o5 =>
    some (o5.1, o5.2)
theorem fX6_drawn_ex : ∃ f : Nat → Int32 → MM → Option (Int32 × MM), f = fX6_drawn_b := ⟨_, rfl⟩
noncomputable def fX6_drawn : Nat → Int32 → MM → Option (Int32 × MM) := Classical.choose fX6_drawn_ex
theorem fX6_drawn_eq : fX6_drawn = fX6_drawn_b := Classical.choose_spec fX6_drawn_ex
noncomputable def fX6_seed_b (a0 : Nat) (a1 : Int32) (m : MM) : Option (Int32 × MM) :=
  some ((m.1 5 0 4), ((upI m.1 5 0 4 a1), m.2))
theorem fX6_seed_ex : ∃ f : Nat → Int32 → MM → Option (Int32 × MM), f = fX6_seed_b := ⟨_, rfl⟩
noncomputable def fX6_seed : Nat → Int32 → MM → Option (Int32 × MM) := Classical.choose fX6_seed_ex
theorem fX6_seed_eq : fX6_seed = fX6_seed_b := Classical.choose_spec fX6_seed_ex
noncomputable def fX6_image_b (a0 : Nat) (m : MM) : Option (Int32 × MM) :=
  (fX5_become 1 0 m).bind fun o1 =>
  some (1, ((upI o1.2.1 6 a0 3 1), o1.2.2))
theorem fX6_image_ex : ∃ f : Nat → MM → Option (Int32 × MM), f = fX6_image_b := ⟨_, rfl⟩
noncomputable def fX6_image : Nat → MM → Option (Int32 × MM) := Classical.choose fX6_image_ex
theorem fX6_image_eq : fX6_image = fX6_image_b := Classical.choose_spec fX6_image_ex
noncomputable def fX6_back_b28 (a0 : Nat) (s : Int32) (m : MM) : Option (((Int32) ⊕ (Unit)) × MM) :=
  if (nI 8) ≤ s then
    some (Sum.inr (), m)
  else
    (fX6_shelfAt a0 s m).bind fun o2 => match o2.1 with
    | none =>
      some (Sum.inl (s + 1), o2.2)
    | some i3 =>
      (fX1_isBottle i3 o2.2).bind fun o4 =>
      if (bI o4.1) = 0 then
        some (Sum.inl (s + 1), o4.2)
      else
        (fX5_bottleAt 0 ((o4.2.1 1 i3 0) - 10) o4.2).bind fun o5 => match o5.1 with
        | none =>
          some (Sum.inl (s + 1), ((upI o5.2.1 1 i3 0 (-1)), o5.2.2))
        | some i6 =>
          some (Sum.inl (s + 1), o5.2)
noncomputable def fX6_back_b (a0 : Nat) (m : MM) : Option (Int32 × MM) :=
  if ¬ (m.1 6 a0 3) = 0 then
    (fX5_become 0 1 m).bind fun o1 =>
    (loopF 1000 (fX6_back_b28 a0) 0 o1.2).bind fun o7 =>
    some (1, o7.2)
  else
    (fX6_refuse a0 (-1005) m).bind fun o8 =>
    some (o8.1, o8.2)
theorem fX6_back_ex : ∃ f : Nat → MM → Option (Int32 × MM), f = fX6_back_b := ⟨_, rfl⟩
noncomputable def fX6_back : Nat → MM → Option (Int32 × MM) := Classical.choose fX6_back_ex
theorem fX6_back_eq : fX6_back = fX6_back_b := Classical.choose_spec fX6_back_ex
noncomputable def fJ6_bitCount_0f7a4_b (a0 : Int32) (m : MM) : Option (Int32 × MM) :=
  some (((((((((a0 - ((usr a0 1) &&& 1431655765)) &&& 858993459) + ((usr (a0 - ((usr a0 1) &&& 1431655765)) 2) &&& 858993459)) + (usr (((a0 - ((usr a0 1) &&& 1431655765)) &&& 858993459) + ((usr (a0 - ((usr a0 1) &&& 1431655765)) 2) &&& 858993459)) 4)) &&& 252645135) + (usr (((((a0 - ((usr a0 1) &&& 1431655765)) &&& 858993459) + ((usr (a0 - ((usr a0 1) &&& 1431655765)) 2) &&& 858993459)) + (usr (((a0 - ((usr a0 1) &&& 1431655765)) &&& 858993459) + ((usr (a0 - ((usr a0 1) &&& 1431655765)) 2) &&& 858993459)) 4)) &&& 252645135) 8)) + (usr ((((((a0 - ((usr a0 1) &&& 1431655765)) &&& 858993459) + ((usr (a0 - ((usr a0 1) &&& 1431655765)) 2) &&& 858993459)) + (usr (((a0 - ((usr a0 1) &&& 1431655765)) &&& 858993459) + ((usr (a0 - ((usr a0 1) &&& 1431655765)) 2) &&& 858993459)) 4)) &&& 252645135) + (usr (((((a0 - ((usr a0 1) &&& 1431655765)) &&& 858993459) + ((usr (a0 - ((usr a0 1) &&& 1431655765)) 2) &&& 858993459)) + (usr (((a0 - ((usr a0 1) &&& 1431655765)) &&& 858993459) + ((usr (a0 - ((usr a0 1) &&& 1431655765)) 2) &&& 858993459)) 4)) &&& 252645135) 8)) 16)) &&& 63), m)
theorem fJ6_bitCount_0f7a4_ex : ∃ f : Int32 → MM → Option (Int32 × MM), f = fJ6_bitCount_0f7a4_b := ⟨_, rfl⟩
noncomputable def fJ6_bitCount_0f7a4 : Int32 → MM → Option (Int32 × MM) := Classical.choose fJ6_bitCount_0f7a4_ex
theorem fJ6_bitCount_0f7a4_eq : fJ6_bitCount_0f7a4 = fJ6_bitCount_0f7a4_b := Classical.choose_spec fJ6_bitCount_0f7a4_ex
noncomputable def fX6_shelvesInUse_b4 (a0 : Nat) (s : Int32 × Int32) (m : MM) : Option (((Int32 × Int32) ⊕ (Int32)) × MM) :=
  if (nI 8) ≤ s.2 then
    some (Sum.inr s.1, m)
  else
    (fX6_holds a0 s.2 m).bind fun o1 =>
    if o1.1 = (-1) then
      some (Sum.inl (s.1, (s.2 + 1)), o1.2)
    else
      some (Sum.inl ((s.1 + 1), (s.2 + 1)), o1.2)
noncomputable def fX6_shelvesInUse_b (a0 : Nat) (m : MM) : Option (Int32 × MM) :=
  (loopF 1000 (fX6_shelvesInUse_b4 a0) (0, 0) m).bind fun o2 =>
  some (o2.1, o2.2)
theorem fX6_shelvesInUse_ex : ∃ f : Nat → MM → Option (Int32 × MM), f = fX6_shelvesInUse_b := ⟨_, rfl⟩
noncomputable def fX6_shelvesInUse : Nat → MM → Option (Int32 × MM) := Classical.choose fX6_shelvesInUse_ex
theorem fX6_shelvesInUse_eq : fX6_shelvesInUse = fX6_shelvesInUse_b := Classical.choose_spec fX6_shelvesInUse_ex
noncomputable def fX6_status_b (a0 : Nat) (a1 : Int32) (m : MM) : Option (Int32 × MM) :=
  if a1 = 0 then
    some ((m.1 5 0 5), m)
  else
    if a1 = 1 then
      some ((m.1 5 0 6), m)
    else
      if a1 = 2 then
        some ((m.1 5 0 0), m)
      else
        if a1 = 3 then
          some ((m.1 5 0 1), m)
        else
          if a1 = 4 then
            some ((m.1 5 0 2), m)
          else
            if a1 = 5 then
              some ((m.1 5 0 3), m)
            else
              if a1 = 6 then
                (fX6_who a0 0 m).bind fun o3 =>
                (fJ6_bitCount_0f7a4 o3.1 o3.2).bind fun o4 =>
                some (o4.1, o4.2)
              else
                if a1 = 7 then
                  some ((m.1 2 0 0), m)
                else
                  if a1 = 8 then
                    some ((m.1 5 0 4), m)
                  else
                    if a1 = 9 then
                      (fX6_shelvesInUse a0 m).bind fun o2 =>
                      some (o2.1, o2.2)
                    else
                      (fX6_within a1 12 16 m).bind fun o1 =>
                      if (bI o1.1) = 0 then
                        some ((-1), o1.2)
                      else
                        bif inB (a1 - 12) 5 then
                          some ((o1.2.1 47 0 (a1 - 12).toNatClampNeg), o1.2)
                        else none
theorem fX6_status_ex : ∃ f : Nat → Int32 → MM → Option (Int32 × MM), f = fX6_status_b := ⟨_, rfl⟩
noncomputable def fX6_status : Nat → Int32 → MM → Option (Int32 × MM) := Classical.choose fX6_status_ex
theorem fX6_status_eq : fX6_status = fX6_status_b := Classical.choose_spec fX6_status_ex
noncomputable def fX7_no_j9 (a1 : Int32) (z0 : Nat) (z1 : Int32) (m : MM) : Option (Int32 × MM) :=
  bif inB z1 7 then
    bif inB z1 7 then
      some (a1, ((upI m.1 61 z0 z1.toNatClampNeg ((m.1 61 z0 z1.toNatClampNeg) + 1)), m.2))
    else none
  else none
noncomputable def fX7_no_b (a0 : Nat) (a1 : Int32) (m : MM) : Option (Int32 × MM) :=
  fX7_no_j9 a1 0 ((-1000) - a1) m
theorem fX7_no_ex : ∃ f : Nat → Int32 → MM → Option (Int32 × MM), f = fX7_no_b := ⟨_, rfl⟩
noncomputable def fX7_no : Nat → Int32 → MM → Option (Int32 × MM) := Classical.choose fX7_no_ex
theorem fX7_no_eq : fX7_no = fX7_no_b := Classical.choose_spec fX7_no_ex
noncomputable def fX7_within_b (a0 : Int32) (a1 : Int32) (a2 : Int32) (m : MM) : Option (Bool × MM) :=
  if a0 < a1 then
    some (false, m)
  else
    if a2 < a0 then
      some (false, m)
    else
      some (true, m)
theorem fX7_within_ex : ∃ f : Int32 → Int32 → Int32 → MM → Option (Bool × MM), f = fX7_within_b := ⟨_, rfl⟩
noncomputable def fX7_within : Int32 → Int32 → Int32 → MM → Option (Bool × MM) := Classical.choose fX7_within_ex
theorem fX7_within_eq : fX7_within = fX7_within_b := Classical.choose_spec fX7_within_ex
noncomputable def fX7_isCell_b (a0 : Nat) (a1 : Int32) (m : MM) : Option (Bool × MM) :=
  (fX7_within a1 0 ((m.1 7 a0 0) - 1) m).bind fun o1 =>
  some (o1.1, o1.2)
theorem fX7_isCell_ex : ∃ f : Nat → Int32 → MM → Option (Bool × MM), f = fX7_isCell_b := ⟨_, rfl⟩
noncomputable def fX7_isCell : Nat → Int32 → MM → Option (Bool × MM) := Classical.choose fX7_isCell_ex
theorem fX7_isCell_eq : fX7_isCell = fX7_isCell_b := Classical.choose_spec fX7_isCell_ex
noncomputable def fX7_isBottle_b (a0 : Nat) (a1 : Int32) (m : MM) : Option (Bool × MM) :=
  (fX7_within a1 0 ((m.1 7 a0 4) - 1) m).bind fun o1 =>
  some (o1.1, o1.2)
theorem fX7_isBottle_ex : ∃ f : Nat → Int32 → MM → Option (Bool × MM), f = fX7_isBottle_b := ⟨_, rfl⟩
noncomputable def fX7_isBottle : Nat → Int32 → MM → Option (Bool × MM) := Classical.choose fX7_isBottle_ex
theorem fX7_isBottle_eq : fX7_isBottle = fX7_isBottle_b := Classical.choose_spec fX7_isBottle_ex
noncomputable def fX7_isWalker_b (a0 : Nat) (a1 : Int32) (m : MM) : Option (Bool × MM) :=
  (fX7_within a1 0 ((m.1 7 a0 10) - 1) m).bind fun o1 =>
  some (o1.1, o1.2)
theorem fX7_isWalker_ex : ∃ f : Nat → Int32 → MM → Option (Bool × MM), f = fX7_isWalker_b := ⟨_, rfl⟩
noncomputable def fX7_isWalker : Nat → Int32 → MM → Option (Bool × MM) := Classical.choose fX7_isWalker_ex
theorem fX7_isWalker_eq : fX7_isWalker = fX7_isWalker_b := Classical.choose_spec fX7_isWalker_ex
noncomputable def fX7_isSuch_b (a0 : Int32) (a1 : Int32) (m : MM) : Option (Bool × MM) :=
  (fX7_within a0 0 5 m).bind fun o1 =>
  if (bI o1.1) = 0 then
    some (false, o1.2)
  else
    (fX7_within a1 0 9 o1.2).bind fun o2 =>
    if (bI o2.1) = 0 then
      some (false, o2.2)
    else
      some (true, o2.2)
theorem fX7_isSuch_ex : ∃ f : Int32 → Int32 → MM → Option (Bool × MM), f = fX7_isSuch_b := ⟨_, rfl⟩
noncomputable def fX7_isSuch : Int32 → Int32 → MM → Option (Bool × MM) := Classical.choose fX7_isSuch_ex
theorem fX7_isSuch_eq : fX7_isSuch = fX7_isSuch_b := Classical.choose_spec fX7_isSuch_ex
noncomputable def fX7_isTime_b (a0 : Int32) (m : MM) : Option (Bool × MM) :=
  (fX7_within a0 0 60 m).bind fun o1 =>
  some (o1.1, o1.2)
theorem fX7_isTime_ex : ∃ f : Int32 → MM → Option (Bool × MM), f = fX7_isTime_b := ⟨_, rfl⟩
noncomputable def fX7_isTime : Int32 → MM → Option (Bool × MM) := Classical.choose fX7_isTime_ex
theorem fX7_isTime_eq : fX7_isTime = fX7_isTime_b := Classical.choose_spec fX7_isTime_ex
noncomputable def fX7_isShelf_b (a0 : Int32) (m : MM) : Option (Bool × MM) :=
  (fX7_within a0 0 7 m).bind fun o1 =>
  some (o1.1, o1.2)
theorem fX7_isShelf_ex : ∃ f : Int32 → MM → Option (Bool × MM), f = fX7_isShelf_b := ⟨_, rfl⟩
noncomputable def fX7_isShelf : Int32 → MM → Option (Bool × MM) := Classical.choose fX7_isShelf_ex
theorem fX7_isShelf_eq : fX7_isShelf = fX7_isShelf_b := Classical.choose_spec fX7_isShelf_ex
noncomputable def fX7_isRow_b (a0 : Nat) (a1 : Int32) (m : MM) : Option (Bool × MM) :=
  bif inB a1 8 then
    (fX7_within (m.1 59 0 a1.toNatClampNeg) 0 4 m).bind fun o1 =>
    some (o1.1, o1.2)
  else none
theorem fX7_isRow_ex : ∃ f : Nat → Int32 → MM → Option (Bool × MM), f = fX7_isRow_b := ⟨_, rfl⟩
noncomputable def fX7_isRow : Nat → Int32 → MM → Option (Bool × MM) := Classical.choose fX7_isRow_ex
theorem fX7_isRow_eq : fX7_isRow = fX7_isRow_b := Classical.choose_spec fX7_isRow_ex
noncomputable def fX7_row_b51 (a0 : Nat) (a1 : Int32) (s : Int32) (m : MM) : Option (((Int32) ⊕ (Unit)) × MM) :=
  if 40 ≤ s then
    some (Sum.inr (), m)
  else
    bif inB ((40 * a1) + s) 320 then
      some (Sum.inl (s + 1), (m.1, (upL m.2 21 0 ((40 * a1) + s).toNatClampNeg 0)))
    else none
noncomputable def fX7_row_b (a0 : Nat) (a1 : Int32) (a2 : Int32) (a3 : Int32) (m : MM) : Option (Int32 × MM) :=
  (fX7_isShelf a1 m).bind fun o1 =>
  if (bI o1.1) = 0 then
    (fX7_no a0 (-1002) o1.2).bind fun o2 =>
    some (o2.1, o2.2)
  else
    (fX7_within a2 0 4 o1.2).bind fun o3 =>
    if (bI o3.1) = 0 then
      (fX7_no a0 (-1002) o3.2).bind fun o4 =>
      some (o4.1, o4.2)
    else
      (fX7_within a3 0 40 o3.2).bind fun o5 =>
      if ¬ (bI o5.1) = 0 then
        bif inB a1 8 then
          bif inB a1 8 then
            (loopF 1000 (fX7_row_b51 a0 a1) 0 ((upI (upI o5.2.1 59 0 a1.toNatClampNeg a2) 60 0 a1.toNatClampNeg a3), o5.2.2)).bind fun o6 =>
            some (1, o6.2)
          else none
        else none
      else
        (fX7_no a0 (-1002) o5.2).bind fun o7 =>
        some (o7.1, o7.2)
theorem fX7_row_ex : ∃ f : Nat → Int32 → Int32 → Int32 → MM → Option (Int32 × MM), f = fX7_row_b := ⟨_, rfl⟩
noncomputable def fX7_row : Nat → Int32 → Int32 → Int32 → MM → Option (Int32 × MM) := Classical.choose fX7_row_ex
theorem fX7_row_eq : fX7_row = fX7_row_b := Classical.choose_spec fX7_row_ex
noncomputable def fX7_noRow_b (a0 : Nat) (a1 : Int32) (m : MM) : Option (Int32 × MM) :=
  bif inB a1 8 then
    if (m.1 59 0 a1.toNatClampNeg) < 10 then
      bif inB a1 8 then
        if 0 ≤ (m.1 59 0 a1.toNatClampNeg) then
          some (0, m)
        else
          some ((-1004), m)
      else none
    else
      some ((-1003), m)
  else none
theorem fX7_noRow_ex : ∃ f : Nat → Int32 → MM → Option (Int32 × MM), f = fX7_noRow_b := ⟨_, rfl⟩
noncomputable def fX7_noRow : Nat → Int32 → MM → Option (Int32 × MM) := Classical.choose fX7_noRow_ex
theorem fX7_noRow_eq : fX7_noRow = fX7_noRow_b := Classical.choose_spec fX7_noRow_ex
noncomputable def fX7_kept_b (a0 : Int32) (a1 : Int64) (m : MM) : Option (Int64 × MM) :=
  if a0 = 0 then
    some (a1.toInt32.toInt8.toInt32.toInt64, m)
  else
    if a0 = 1 then
      some (a1.toInt32.toInt16.toInt32.toInt64, m)
    else
      if a0 = 2 then
        some (a1.toInt32.toInt64, m)
      else
        if a0 = 3 then
          some (a1, m)
        else
          if (lg_cmp a1 0) = 0 then
            some (0, m)
          else
            some (1, m)
theorem fX7_kept_ex : ∃ f : Int32 → Int64 → MM → Option (Int64 × MM), f = fX7_kept_b := ⟨_, rfl⟩
noncomputable def fX7_kept : Int32 → Int64 → MM → Option (Int64 × MM) := Classical.choose fX7_kept_ex
theorem fX7_kept_eq : fX7_kept = fX7_kept_b := Classical.choose_spec fX7_kept_ex
noncomputable def fX7_set_b (a0 : Nat) (a1 : Int32) (a2 : Int32) (a3 : Int64) (m : MM) : Option (Int32 × MM) :=
  (fX7_isShelf a1 m).bind fun o1 =>
  if ¬ (bI o1.1) = 0 then
    (fX7_isRow a0 a1 o1.2).bind fun o2 =>
    if ¬ (bI o2.1) = 0 then
      bif inB a1 8 then
        (fX7_within a2 0 ((o2.2.1 60 0 a1.toNatClampNeg) - 1) o2.2).bind fun o3 =>
        if ¬ (bI o3.1) = 0 then
          bif inB a1 8 then
            (fX7_kept (o3.2.1 59 0 a1.toNatClampNeg) a3 o3.2).bind fun o4 =>
            bif inB ((40 * a1) + a2) 320 then
              some (1, (o4.2.1, (upL o4.2.2 21 0 ((40 * a1) + a2).toNatClampNeg o4.1)))
            else none
          else none
        else
          (fX7_no a0 (-1002) o3.2).bind fun o5 =>
          some (o5.1, o5.2)
      else none
    else
      (fX7_noRow a0 a1 o2.2).bind fun o6 =>
      (fX7_no a0 o6.1 o6.2).bind fun o7 =>
      some (o7.1, o7.2)
  else
    (fX7_no a0 (-1002) o1.2).bind fun o8 =>
    some (o8.1, o8.2)
theorem fX7_set_ex : ∃ f : Nat → Int32 → Int32 → Int64 → MM → Option (Int32 × MM), f = fX7_set_b := ⟨_, rfl⟩
noncomputable def fX7_set : Nat → Int32 → Int32 → Int64 → MM → Option (Int32 × MM) := Classical.choose fX7_set_ex
theorem fX7_set_eq : fX7_set = fX7_set_b := Classical.choose_spec fX7_set_ex
noncomputable def fX7_copy_b229 (a0 : Nat) (a1 : Int32) (a2 : Int32) (a3 : Int32) (a4 : Int32) (a5 : Int32) (s : Int32) (m : MM) : Option (((Int32) ⊕ (Unit)) × MM) :=
  if a5 ≤ s then
    some (Sum.inr (), m)
  else
    bif inB (((40 * a1) + a3) + s) 320 then
      bif inB (((40 * a2) + a4) + s) 320 then
        some (Sum.inl (s + 1), (m.1, (upL m.2 21 0 (((40 * a2) + a4) + s).toNatClampNeg (m.2 21 0 (((40 * a1) + a3) + s).toNatClampNeg))))
      else none
    else none
noncomputable def fX7_copy_b183 (a0 : Nat) (a1 : Int32) (a2 : Int32) (a3 : Int32) (a4 : Int32) (a5 : Int32) (s : Int32) (m : MM) : Option (((Int32) ⊕ (Unit)) × MM) :=
  if s < 0 then
    some (Sum.inr (), m)
  else
    bif inB (((40 * a1) + a3) + s) 320 then
      bif inB (((40 * a2) + a4) + s) 320 then
        some (Sum.inl (s + (-1)), (m.1, (upL m.2 21 0 (((40 * a2) + a4) + s).toNatClampNeg (m.2 21 0 (((40 * a1) + a3) + s).toNatClampNeg))))
      else none
    else none
noncomputable def fX7_copy_j226 (a0 : Nat) (a1 : Int32) (a2 : Int32) (a3 : Int32) (a4 : Int32) (a5 : Int32) (m : MM) : Option (Int32 × MM) :=
  (loopF 1000 (fX7_copy_b229 a0 a1 a2 a3 a4 a5) 0 m).bind fun o12 =>
  some (a5, o12.2)
noncomputable def fX7_copy_j83 (a0 : Nat) (a1 : Int32) (a2 : Int32) (a3 : Int32) (a4 : Int32) (a5 : Int32) (m : MM) : Option (Int32 × MM) :=
  bif inB a1 8 then
    if (m.1 59 0 a1.toNatClampNeg) < 0 then
      (fX7_no a0 (-1004) m).bind fun o7 =>
      some (o7.1, o7.2)
    else
      bif inB a2 8 then
        if 0 ≤ (m.1 59 0 a2.toNatClampNeg) then
          if a5 < 0 then
            (fX7_no a0 (-1002) m).bind fun o8 =>
            some (o8.1, o8.2)
          else
            if a3 < 0 then
              (fX7_no a0 (-1002) m).bind fun o9 =>
              some (o9.1, o9.2)
            else
              if a4 < 0 then
                (fX7_no a0 (-1002) m).bind fun o10 =>
                some (o10.1, o10.2)
              else
                bif inB a1 8 then
                  if 0 < (lg_cmp (a3.toInt64 + a5.toInt64) (m.1 60 0 a1.toNatClampNeg).toInt64) then
                    (fX7_no a0 (-1002) m).bind fun o11 =>
                    some (o11.1, o11.2)
                  else
                    bif inB a2 8 then
                      if (lg_cmp (a4.toInt64 + a5.toInt64) (m.1 60 0 a2.toNatClampNeg).toInt64) ≤ 0 then
                        if ¬ a1 = a2 then
                          fX7_copy_j226 a0 a1 a2 a3 a4 a5 m
                        else
                          if a4 ≤ a3 then
                            fX7_copy_j226 a0 a1 a2 a3 a4 a5 m
                          else
                            (loopF 1000 (fX7_copy_b183 a0 a1 a2 a3 a4 a5) (a5 - 1) m).bind fun o13 =>
                            some (a5, o13.2)
                      else
                        (fX7_no a0 (-1002) m).bind fun o14 =>
                        some (o14.1, o14.2)
                    else none
                else none
        else
          (fX7_no a0 (-1004) m).bind fun o15 =>
          some (o15.1, o15.2)
      else none
  else none
noncomputable def fX7_copy_b (a0 : Nat) (a1 : Int32) (a2 : Int32) (a3 : Int32) (a4 : Int32) (a5 : Int32) (m : MM) : Option (Int32 × MM) :=
  (fX7_isShelf a1 m).bind fun o1 =>
  if (bI o1.1) = 0 then
    (fX7_no a0 (-1002) o1.2).bind fun o2 =>
    some (o2.1, o2.2)
  else
    (fX7_isShelf a2 o1.2).bind fun o3 =>
    if ¬ (bI o3.1) = 0 then
      bif inB a1 8 then
        if 10 ≤ (o3.2.1 59 0 a1.toNatClampNeg) then
          (fX7_no a0 (-1003) o3.2).bind fun o4 =>
          some (o4.1, o4.2)
        else
          bif inB a2 8 then
            if 10 ≤ (o3.2.1 59 0 a2.toNatClampNeg) then
              (fX7_no a0 (-1003) o3.2).bind fun o5 =>
              some (o5.1, o5.2)
            else
              (fX7_isRow a0 a1 o3.2).bind fun o6 =>
              if (bI o6.1) = 0 then
                fX7_copy_j83 a0 a1 a2 a3 a4 a5 o6.2
              else
                (fX7_isRow a0 a2 o6.2).bind fun o16 =>
                if (bI o16.1) = 0 then
                  fX7_copy_j83 a0 a1 a2 a3 a4 a5 o16.2
                else
                  bif inB a1 8 then
                    bif inB a2 8 then
                      if (o16.2.1 59 0 a1.toNatClampNeg) = (o16.2.1 59 0 a2.toNatClampNeg) then
                        fX7_copy_j83 a0 a1 a2 a3 a4 a5 o16.2
                      else
                        (fX7_no a0 (-1003) o16.2).bind fun o17 =>
                        some (o17.1, o17.2)
                    else none
                  else none
          else none
      else none
    else
      (fX7_no a0 (-1002) o3.2).bind fun o18 =>
      some (o18.1, o18.2)
theorem fX7_copy_ex : ∃ f : Nat → Int32 → Int32 → Int32 → Int32 → Int32 → MM → Option (Int32 × MM), f = fX7_copy_b := ⟨_, rfl⟩
noncomputable def fX7_copy : Nat → Int32 → Int32 → Int32 → Int32 → Int32 → MM → Option (Int32 × MM) := Classical.choose fX7_copy_ex
theorem fX7_copy_eq : fX7_copy = fX7_copy_b := Classical.choose_spec fX7_copy_ex
noncomputable def fX7_element_b (a0 : Nat) (a1 : Int32) (a2 : Int32) (m : MM) : Option (Int64 × MM) :=
  (fX7_isShelf a1 m).bind fun o1 =>
  if (bI o1.1) = 0 then
    some (0, o1.2)
  else
    (fX7_isRow a0 a1 o1.2).bind fun o2 =>
    if (bI o2.1) = 0 then
      some (0, o2.2)
    else
      bif inB a1 8 then
        (fX7_within a2 0 ((o2.2.1 60 0 a1.toNatClampNeg) - 1) o2.2).bind fun o3 =>
        if (bI o3.1) = 0 then
          some (0, o3.2)
        else
          bif inB ((40 * a1) + a2) 320 then
            some ((o3.2.2 21 0 ((40 * a1) + a2).toNatClampNeg), o3.2)
          else none
      else none
theorem fX7_element_ex : ∃ f : Nat → Int32 → Int32 → MM → Option (Int64 × MM), f = fX7_element_b := ⟨_, rfl⟩
noncomputable def fX7_element : Nat → Int32 → Int32 → MM → Option (Int64 × MM) := Classical.choose fX7_element_ex
theorem fX7_element_eq : fX7_element = fX7_element_b := Classical.choose_spec fX7_element_ex
noncomputable def fX7_holds_b (a0 : Nat) (a1 : Int32) (m : MM) : Option (Int32 × MM) :=
  (fX7_isShelf a1 m).bind fun o1 =>
  if (bI o1.1) = 0 then
    some ((-1), o1.2)
  else
    bif inB a1 8 then
      some ((o1.2.1 59 0 a1.toNatClampNeg), o1.2)
    else none
theorem fX7_holds_ex : ∃ f : Nat → Int32 → MM → Option (Int32 × MM), f = fX7_holds_b := ⟨_, rfl⟩
noncomputable def fX7_holds : Nat → Int32 → MM → Option (Int32 × MM) := Classical.choose fX7_holds_ex
theorem fX7_holds_eq : fX7_holds = fX7_holds_b := Classical.choose_spec fX7_holds_ex
noncomputable def fX7_show_b (a0 : Nat) (a1 : Int32) (a2 : Int32) (m : MM) : Option (Int32 × MM) :=
  (fX7_isShelf a1 m).bind fun o1 =>
  if (bI o1.1) = 0 then
    (fX7_no a0 (-1002) o1.2).bind fun o2 =>
    some (o2.1, o2.2)
  else
    if a2 = (-1) then
      if ¬ a2 = (-1) then
        bif inB a1 8 then
          some (1, ((upI o1.2.1 59 0 a1.toNatClampNeg (10 + a2)), o1.2.2))
        else none
      else
        bif inB a1 8 then
          some (1, ((upI o1.2.1 59 0 a1.toNatClampNeg (-1)), o1.2.2))
        else none
    else
      (fX7_isBottle a0 a2 o1.2).bind fun o3 =>
      if ¬ (bI o3.1) = 0 then
        if ¬ a2 = (-1) then
          bif inB a1 8 then
            some (1, ((upI o3.2.1 59 0 a1.toNatClampNeg (10 + a2)), o3.2.2))
          else none
        else
          bif inB a1 8 then
            some (1, ((upI o3.2.1 59 0 a1.toNatClampNeg (-1)), o3.2.2))
          else none
      else
        (fX7_no a0 (-1002) o3.2).bind fun o4 =>
        some (o4.1, o4.2)
theorem fX7_show_ex : ∃ f : Nat → Int32 → Int32 → MM → Option (Int32 × MM), f = fX7_show_b := ⟨_, rfl⟩
noncomputable def fX7_show : Nat → Int32 → Int32 → MM → Option (Int32 × MM) := Classical.choose fX7_show_ex
theorem fX7_show_eq : fX7_show = fX7_show_b := Classical.choose_spec fX7_show_ex
noncomputable def fX7_isUnder_b (a0 : Int32) (a1 : Int32) (m : MM) : Option (Bool × MM) :=
  if a1 = 0 then
    some (true, m)
  else
    if a0 = a1 then
      some (true, m)
    else
      if ¬ a0 = 3 then
        if ¬ a0 = 4 then
          some (false, m)
        else
          if ¬ a1 = 2 then
            some (false, m)
          else
            some (true, m)
      else
        if a1 = 1 then
          some (true, m)
        else
          if ¬ a0 = 4 then
            some (false, m)
          else
            if ¬ a1 = 2 then
              some (false, m)
            else
              some (true, m)
theorem fX7_isUnder_ex : ∃ f : Int32 → Int32 → MM → Option (Bool × MM), f = fX7_isUnder_b := ⟨_, rfl⟩
noncomputable def fX7_isUnder : Int32 → Int32 → MM → Option (Bool × MM) := Classical.choose fX7_isUnder_ex
theorem fX7_isUnder_eq : fX7_isUnder = fX7_isUnder_b := Classical.choose_spec fX7_isUnder_ex
noncomputable def fX7_drift_b (a0 : Nat) (a1 : Int32) (m : MM) : Option (Int32 × MM) :=
  bif inB a1 9 then
    bif inB (m.1 54 0 a1.toNatClampNeg) 30 then
      bif inB 0 2 then
        bif inB a1 9 then
          if (m.1 52 0 a1.toNatClampNeg) = 1 then
            some (((m.1 50 0 (m.1 54 0 a1.toNatClampNeg).toNatClampNeg) - 3), m)
          else
            if (m.1 52 0 a1.toNatClampNeg) = 2 then
              some ((((m.1 50 0 (m.1 54 0 a1.toNatClampNeg).toNatClampNeg) - 3) + (2 * ((m.1 51 0 (0 : Int32).toNatClampNeg) - 2))), m)
            else
              if (m.1 52 0 a1.toNatClampNeg) = 3 then
                bif inB 1 2 then
                  if ¬ ((m.1 51 0 (1 : Int32).toNatClampNeg) - (m.1 51 0 (1 : Int32).toNatClampNeg) / 2 * 2) = 0 then
                    some (0, m)
                  else
                    some (((m.1 50 0 (m.1 54 0 a1.toNatClampNeg).toNatClampNeg) - 3), m)
                else none
              else
                if (m.1 52 0 a1.toNatClampNeg) = 4 then
                  bif inB a1 9 then
                    some ((((((m.1 50 0 (m.1 54 0 a1.toNatClampNeg).toNatClampNeg) - 3) + (2 * ((m.1 51 0 (0 : Int32).toNatClampNeg) - 2))) + ((m.1 53 0 a1.toNatClampNeg) - (m.1 53 0 a1.toNatClampNeg) / 3 * 3)) - 1), m)
                  else none
                else
                  some ((((m.1 50 0 (m.1 54 0 a1.toNatClampNeg).toNatClampNeg) - 3) + ((m.1 51 0 (0 : Int32).toNatClampNeg) - 2)), m)
        else none
      else none
    else none
  else none
theorem fX7_drift_ex : ∃ f : Nat → Int32 → MM → Option (Int32 × MM), f = fX7_drift_b := ⟨_, rfl⟩
noncomputable def fX7_drift : Nat → Int32 → MM → Option (Int32 × MM) := Classical.choose fX7_drift_ex
theorem fX7_drift_eq : fX7_drift = fX7_drift_b := Classical.choose_spec fX7_drift_ex
noncomputable def fX7_says_b (a0 : Nat) (a1 : Int32) (a2 : Int32) (m : MM) : Option (Int32 × MM) :=
  (fX7_isShelf a1 m).bind fun o1 =>
  if (bI o1.1) = 0 then
    (fX7_no a0 (-1002) o1.2).bind fun o2 =>
    some (o2.1, o2.2)
  else
    (fX7_within a2 0 5 o1.2).bind fun o3 =>
    if ¬ (bI o3.1) = 0 then
      (fX7_isRow a0 a1 o3.2).bind fun o4 =>
      if (bI o4.1) = 0 then
        bif inB a1 8 then
          if 0 ≤ (o4.2.1 59 0 a1.toNatClampNeg) then
            bif inB a1 8 then
              bif inB ((o4.2.1 59 0 a1.toNatClampNeg) - 10) 9 then
                (fX7_isUnder (o4.2.1 52 0 ((o4.2.1 59 0 a1.toNatClampNeg) - 10).toNatClampNeg) a2 o4.2).bind fun o5 =>
                if ¬ (bI o5.1) = 0 then
                  if ¬ a2 = 0 then
                    (fX7_drift a0 ((o4.2.1 59 0 a1.toNatClampNeg) - 10) o5.2).bind fun o6 =>
                    some (o6.1, o6.2)
                  else
                    bif inB ((o4.2.1 59 0 a1.toNatClampNeg) - 10) 9 then
                      some ((o5.2.1 54 0 ((o4.2.1 59 0 a1.toNatClampNeg) - 10).toNatClampNeg), o5.2)
                    else none
                else
                  (fX7_no a0 (-1003) o5.2).bind fun o7 =>
                  some (o7.1, o7.2)
              else none
            else none
          else
            (fX7_no a0 (-1004) o4.2).bind fun o8 =>
            some (o8.1, o8.2)
        else none
      else
        (fX7_no a0 (-1003) o4.2).bind fun o9 =>
        some (o9.1, o9.2)
    else
      (fX7_no a0 (-1002) o3.2).bind fun o10 =>
      some (o10.1, o10.2)
theorem fX7_says_ex : ∃ f : Nat → Int32 → Int32 → MM → Option (Int32 × MM), f = fX7_says_b := ⟨_, rfl⟩
noncomputable def fX7_says : Nat → Int32 → Int32 → MM → Option (Int32 × MM) := Classical.choose fX7_says_ex
theorem fX7_says_eq : fX7_says = fX7_says_b := Classical.choose_spec fX7_says_ex
noncomputable def fX7_paves_b (a0 : Nat) (a1 : Int32) (m : MM) : Option (Int32 × MM) :=
  (fX7_within a1 (m.1 7 a0 0) 30 m).bind fun o1 =>
  if ¬ (bI o1.1) = 0 then
    some ((o1.2.1 7 a0 0), ((upI o1.2.1 7 a0 0 a1), o1.2.2))
  else
    (fX7_no a0 (-1002) o1.2).bind fun o2 =>
    some (o2.1, o2.2)
theorem fX7_paves_ex : ∃ f : Nat → Int32 → MM → Option (Int32 × MM), f = fX7_paves_b := ⟨_, rfl⟩
noncomputable def fX7_paves : Nat → Int32 → MM → Option (Int32 × MM) := Classical.choose fX7_paves_ex
theorem fX7_paves_eq : fX7_paves = fX7_paves_b := Classical.choose_spec fX7_paves_ex
noncomputable def fX7_newWalker_b (a0 : Nat) (a1 : Int32) (a2 : Int32) (a3 : Int32) (m : MM) : Option (Int32 × MM) :=
  bif inB (m.1 7 a0 10) 18 then
    bif inB (6 + ((upI m.1 57 0 (m.1 7 a0 10).toNatClampNeg a1) 7 a0 10)) 18 then
      bif inB (12 + ((upI (upI m.1 57 0 (m.1 7 a0 10).toNatClampNeg a1) 57 0 (6 + ((upI m.1 57 0 (m.1 7 a0 10).toNatClampNeg a1) 7 a0 10)).toNatClampNeg a2) 7 a0 10)) 18 then
        some (((upI (upI (upI m.1 57 0 (m.1 7 a0 10).toNatClampNeg a1) 57 0 (6 + ((upI m.1 57 0 (m.1 7 a0 10).toNatClampNeg a1) 7 a0 10)).toNatClampNeg a2) 57 0 (12 + ((upI (upI m.1 57 0 (m.1 7 a0 10).toNatClampNeg a1) 57 0 (6 + ((upI m.1 57 0 (m.1 7 a0 10).toNatClampNeg a1) 7 a0 10)).toNatClampNeg a2) 7 a0 10)).toNatClampNeg a3) 7 a0 10), ((upI (upI (upI (upI m.1 57 0 (m.1 7 a0 10).toNatClampNeg a1) 57 0 (6 + ((upI m.1 57 0 (m.1 7 a0 10).toNatClampNeg a1) 7 a0 10)).toNatClampNeg a2) 57 0 (12 + ((upI (upI m.1 57 0 (m.1 7 a0 10).toNatClampNeg a1) 57 0 (6 + ((upI m.1 57 0 (m.1 7 a0 10).toNatClampNeg a1) 7 a0 10)).toNatClampNeg a2) 7 a0 10)).toNatClampNeg a3) 7 a0 10 (((upI (upI (upI m.1 57 0 (m.1 7 a0 10).toNatClampNeg a1) 57 0 (6 + ((upI m.1 57 0 (m.1 7 a0 10).toNatClampNeg a1) 7 a0 10)).toNatClampNeg a2) 57 0 (12 + ((upI (upI m.1 57 0 (m.1 7 a0 10).toNatClampNeg a1) 57 0 (6 + ((upI m.1 57 0 (m.1 7 a0 10).toNatClampNeg a1) 7 a0 10)).toNatClampNeg a2) 7 a0 10)).toNatClampNeg a3) 7 a0 10) + 1)), m.2))
      else none
    else none
  else none
theorem fX7_newWalker_ex : ∃ f : Nat → Int32 → Int32 → Int32 → MM → Option (Int32 × MM), f = fX7_newWalker_b := ⟨_, rfl⟩
noncomputable def fX7_newWalker : Nat → Int32 → Int32 → Int32 → MM → Option (Int32 × MM) := Classical.choose fX7_newWalker_ex
theorem fX7_newWalker_eq : fX7_newWalker = fX7_newWalker_b := Classical.choose_spec fX7_newWalker_ex
noncomputable def fX7_walker_b (a0 : Nat) (a1 : Int32) (a2 : Int32) (a3 : Int32) (m : MM) : Option (Int32 × MM) :=
  (fX7_isCell a0 a1 m).bind fun o1 =>
  if (bI o1.1) = 0 then
    (fX7_no a0 (-1002) o1.2).bind fun o2 =>
    some (o2.1, o2.2)
  else
    (fX7_within a2 0 3 o1.2).bind fun o3 =>
    if (bI o3.1) = 0 then
      (fX7_no a0 (-1002) o3.2).bind fun o4 =>
      some (o4.1, o4.2)
    else
      (fX7_within a3 0 1 o3.2).bind fun o5 =>
      if ¬ (bI o5.1) = 0 then
        if ¬ (o5.2.1 7 a0 10) = 6 then
          (fX7_newWalker a0 a1 a2 a3 o5.2).bind fun o6 =>
          some (o6.1, o6.2)
        else
          (fX7_no a0 (-1006) o5.2).bind fun o7 =>
          some (o7.1, o7.2)
      else
        (fX7_no a0 (-1002) o5.2).bind fun o8 =>
        some (o8.1, o8.2)
theorem fX7_walker_ex : ∃ f : Nat → Int32 → Int32 → Int32 → MM → Option (Int32 × MM), f = fX7_walker_b := ⟨_, rfl⟩
noncomputable def fX7_walker : Nat → Int32 → Int32 → Int32 → MM → Option (Int32 × MM) := Classical.choose fX7_walker_ex
theorem fX7_walker_eq : fX7_walker = fX7_walker_b := Classical.choose_spec fX7_walker_ex
noncomputable def fX7_sends_j66 (a0 : Nat) (a1 : Int32) (a2 : Int32) (a3 : Int32) (m : MM) : Option (Int32 × MM) :=
  bif inB ((6 * a2) + a1) 18 then
    bif inB ((6 * a2) + a1) 18 then
      some ((m.1 57 0 ((6 * a2) + a1).toNatClampNeg), ((upI m.1 57 0 ((6 * a2) + a1).toNatClampNeg a3), m.2))
    else none
  else none
noncomputable def fX7_sends_j52 (a0 : Nat) (a1 : Int32) (a2 : Int32) (a3 : Int32) (z0 : Int32) (z1 : Int32) (z2 : Int32) (m : MM) : Option (Int32 × MM) :=
  (fX7_within z0 z1 z2 m).bind fun o4 =>
  if ¬ (bI o4.1) = 0 then
    fX7_sends_j66 a0 a1 a2 a3 o4.2
  else
    (fX7_no a0 (-1002) o4.2).bind fun o5 =>
    some (o5.1, o5.2)
noncomputable def fX7_sends_b (a0 : Nat) (a1 : Int32) (a2 : Int32) (a3 : Int32) (m : MM) : Option (Int32 × MM) :=
  (fX7_isWalker a0 a1 m).bind fun o1 =>
  if (bI o1.1) = 0 then
    (fX7_no a0 (-1002) o1.2).bind fun o2 =>
    some (o2.1, o2.2)
  else
    (fX7_within a2 0 2 o1.2).bind fun o3 =>
    if ¬ (bI o3.1) = 0 then
      if ¬ a2 = 0 then
        if ¬ a2 = 1 then
          fX7_sends_j52 a0 a1 a2 a3 a3 0 1 o3.2
        else
          fX7_sends_j52 a0 a1 a2 a3 a3 0 3 o3.2
      else
        (fX7_isCell a0 a3 o3.2).bind fun o6 =>
        if ¬ (bI o6.1) = 0 then
          fX7_sends_j66 a0 a1 a2 a3 o6.2
        else
          (fX7_no a0 (-1002) o6.2).bind fun o7 =>
          some (o7.1, o7.2)
    else
      (fX7_no a0 (-1002) o3.2).bind fun o8 =>
      some (o8.1, o8.2)
theorem fX7_sends_ex : ∃ f : Nat → Int32 → Int32 → Int32 → MM → Option (Int32 × MM), f = fX7_sends_b := ⟨_, rfl⟩
noncomputable def fX7_sends : Nat → Int32 → Int32 → Int32 → MM → Option (Int32 × MM) := Classical.choose fX7_sends_ex
theorem fX7_sends_eq : fX7_sends = fX7_sends_b := Classical.choose_spec fX7_sends_ex
noncomputable def fX7_current_b (a0 : Nat) (a1 : Int32) (a2 : Int32) (m : MM) : Option (Int32 × MM) :=
  (fX7_isCell a0 a1 m).bind fun o1 =>
  if (bI o1.1) = 0 then
    (fX7_no a0 (-1002) o1.2).bind fun o2 =>
    some (o2.1, o2.2)
  else
    (fX7_within a2 0 6 o1.2).bind fun o3 =>
    if ¬ (bI o3.1) = 0 then
      bif inB a1 30 then
        bif inB a1 30 then
          some ((o3.2.1 50 0 a1.toNatClampNeg), ((upI o3.2.1 50 0 a1.toNatClampNeg a2), o3.2.2))
        else none
      else none
    else
      (fX7_no a0 (-1002) o3.2).bind fun o4 =>
      some (o4.1, o4.2)
theorem fX7_current_ex : ∃ f : Nat → Int32 → Int32 → MM → Option (Int32 × MM), f = fX7_current_b := ⟨_, rfl⟩
noncomputable def fX7_current : Nat → Int32 → Int32 → MM → Option (Int32 × MM) := Classical.choose fX7_current_ex
theorem fX7_current_eq : fX7_current = fX7_current_b := Classical.choose_spec fX7_current_ex
noncomputable def fX7_tell_j22 (a0 : Nat) (a1 : Int32) (a2 : Int32) (z0 : Int32) (z1 : Int32) (z2 : Int32) (m : MM) : Option (Int32 × MM) :=
  (fX7_within z0 z1 z2 m).bind fun o3 =>
  if ¬ (bI o3.1) = 0 then
    bif inB a1 2 then
      bif inB a1 2 then
        some ((o3.2.1 51 0 a1.toNatClampNeg), ((upI o3.2.1 51 0 a1.toNatClampNeg a2), o3.2.2))
      else none
    else none
  else
    (fX7_no a0 (-1002) o3.2).bind fun o4 =>
    some (o4.1, o4.2)
noncomputable def fX7_tell_b (a0 : Nat) (a1 : Int32) (a2 : Int32) (m : MM) : Option (Int32 × MM) :=
  (fX7_within a1 0 1 m).bind fun o1 =>
  if (bI o1.1) = 0 then
    (fX7_no a0 (-1002) o1.2).bind fun o2 =>
    some (o2.1, o2.2)
  else
    if ¬ a1 = 0 then
      fX7_tell_j22 a0 a1 a2 a2 0 999 o1.2
    else
      fX7_tell_j22 a0 a1 a2 a2 0 4 o1.2
theorem fX7_tell_ex : ∃ f : Nat → Int32 → Int32 → MM → Option (Int32 × MM), f = fX7_tell_b := ⟨_, rfl⟩
noncomputable def fX7_tell : Nat → Int32 → Int32 → MM → Option (Int32 × MM) := Classical.choose fX7_tell_ex
theorem fX7_tell_eq : fX7_tell = fX7_tell_b := Classical.choose_spec fX7_tell_ex
noncomputable def fX7_becomes_b (a0 : Nat) (a1 : Int32) (a2 : Int32) (a3 : Int32) (a4 : Int32) (a5 : Int32) (m : MM) : Option (Unit × MM) :=
  bif inB a1 9 then
    bif inB a1 9 then
      bif inB a1 9 then
        bif inB a1 9 then
          bif inB a1 9 then
            some ((), ((upI (upI (upI (upI (upI m.1 52 0 a1.toNatClampNeg a2) 53 0 a1.toNatClampNeg a3) 54 0 a1.toNatClampNeg a4) 55 0 a1.toNatClampNeg a5) 56 0 a1.toNatClampNeg 0), m.2))
          else none
        else none
      else none
    else none
  else none
theorem fX7_becomes_ex : ∃ f : Nat → Int32 → Int32 → Int32 → Int32 → Int32 → MM → Option (Unit × MM), f = fX7_becomes_b := ⟨_, rfl⟩
noncomputable def fX7_becomes : Nat → Int32 → Int32 → Int32 → Int32 → Int32 → MM → Option (Unit × MM) := Classical.choose fX7_becomes_ex
theorem fX7_becomes_eq : fX7_becomes = fX7_becomes_b := Classical.choose_spec fX7_becomes_ex
noncomputable def fX7_thrown_b (a0 : Nat) (a1 : Int32) (a2 : Int32) (a3 : Int32) (a4 : Int32) (m : MM) : Option (Int32 × MM) :=
  (fX7_isSuch a1 a2 m).bind fun o1 =>
  if (bI o1.1) = 0 then
    (fX7_no a0 (-1002) o1.2).bind fun o2 =>
    some (o2.1, o2.2)
  else
    (fX7_isCell a0 a3 o1.2).bind fun o3 =>
    if (bI o3.1) = 0 then
      (fX7_no a0 (-1002) o3.2).bind fun o4 =>
      some (o4.1, o4.2)
    else
      (fX7_isWalker a0 a4 o3.2).bind fun o5 =>
      if ¬ (bI o5.1) = 0 then
        if ¬ (o5.2.1 7 a0 4) = 8 then
          (fX7_becomes a0 (o5.2.1 7 a0 4) a1 a2 a3 a4 o5.2).bind fun o6 =>
          some ((o6.2.1 7 a0 4), ((upI o6.2.1 7 a0 4 ((o6.2.1 7 a0 4) + 1)), o6.2.2))
        else
          (fX7_no a0 (-1006) o5.2).bind fun o7 =>
          some (o7.1, o7.2)
      else
        (fX7_no a0 (-1002) o5.2).bind fun o8 =>
        some (o8.1, o8.2)
theorem fX7_thrown_ex : ∃ f : Nat → Int32 → Int32 → Int32 → Int32 → MM → Option (Int32 × MM), f = fX7_thrown_b := ⟨_, rfl⟩
noncomputable def fX7_thrown : Nat → Int32 → Int32 → Int32 → Int32 → MM → Option (Int32 × MM) := Classical.choose fX7_thrown_ex
theorem fX7_thrown_eq : fX7_thrown = fX7_thrown_b := Classical.choose_spec fX7_thrown_ex
noncomputable def fX7_feed_b (a0 : Nat) (a1 : Int32) (m : MM) : Option (Int32 × MM) :=
  (fX7_within a1 0 255 m).bind fun o1 =>
  if ¬ (bI o1.1) = 0 then
    if ¬ (o1.2.1 7 a0 13) = 250 then
      bif inB (o1.2.1 7 a0 13) 250 then
        some (((upI (upI o1.2.1 7 a0 13 ((o1.2.1 7 a0 13) + 1)) 58 0 (o1.2.1 7 a0 13).toNatClampNeg a1) 7 a0 13), ((upI (upI o1.2.1 7 a0 13 ((o1.2.1 7 a0 13) + 1)) 58 0 (o1.2.1 7 a0 13).toNatClampNeg a1), o1.2.2))
      else none
    else
      (fX7_no a0 (-1006) o1.2).bind fun o2 =>
      some (o2.1, o2.2)
  else
    (fX7_no a0 (-1002) o1.2).bind fun o3 =>
    some (o3.1, o3.2)
theorem fX7_feed_ex : ∃ f : Nat → Int32 → MM → Option (Int32 × MM), f = fX7_feed_b := ⟨_, rfl⟩
noncomputable def fX7_feed : Nat → Int32 → MM → Option (Int32 × MM) := Classical.choose fX7_feed_ex
theorem fX7_feed_eq : fX7_feed = fX7_feed_b := Classical.choose_spec fX7_feed_ex
noncomputable def fX7_wipe_b (a0 : Nat) (m : MM) : Option (Int32 × MM) :=
  some ((m.1 7 a0 13), ((upI m.1 7 a0 13 0), m.2))
theorem fX7_wipe_ex : ∃ f : Nat → MM → Option (Int32 × MM), f = fX7_wipe_b := ⟨_, rfl⟩
noncomputable def fX7_wipe : Nat → MM → Option (Int32 × MM) := Classical.choose fX7_wipe_ex
theorem fX7_wipe_eq : fX7_wipe = fX7_wipe_b := Classical.choose_spec fX7_wipe_ex
noncomputable def fX7_isLetter_b (a0 : Int32) (m : MM) : Option (Bool × MM) :=
  if a0 < 97 then
    some (false, m)
  else
    if 122 < a0 then
      some (false, m)
    else
      some (true, m)
theorem fX7_isLetter_ex : ∃ f : Int32 → MM → Option (Bool × MM), f = fX7_isLetter_b := ⟨_, rfl⟩
noncomputable def fX7_isLetter : Int32 → MM → Option (Bool × MM) := Classical.choose fX7_isLetter_ex
theorem fX7_isLetter_eq : fX7_isLetter = fX7_isLetter_b := Classical.choose_spec fX7_isLetter_ex
noncomputable def fX7_isDigit_b (a0 : Int32) (m : MM) : Option (Bool × MM) :=
  if a0 < 48 then
    some (false, m)
  else
    if 57 < a0 then
      some (false, m)
    else
      some (true, m)
theorem fX7_isDigit_ex : ∃ f : Int32 → MM → Option (Bool × MM), f = fX7_isDigit_b := ⟨_, rfl⟩
noncomputable def fX7_isDigit : Int32 → MM → Option (Bool × MM) := Classical.choose fX7_isDigit_ex
theorem fX7_isDigit_eq : fX7_isDigit = fX7_isDigit_b := Classical.choose_spec fX7_isDigit_ex
noncomputable def fX7_next_b8 (a0 : Nat) (s : Unit) (m : MM) : Option (((Unit) ⊕ (Unit)) × MM) :=
  if (m.1 7 a0 13) ≤ (m.1 7 a0 15) then
    some (Sum.inr (), m)
  else
    bif inB (m.1 7 a0 15) 250 then
      if ¬ (m.1 58 0 (m.1 7 a0 15).toNatClampNeg) = 32 then
        some (Sum.inr (), m)
      else
        some (Sum.inl (), ((upI m.1 7 a0 15 ((m.1 7 a0 15) + 1)), m.2))
    else none
noncomputable def fX7_next_b159 (a0 : Nat) (s : Unit) (m : MM) : Option (((Unit) ⊕ (Unit)) × MM) :=
  if (m.1 7 a0 13) ≤ (m.1 7 a0 16) then
    some (Sum.inr (), m)
  else
    bif inB (m.1 7 a0 16) 250 then
      (fX7_isDigit (m.1 58 0 (m.1 7 a0 16).toNatClampNeg) m).bind fun o4 =>
      if (bI o4.1) = 0 then
        some (Sum.inr (), o4.2)
      else
        if 3 ≤ ((o4.2.1 7 a0 16) - (o4.2.1 7 a0 15)) then
          some (Sum.inl (), ((upI o4.2.1 7 a0 16 ((o4.2.1 7 a0 16) + 1)), o4.2.2))
        else
          bif inB (o4.2.1 7 a0 16) 250 then
            some (Sum.inl (), ((upI (upI o4.2.1 7 a0 18 (((10 * (o4.2.1 7 a0 18)) + (o4.2.1 58 0 (o4.2.1 7 a0 16).toNatClampNeg)) - 48)) 7 a0 16 (((upI o4.2.1 7 a0 18 (((10 * (o4.2.1 7 a0 18)) + (o4.2.1 58 0 (o4.2.1 7 a0 16).toNatClampNeg)) - 48)) 7 a0 16) + 1)), o4.2.2))
          else none
    else none
noncomputable def fX7_next_b96 (a0 : Nat) (s : Unit) (m : MM) : Option (((Unit) ⊕ (Unit)) × MM) :=
  if (m.1 7 a0 13) ≤ (m.1 7 a0 16) then
    some (Sum.inr (), m)
  else
    bif inB (m.1 7 a0 16) 250 then
      (fX7_isLetter (m.1 58 0 (m.1 7 a0 16).toNatClampNeg) m).bind fun o6 =>
      if (bI o6.1) = 0 then
        some (Sum.inr (), o6.2)
      else
        some (Sum.inl (), ((upI o6.2.1 7 a0 16 ((o6.2.1 7 a0 16) + 1)), o6.2.2))
    else none
noncomputable def fX7_next_j46 (a0 : Nat) (m : MM) : Option (Unit × MM) :=
  if ¬ ((upI m.1 7 a0 16 (m.1 7 a0 15)) 7 a0 15) = ((upI m.1 7 a0 16 (m.1 7 a0 15)) 7 a0 13) then
    bif inB ((upI m.1 7 a0 16 (m.1 7 a0 15)) 7 a0 16) 250 then
      (fX7_isLetter ((upI (upI m.1 7 a0 16 (m.1 7 a0 15)) 7 a0 16 (((upI m.1 7 a0 16 (m.1 7 a0 15)) 7 a0 16) + 1)) 58 0 ((upI m.1 7 a0 16 (m.1 7 a0 15)) 7 a0 16).toNatClampNeg) ((upI (upI m.1 7 a0 16 (m.1 7 a0 15)) 7 a0 16 (((upI m.1 7 a0 16 (m.1 7 a0 15)) 7 a0 16) + 1)), m.2)).bind fun o2 =>
      if (bI o2.1) = 0 then
        (fX7_isDigit ((upI (upI m.1 7 a0 16 (m.1 7 a0 15)) 7 a0 16 (((upI m.1 7 a0 16 (m.1 7 a0 15)) 7 a0 16) + 1)) 58 0 ((upI m.1 7 a0 16 (m.1 7 a0 15)) 7 a0 16).toNatClampNeg) o2.2).bind fun o3 =>
        if (bI o3.1) = 0 then
          if ¬ ((upI (upI m.1 7 a0 16 (m.1 7 a0 15)) 7 a0 16 (((upI m.1 7 a0 16 (m.1 7 a0 15)) 7 a0 16) + 1)) 58 0 ((upI m.1 7 a0 16 (m.1 7 a0 15)) 7 a0 16).toNatClampNeg) = 59 then
            some ((), ((upI o3.2.1 7 a0 17 120), o3.2.2))
          else
            some ((), ((upI o3.2.1 7 a0 17 59), o3.2.2))
        else
          (loopF 1000 (fX7_next_b159 a0) () ((upI o3.2.1 7 a0 18 (((upI (upI m.1 7 a0 16 (m.1 7 a0 15)) 7 a0 16 (((upI m.1 7 a0 16 (m.1 7 a0 15)) 7 a0 16) + 1)) 58 0 ((upI m.1 7 a0 16 (m.1 7 a0 15)) 7 a0 16).toNatClampNeg) - 48)), o3.2.2)).bind fun o5 =>
          if ((o5.2.1 7 a0 16) - (o5.2.1 7 a0 15)) ≤ 3 then
            some ((), ((upI o5.2.1 7 a0 17 48), o5.2.2))
          else
            some ((), ((upI o5.2.1 7 a0 17 120), o5.2.2))
      else
        (loopF 1000 (fX7_next_b96 a0) () o2.2).bind fun o7 =>
        some ((), ((upI o7.2.1 7 a0 17 119), o7.2.2))
    else none
  else
    some ((), ((upI (upI m.1 7 a0 16 (m.1 7 a0 15)) 7 a0 17 101), m.2))
noncomputable def fX7_next_b (a0 : Nat) (m : MM) : Option (Unit × MM) :=
  (loopF 1000 (fX7_next_b8 a0) () ((upI m.1 7 a0 15 (m.1 7 a0 16)), m.2)).bind fun o1 =>
  fX7_next_j46 a0 o1.2
theorem fX7_next_ex : ∃ f : Nat → MM → Option (Unit × MM), f = fX7_next_b := ⟨_, rfl⟩
noncomputable def fX7_next : Nat → MM → Option (Unit × MM) := Classical.choose fX7_next_ex
theorem fX7_next_eq : fX7_next = fX7_next_b := Classical.choose_spec fX7_next_ex
noncomputable def fX7_isWord_b29 (a0 : Nat) (a1 : Nat) (s : Int32) (m : MM) : Option (((Int32) ⊕ ((Unit) ⊕ (Unit))) × MM) :=
  (fJ0_length_8abf5 a1 m).bind fun o2 =>
  if o2.1 ≤ s then
    some (Sum.inr (Sum.inl ()), o2.2)
  else
    bif inB ((o2.2.1 7 a0 15) + s) 250 then
      (fJ0_charAt_5068e a1 s o2.2).bind fun o3 =>
      if (o2.2.1 58 0 ((o2.2.1 7 a0 15) + s).toNatClampNeg) = o3.1 then
        some (Sum.inl (s + 1), o3.2)
      else
        some (Sum.inr (Sum.inr ()), o3.2)
    else none
noncomputable def fX7_isWord_b (a0 : Nat) (a1 : Nat) (m : MM) : Option (Bool × MM) :=
  if ¬ (m.1 7 a0 17) = 119 then
    some (false, m)
  else
    (fJ0_length_8abf5 a1 m).bind fun o1 =>
    if ((m.1 7 a0 16) - (m.1 7 a0 15)) = o1.1 then
      (loopF 1000 (fX7_isWord_b29 a0 a1) 0 o1.2).bind fun o4 => match o4.1 with
      | Sum.inl x5 =>
        some (true, o4.2)
      | Sum.inr x6 =>
        some (false, o4.2)
    else
      some (false, o1.2)
theorem fX7_isWord_ex : ∃ f : Nat → Nat → MM → Option (Bool × MM), f = fX7_isWord_b := ⟨_, rfl⟩
noncomputable def fX7_isWord : Nat → Nat → MM → Option (Bool × MM) := Classical.choose fX7_isWord_ex
theorem fX7_isWord_eq : fX7_isWord = fX7_isWord_b := Classical.choose_spec fX7_isWord_ex
noncomputable def fX7_number_b (a0 : Nat) (a1 : Int32) (a2 : Int32) (m : MM) : Option (Int32 × MM) :=
  (fX7_next a0 m).bind fun o1 =>
  if ¬ (o1.2.1 7 a0 17) = 48 then
    some ((-1), o1.2)
  else
    (fX7_within (o1.2.1 7 a0 18) a1 a2 o1.2).bind fun o2 =>
    if (bI o2.1) = 0 then
      some ((-1), o2.2)
    else
      some ((o2.2.1 7 a0 18), o2.2)
theorem fX7_number_ex : ∃ f : Nat → Int32 → Int32 → MM → Option (Int32 × MM), f = fX7_number_b := ⟨_, rfl⟩
noncomputable def fX7_number : Nat → Int32 → Int32 → MM → Option (Int32 × MM) := Classical.choose fX7_number_ex
theorem fX7_number_eq : fX7_number = fX7_number_b := Classical.choose_spec fX7_number_ex
noncomputable def fX7_cellTold_b (a0 : Nat) (m : MM) : Option (Int32 × MM) :=
  (fX7_number a0 0 ((m.1 7 a0 0) - 1) m).bind fun o1 =>
  some (o1.1, o1.2)
theorem fX7_cellTold_ex : ∃ f : Nat → MM → Option (Int32 × MM), f = fX7_cellTold_b := ⟨_, rfl⟩
noncomputable def fX7_cellTold : Nat → MM → Option (Int32 × MM) := Classical.choose fX7_cellTold_ex
theorem fX7_cellTold_eq : fX7_cellTold = fX7_cellTold_b := Classical.choose_spec fX7_cellTold_ex
noncomputable def fX7_comesOne_j31 (a0 : Nat) (a1 : Int32) (z0 : Int32) (m : MM) : Option (Bool × MM) :=
  if ¬ z0 = (-1) then
    (fX7_number a0 0 1 m).bind fun o3 =>
    if ¬ o3.1 = (-1) then
      (fX7_newWalker a0 a1 z0 o3.1 o3.2).bind fun o4 =>
      some (true, o4.2)
    else
      some (false, o3.2)
  else
    some (false, m)
noncomputable def fX7_comesOne_b (a0 : Nat) (m : MM) : Option (Bool × MM) :=
  if ¬ (m.1 7 a0 10) = 6 then
    (fX7_cellTold a0 m).bind fun o1 =>
    if ¬ o1.1 = (-1) then
      (fX7_number a0 0 3 o1.2).bind fun o2 =>
      fX7_comesOne_j31 a0 o1.1 o2.1 o2.2
    else
      fX7_comesOne_j31 a0 o1.1 (-1) o1.2
  else
    some (false, m)
theorem fX7_comesOne_ex : ∃ f : Nat → MM → Option (Bool × MM), f = fX7_comesOne_b := ⟨_, rfl⟩
noncomputable def fX7_comesOne : Nat → MM → Option (Bool × MM) := Classical.choose fX7_comesOne_ex
theorem fX7_comesOne_eq : fX7_comesOne = fX7_comesOne_b := Classical.choose_spec fX7_comesOne_ex
noncomputable def fX7_floats_j69 (a0 : Nat) (a1 : Int32) (a2 : Int32) (a3 : Int32) (z0 : Int32) (m : MM) : Option (Bool × MM) :=
  if ¬ z0 = (-1) then
    (fX7_becomes a0 (m.1 7 a0 4) a1 a2 a3 z0 ((upI m.1 7 a0 4 ((m.1 7 a0 4) + 1)), m.2)).bind fun o5 =>
    some (true, o5.2)
  else
    some (false, m)
noncomputable def fX7_floats_j48 (a0 : Nat) (a1 : Int32) (a2 : Int32) (z0 : Int32) (m : MM) : Option (Bool × MM) :=
  if ¬ z0 = (-1) then
    (fX7_number a0 0 ((m.1 7 a0 10) - 1) m).bind fun o4 =>
    fX7_floats_j69 a0 a1 a2 z0 o4.1 o4.2
  else
    fX7_floats_j69 a0 a1 a2 z0 (-1) m
noncomputable def fX7_floats_j34 (a0 : Nat) (a1 : Int32) (z0 : Int32) (m : MM) : Option (Bool × MM) :=
  if ¬ z0 = (-1) then
    (fX7_cellTold a0 m).bind fun o3 =>
    fX7_floats_j48 a0 a1 z0 o3.1 o3.2
  else
    fX7_floats_j48 a0 a1 z0 (-1) m
noncomputable def fX7_floats_b (a0 : Nat) (m : MM) : Option (Bool × MM) :=
  if ¬ (m.1 7 a0 4) = 8 then
    (fX7_number a0 0 5 m).bind fun o1 =>
    if ¬ o1.1 = (-1) then
      (fX7_number a0 0 9 o1.2).bind fun o2 =>
      fX7_floats_j34 a0 o1.1 o2.1 o2.2
    else
      fX7_floats_j34 a0 o1.1 (-1) o1.2
  else
    some (false, m)
theorem fX7_floats_ex : ∃ f : Nat → MM → Option (Bool × MM), f = fX7_floats_b := ⟨_, rfl⟩
noncomputable def fX7_floats : Nat → MM → Option (Bool × MM) := Classical.choose fX7_floats_ex
theorem fX7_floats_eq : fX7_floats = fX7_floats_b := Classical.choose_spec fX7_floats_ex
noncomputable def fX7_statement_j136 (a0 : Nat) (z0 : Int32) (m : MM) : Option (Bool × MM) :=
  if ¬ z0 = (-1) then
    if ¬ z0 = 0 then
      (fX7_number a0 0 999 m).bind fun o7 =>
      if ¬ o7.1 = (-1) then
        bif inB z0 2 then
          some (true, ((upI o7.2.1 51 0 z0.toNatClampNeg o7.1), o7.2.2))
        else none
      else
        some (false, o7.2)
    else
      (fX7_number a0 0 4 m).bind fun o8 =>
      if ¬ o8.1 = (-1) then
        bif inB z0 2 then
          some (true, ((upI o8.2.1 51 0 z0.toNatClampNeg o8.1), o8.2.2))
        else none
      else
        some (false, o8.2)
  else
    some (false, m)
noncomputable def fX7_statement_b (a0 : Nat) (m : MM) : Option (Bool × MM) :=
  (fX7_isWord a0 6 m).bind fun o1 =>
  if (bI o1.1) = 0 then
    (fX7_isWord a0 7 o1.2).bind fun o2 =>
    if (bI o2.1) = 0 then
      (fX7_isWord a0 8 o2.2).bind fun o3 =>
      if (bI o3.1) = 0 then
        (fX7_isWord a0 9 o3.2).bind fun o4 =>
        if (bI o4.1) = 0 then
          (fX7_isWord a0 10 o4.2).bind fun o5 =>
          if (bI o5.1) = 0 then
            (fX7_isWord a0 11 o5.2).bind fun o6 =>
            if (bI o6.1) = 0 then
              fX7_statement_j136 a0 (-1) o6.2
            else
              fX7_statement_j136 a0 1 o6.2
          else
            fX7_statement_j136 a0 0 o5.2
        else
          (fX7_cellTold a0 o4.2).bind fun o9 =>
          if ¬ o9.1 = (-1) then
            (fX7_number a0 0 6 o9.2).bind fun o10 =>
            if ¬ o10.1 = (-1) then
              bif inB o9.1 30 then
                some (true, ((upI o10.2.1 50 0 o9.1.toNatClampNeg o10.1), o10.2.2))
              else none
            else
              some (false, o10.2)
          else
            some (false, o9.2)
      else
        (fX7_number a0 (o3.2.1 7 a0 0) 30 o3.2).bind fun o11 =>
        if ¬ o11.1 = (-1) then
          some (true, ((upI o11.2.1 7 a0 0 o11.1), o11.2.2))
        else
          some (false, o11.2)
    else
      (fX7_floats a0 o2.2).bind fun o12 =>
      some (o12.1, o12.2)
  else
    (fX7_comesOne a0 o1.2).bind fun o13 =>
    some (o13.1, o13.2)
theorem fX7_statement_ex : ∃ f : Nat → MM → Option (Bool × MM), f = fX7_statement_b := ⟨_, rfl⟩
noncomputable def fX7_statement : Nat → MM → Option (Bool × MM) := Classical.choose fX7_statement_ex
theorem fX7_statement_eq : fX7_statement = fX7_statement_b := Classical.choose_spec fX7_statement_ex
noncomputable def fX7_again_b2 (a0 : Nat) (a1 : Nat) (s : Int32) (m : MM) : Option (((Int32) ⊕ (Unit)) × MM) :=
  if 30 ≤ s then
    some (Sum.inr (), m)
  else
    bif inB s 102 then
      bif inB s 30 then
        some (Sum.inl (s + 1), ((upI m.1 50 0 s.toNatClampNeg (m.1 62 a1 s.toNatClampNeg)), m.2))
      else none
    else none
noncomputable def fX7_again_b25 (a0 : Nat) (a1 : Nat) (s : Int32) (m : MM) : Option (((Int32) ⊕ (Unit)) × MM) :=
  if 9 ≤ s then
    some (Sum.inr (), m)
  else
    bif inB (30 + s) 102 then
      bif inB s 9 then
        bif inB (39 + s) 102 then
          bif inB s 9 then
            bif inB (48 + s) 102 then
              bif inB s 9 then
                bif inB (57 + s) 102 then
                  bif inB s 9 then
                    bif inB (66 + s) 102 then
                      bif inB s 9 then
                        some (Sum.inl (s + 1), ((upI (upI (upI (upI (upI m.1 52 0 s.toNatClampNeg (m.1 62 a1 (30 + s).toNatClampNeg)) 53 0 s.toNatClampNeg ((upI m.1 52 0 s.toNatClampNeg (m.1 62 a1 (30 + s).toNatClampNeg)) 62 a1 (39 + s).toNatClampNeg)) 54 0 s.toNatClampNeg ((upI (upI m.1 52 0 s.toNatClampNeg (m.1 62 a1 (30 + s).toNatClampNeg)) 53 0 s.toNatClampNeg ((upI m.1 52 0 s.toNatClampNeg (m.1 62 a1 (30 + s).toNatClampNeg)) 62 a1 (39 + s).toNatClampNeg)) 62 a1 (48 + s).toNatClampNeg)) 55 0 s.toNatClampNeg ((upI (upI (upI m.1 52 0 s.toNatClampNeg (m.1 62 a1 (30 + s).toNatClampNeg)) 53 0 s.toNatClampNeg ((upI m.1 52 0 s.toNatClampNeg (m.1 62 a1 (30 + s).toNatClampNeg)) 62 a1 (39 + s).toNatClampNeg)) 54 0 s.toNatClampNeg ((upI (upI m.1 52 0 s.toNatClampNeg (m.1 62 a1 (30 + s).toNatClampNeg)) 53 0 s.toNatClampNeg ((upI m.1 52 0 s.toNatClampNeg (m.1 62 a1 (30 + s).toNatClampNeg)) 62 a1 (39 + s).toNatClampNeg)) 62 a1 (48 + s).toNatClampNeg)) 62 a1 (57 + s).toNatClampNeg)) 56 0 s.toNatClampNeg ((upI (upI (upI (upI m.1 52 0 s.toNatClampNeg (m.1 62 a1 (30 + s).toNatClampNeg)) 53 0 s.toNatClampNeg ((upI m.1 52 0 s.toNatClampNeg (m.1 62 a1 (30 + s).toNatClampNeg)) 62 a1 (39 + s).toNatClampNeg)) 54 0 s.toNatClampNeg ((upI (upI m.1 52 0 s.toNatClampNeg (m.1 62 a1 (30 + s).toNatClampNeg)) 53 0 s.toNatClampNeg ((upI m.1 52 0 s.toNatClampNeg (m.1 62 a1 (30 + s).toNatClampNeg)) 62 a1 (39 + s).toNatClampNeg)) 62 a1 (48 + s).toNatClampNeg)) 55 0 s.toNatClampNeg ((upI (upI (upI m.1 52 0 s.toNatClampNeg (m.1 62 a1 (30 + s).toNatClampNeg)) 53 0 s.toNatClampNeg ((upI m.1 52 0 s.toNatClampNeg (m.1 62 a1 (30 + s).toNatClampNeg)) 62 a1 (39 + s).toNatClampNeg)) 54 0 s.toNatClampNeg ((upI (upI m.1 52 0 s.toNatClampNeg (m.1 62 a1 (30 + s).toNatClampNeg)) 53 0 s.toNatClampNeg ((upI m.1 52 0 s.toNatClampNeg (m.1 62 a1 (30 + s).toNatClampNeg)) 62 a1 (39 + s).toNatClampNeg)) 62 a1 (48 + s).toNatClampNeg)) 62 a1 (57 + s).toNatClampNeg)) 62 a1 (66 + s).toNatClampNeg)), m.2))
                      else none
                    else none
                  else none
                else none
              else none
            else none
          else none
        else none
      else none
    else none
noncomputable def fX7_again_b99 (a0 : Nat) (a1 : Nat) (s : Int32) (m : MM) : Option (((Int32) ⊕ (Unit)) × MM) :=
  if 18 ≤ s then
    some (Sum.inr (), m)
  else
    bif inB (75 + s) 102 then
      bif inB s 18 then
        some (Sum.inl (s + 1), ((upI m.1 57 0 s.toNatClampNeg (m.1 62 a1 (75 + s).toNatClampNeg)), m.2))
      else none
    else none
noncomputable def fX7_again_b (a0 : Nat) (a1 : Nat) (m : MM) : Option (Unit × MM) :=
  (loopF 1000 (fX7_again_b2 a0 a1) 0 m).bind fun o1 =>
  (loopF 1000 (fX7_again_b25 a0 a1) 0 o1.2).bind fun o2 =>
  (loopF 1000 (fX7_again_b99 a0 a1) 0 o2.2).bind fun o3 =>
  bif inB 93 102 then
    bif inB 94 102 then
      bif inB 0 2 then
        bif inB 95 102 then
          bif inB 1 2 then
            bif inB 96 102 then
              bif inB 97 102 then
                bif inB 98 102 then
                  bif inB 99 102 then
                    some ((), ((upI (upI (upI (upI (upI (upI (upI o3.2.1 7 a0 0 (o3.2.1 62 a1 (93 : Int32).toNatClampNeg)) 51 0 (0 : Int32).toNatClampNeg ((upI o3.2.1 7 a0 0 (o3.2.1 62 a1 (93 : Int32).toNatClampNeg)) 62 a1 (94 : Int32).toNatClampNeg)) 51 0 (1 : Int32).toNatClampNeg ((upI (upI o3.2.1 7 a0 0 (o3.2.1 62 a1 (93 : Int32).toNatClampNeg)) 51 0 (0 : Int32).toNatClampNeg ((upI o3.2.1 7 a0 0 (o3.2.1 62 a1 (93 : Int32).toNatClampNeg)) 62 a1 (94 : Int32).toNatClampNeg)) 62 a1 (95 : Int32).toNatClampNeg)) 7 a0 3 ((upI (upI (upI o3.2.1 7 a0 0 (o3.2.1 62 a1 (93 : Int32).toNatClampNeg)) 51 0 (0 : Int32).toNatClampNeg ((upI o3.2.1 7 a0 0 (o3.2.1 62 a1 (93 : Int32).toNatClampNeg)) 62 a1 (94 : Int32).toNatClampNeg)) 51 0 (1 : Int32).toNatClampNeg ((upI (upI o3.2.1 7 a0 0 (o3.2.1 62 a1 (93 : Int32).toNatClampNeg)) 51 0 (0 : Int32).toNatClampNeg ((upI o3.2.1 7 a0 0 (o3.2.1 62 a1 (93 : Int32).toNatClampNeg)) 62 a1 (94 : Int32).toNatClampNeg)) 62 a1 (95 : Int32).toNatClampNeg)) 62 a1 (96 : Int32).toNatClampNeg)) 7 a0 4 ((upI (upI (upI (upI o3.2.1 7 a0 0 (o3.2.1 62 a1 (93 : Int32).toNatClampNeg)) 51 0 (0 : Int32).toNatClampNeg ((upI o3.2.1 7 a0 0 (o3.2.1 62 a1 (93 : Int32).toNatClampNeg)) 62 a1 (94 : Int32).toNatClampNeg)) 51 0 (1 : Int32).toNatClampNeg ((upI (upI o3.2.1 7 a0 0 (o3.2.1 62 a1 (93 : Int32).toNatClampNeg)) 51 0 (0 : Int32).toNatClampNeg ((upI o3.2.1 7 a0 0 (o3.2.1 62 a1 (93 : Int32).toNatClampNeg)) 62 a1 (94 : Int32).toNatClampNeg)) 62 a1 (95 : Int32).toNatClampNeg)) 7 a0 3 ((upI (upI (upI o3.2.1 7 a0 0 (o3.2.1 62 a1 (93 : Int32).toNatClampNeg)) 51 0 (0 : Int32).toNatClampNeg ((upI o3.2.1 7 a0 0 (o3.2.1 62 a1 (93 : Int32).toNatClampNeg)) 62 a1 (94 : Int32).toNatClampNeg)) 51 0 (1 : Int32).toNatClampNeg ((upI (upI o3.2.1 7 a0 0 (o3.2.1 62 a1 (93 : Int32).toNatClampNeg)) 51 0 (0 : Int32).toNatClampNeg ((upI o3.2.1 7 a0 0 (o3.2.1 62 a1 (93 : Int32).toNatClampNeg)) 62 a1 (94 : Int32).toNatClampNeg)) 62 a1 (95 : Int32).toNatClampNeg)) 62 a1 (96 : Int32).toNatClampNeg)) 62 a1 (97 : Int32).toNatClampNeg)) 7 a0 10 ((upI (upI (upI (upI (upI o3.2.1 7 a0 0 (o3.2.1 62 a1 (93 : Int32).toNatClampNeg)) 51 0 (0 : Int32).toNatClampNeg ((upI o3.2.1 7 a0 0 (o3.2.1 62 a1 (93 : Int32).toNatClampNeg)) 62 a1 (94 : Int32).toNatClampNeg)) 51 0 (1 : Int32).toNatClampNeg ((upI (upI o3.2.1 7 a0 0 (o3.2.1 62 a1 (93 : Int32).toNatClampNeg)) 51 0 (0 : Int32).toNatClampNeg ((upI o3.2.1 7 a0 0 (o3.2.1 62 a1 (93 : Int32).toNatClampNeg)) 62 a1 (94 : Int32).toNatClampNeg)) 62 a1 (95 : Int32).toNatClampNeg)) 7 a0 3 ((upI (upI (upI o3.2.1 7 a0 0 (o3.2.1 62 a1 (93 : Int32).toNatClampNeg)) 51 0 (0 : Int32).toNatClampNeg ((upI o3.2.1 7 a0 0 (o3.2.1 62 a1 (93 : Int32).toNatClampNeg)) 62 a1 (94 : Int32).toNatClampNeg)) 51 0 (1 : Int32).toNatClampNeg ((upI (upI o3.2.1 7 a0 0 (o3.2.1 62 a1 (93 : Int32).toNatClampNeg)) 51 0 (0 : Int32).toNatClampNeg ((upI o3.2.1 7 a0 0 (o3.2.1 62 a1 (93 : Int32).toNatClampNeg)) 62 a1 (94 : Int32).toNatClampNeg)) 62 a1 (95 : Int32).toNatClampNeg)) 62 a1 (96 : Int32).toNatClampNeg)) 7 a0 4 ((upI (upI (upI (upI o3.2.1 7 a0 0 (o3.2.1 62 a1 (93 : Int32).toNatClampNeg)) 51 0 (0 : Int32).toNatClampNeg ((upI o3.2.1 7 a0 0 (o3.2.1 62 a1 (93 : Int32).toNatClampNeg)) 62 a1 (94 : Int32).toNatClampNeg)) 51 0 (1 : Int32).toNatClampNeg ((upI (upI o3.2.1 7 a0 0 (o3.2.1 62 a1 (93 : Int32).toNatClampNeg)) 51 0 (0 : Int32).toNatClampNeg ((upI o3.2.1 7 a0 0 (o3.2.1 62 a1 (93 : Int32).toNatClampNeg)) 62 a1 (94 : Int32).toNatClampNeg)) 62 a1 (95 : Int32).toNatClampNeg)) 7 a0 3 ((upI (upI (upI o3.2.1 7 a0 0 (o3.2.1 62 a1 (93 : Int32).toNatClampNeg)) 51 0 (0 : Int32).toNatClampNeg ((upI o3.2.1 7 a0 0 (o3.2.1 62 a1 (93 : Int32).toNatClampNeg)) 62 a1 (94 : Int32).toNatClampNeg)) 51 0 (1 : Int32).toNatClampNeg ((upI (upI o3.2.1 7 a0 0 (o3.2.1 62 a1 (93 : Int32).toNatClampNeg)) 51 0 (0 : Int32).toNatClampNeg ((upI o3.2.1 7 a0 0 (o3.2.1 62 a1 (93 : Int32).toNatClampNeg)) 62 a1 (94 : Int32).toNatClampNeg)) 62 a1 (95 : Int32).toNatClampNeg)) 62 a1 (96 : Int32).toNatClampNeg)) 62 a1 (97 : Int32).toNatClampNeg)) 62 a1 (98 : Int32).toNatClampNeg)) 7 a0 12 ((upI (upI (upI (upI (upI (upI o3.2.1 7 a0 0 (o3.2.1 62 a1 (93 : Int32).toNatClampNeg)) 51 0 (0 : Int32).toNatClampNeg ((upI o3.2.1 7 a0 0 (o3.2.1 62 a1 (93 : Int32).toNatClampNeg)) 62 a1 (94 : Int32).toNatClampNeg)) 51 0 (1 : Int32).toNatClampNeg ((upI (upI o3.2.1 7 a0 0 (o3.2.1 62 a1 (93 : Int32).toNatClampNeg)) 51 0 (0 : Int32).toNatClampNeg ((upI o3.2.1 7 a0 0 (o3.2.1 62 a1 (93 : Int32).toNatClampNeg)) 62 a1 (94 : Int32).toNatClampNeg)) 62 a1 (95 : Int32).toNatClampNeg)) 7 a0 3 ((upI (upI (upI o3.2.1 7 a0 0 (o3.2.1 62 a1 (93 : Int32).toNatClampNeg)) 51 0 (0 : Int32).toNatClampNeg ((upI o3.2.1 7 a0 0 (o3.2.1 62 a1 (93 : Int32).toNatClampNeg)) 62 a1 (94 : Int32).toNatClampNeg)) 51 0 (1 : Int32).toNatClampNeg ((upI (upI o3.2.1 7 a0 0 (o3.2.1 62 a1 (93 : Int32).toNatClampNeg)) 51 0 (0 : Int32).toNatClampNeg ((upI o3.2.1 7 a0 0 (o3.2.1 62 a1 (93 : Int32).toNatClampNeg)) 62 a1 (94 : Int32).toNatClampNeg)) 62 a1 (95 : Int32).toNatClampNeg)) 62 a1 (96 : Int32).toNatClampNeg)) 7 a0 4 ((upI (upI (upI (upI o3.2.1 7 a0 0 (o3.2.1 62 a1 (93 : Int32).toNatClampNeg)) 51 0 (0 : Int32).toNatClampNeg ((upI o3.2.1 7 a0 0 (o3.2.1 62 a1 (93 : Int32).toNatClampNeg)) 62 a1 (94 : Int32).toNatClampNeg)) 51 0 (1 : Int32).toNatClampNeg ((upI (upI o3.2.1 7 a0 0 (o3.2.1 62 a1 (93 : Int32).toNatClampNeg)) 51 0 (0 : Int32).toNatClampNeg ((upI o3.2.1 7 a0 0 (o3.2.1 62 a1 (93 : Int32).toNatClampNeg)) 62 a1 (94 : Int32).toNatClampNeg)) 62 a1 (95 : Int32).toNatClampNeg)) 7 a0 3 ((upI (upI (upI o3.2.1 7 a0 0 (o3.2.1 62 a1 (93 : Int32).toNatClampNeg)) 51 0 (0 : Int32).toNatClampNeg ((upI o3.2.1 7 a0 0 (o3.2.1 62 a1 (93 : Int32).toNatClampNeg)) 62 a1 (94 : Int32).toNatClampNeg)) 51 0 (1 : Int32).toNatClampNeg ((upI (upI o3.2.1 7 a0 0 (o3.2.1 62 a1 (93 : Int32).toNatClampNeg)) 51 0 (0 : Int32).toNatClampNeg ((upI o3.2.1 7 a0 0 (o3.2.1 62 a1 (93 : Int32).toNatClampNeg)) 62 a1 (94 : Int32).toNatClampNeg)) 62 a1 (95 : Int32).toNatClampNeg)) 62 a1 (96 : Int32).toNatClampNeg)) 62 a1 (97 : Int32).toNatClampNeg)) 7 a0 10 ((upI (upI (upI (upI (upI o3.2.1 7 a0 0 (o3.2.1 62 a1 (93 : Int32).toNatClampNeg)) 51 0 (0 : Int32).toNatClampNeg ((upI o3.2.1 7 a0 0 (o3.2.1 62 a1 (93 : Int32).toNatClampNeg)) 62 a1 (94 : Int32).toNatClampNeg)) 51 0 (1 : Int32).toNatClampNeg ((upI (upI o3.2.1 7 a0 0 (o3.2.1 62 a1 (93 : Int32).toNatClampNeg)) 51 0 (0 : Int32).toNatClampNeg ((upI o3.2.1 7 a0 0 (o3.2.1 62 a1 (93 : Int32).toNatClampNeg)) 62 a1 (94 : Int32).toNatClampNeg)) 62 a1 (95 : Int32).toNatClampNeg)) 7 a0 3 ((upI (upI (upI o3.2.1 7 a0 0 (o3.2.1 62 a1 (93 : Int32).toNatClampNeg)) 51 0 (0 : Int32).toNatClampNeg ((upI o3.2.1 7 a0 0 (o3.2.1 62 a1 (93 : Int32).toNatClampNeg)) 62 a1 (94 : Int32).toNatClampNeg)) 51 0 (1 : Int32).toNatClampNeg ((upI (upI o3.2.1 7 a0 0 (o3.2.1 62 a1 (93 : Int32).toNatClampNeg)) 51 0 (0 : Int32).toNatClampNeg ((upI o3.2.1 7 a0 0 (o3.2.1 62 a1 (93 : Int32).toNatClampNeg)) 62 a1 (94 : Int32).toNatClampNeg)) 62 a1 (95 : Int32).toNatClampNeg)) 62 a1 (96 : Int32).toNatClampNeg)) 7 a0 4 ((upI (upI (upI (upI o3.2.1 7 a0 0 (o3.2.1 62 a1 (93 : Int32).toNatClampNeg)) 51 0 (0 : Int32).toNatClampNeg ((upI o3.2.1 7 a0 0 (o3.2.1 62 a1 (93 : Int32).toNatClampNeg)) 62 a1 (94 : Int32).toNatClampNeg)) 51 0 (1 : Int32).toNatClampNeg ((upI (upI o3.2.1 7 a0 0 (o3.2.1 62 a1 (93 : Int32).toNatClampNeg)) 51 0 (0 : Int32).toNatClampNeg ((upI o3.2.1 7 a0 0 (o3.2.1 62 a1 (93 : Int32).toNatClampNeg)) 62 a1 (94 : Int32).toNatClampNeg)) 62 a1 (95 : Int32).toNatClampNeg)) 7 a0 3 ((upI (upI (upI o3.2.1 7 a0 0 (o3.2.1 62 a1 (93 : Int32).toNatClampNeg)) 51 0 (0 : Int32).toNatClampNeg ((upI o3.2.1 7 a0 0 (o3.2.1 62 a1 (93 : Int32).toNatClampNeg)) 62 a1 (94 : Int32).toNatClampNeg)) 51 0 (1 : Int32).toNatClampNeg ((upI (upI o3.2.1 7 a0 0 (o3.2.1 62 a1 (93 : Int32).toNatClampNeg)) 51 0 (0 : Int32).toNatClampNeg ((upI o3.2.1 7 a0 0 (o3.2.1 62 a1 (93 : Int32).toNatClampNeg)) 62 a1 (94 : Int32).toNatClampNeg)) 62 a1 (95 : Int32).toNatClampNeg)) 62 a1 (96 : Int32).toNatClampNeg)) 62 a1 (97 : Int32).toNatClampNeg)) 62 a1 (98 : Int32).toNatClampNeg)) 62 a1 (99 : Int32).toNatClampNeg)), o3.2.2))
                  else none
                else none
              else none
            else none
          else none
        else none
      else none
    else none
  else none
theorem fX7_again_ex : ∃ f : Nat → Nat → MM → Option (Unit × MM), f = fX7_again_b := ⟨_, rfl⟩
noncomputable def fX7_again : Nat → Nat → MM → Option (Unit × MM) := Classical.choose fX7_again_ex
theorem fX7_again_eq : fX7_again = fX7_again_b := Classical.choose_spec fX7_again_ex
noncomputable def fX7_keep_b2 (a0 : Nat) (a1 : Nat) (s : Int32) (m : MM) : Option (((Int32) ⊕ (Unit)) × MM) :=
  if 30 ≤ s then
    some (Sum.inr (), m)
  else
    bif inB s 30 then
      bif inB s 102 then
        some (Sum.inl (s + 1), ((upI m.1 62 a1 s.toNatClampNeg (m.1 50 0 s.toNatClampNeg)), m.2))
      else none
    else none
noncomputable def fX7_keep_b25 (a0 : Nat) (a1 : Nat) (s : Int32) (m : MM) : Option (((Int32) ⊕ (Unit)) × MM) :=
  if 9 ≤ s then
    some (Sum.inr (), m)
  else
    bif inB s 9 then
      bif inB (30 + s) 102 then
        bif inB s 9 then
          bif inB (39 + s) 102 then
            bif inB s 9 then
              bif inB (48 + s) 102 then
                bif inB s 9 then
                  bif inB (57 + s) 102 then
                    bif inB s 9 then
                      bif inB (66 + s) 102 then
                        some (Sum.inl (s + 1), ((upI (upI (upI (upI (upI m.1 62 a1 (30 + s).toNatClampNeg (m.1 52 0 s.toNatClampNeg)) 62 a1 (39 + s).toNatClampNeg ((upI m.1 62 a1 (30 + s).toNatClampNeg (m.1 52 0 s.toNatClampNeg)) 53 0 s.toNatClampNeg)) 62 a1 (48 + s).toNatClampNeg ((upI (upI m.1 62 a1 (30 + s).toNatClampNeg (m.1 52 0 s.toNatClampNeg)) 62 a1 (39 + s).toNatClampNeg ((upI m.1 62 a1 (30 + s).toNatClampNeg (m.1 52 0 s.toNatClampNeg)) 53 0 s.toNatClampNeg)) 54 0 s.toNatClampNeg)) 62 a1 (57 + s).toNatClampNeg ((upI (upI (upI m.1 62 a1 (30 + s).toNatClampNeg (m.1 52 0 s.toNatClampNeg)) 62 a1 (39 + s).toNatClampNeg ((upI m.1 62 a1 (30 + s).toNatClampNeg (m.1 52 0 s.toNatClampNeg)) 53 0 s.toNatClampNeg)) 62 a1 (48 + s).toNatClampNeg ((upI (upI m.1 62 a1 (30 + s).toNatClampNeg (m.1 52 0 s.toNatClampNeg)) 62 a1 (39 + s).toNatClampNeg ((upI m.1 62 a1 (30 + s).toNatClampNeg (m.1 52 0 s.toNatClampNeg)) 53 0 s.toNatClampNeg)) 54 0 s.toNatClampNeg)) 55 0 s.toNatClampNeg)) 62 a1 (66 + s).toNatClampNeg ((upI (upI (upI (upI m.1 62 a1 (30 + s).toNatClampNeg (m.1 52 0 s.toNatClampNeg)) 62 a1 (39 + s).toNatClampNeg ((upI m.1 62 a1 (30 + s).toNatClampNeg (m.1 52 0 s.toNatClampNeg)) 53 0 s.toNatClampNeg)) 62 a1 (48 + s).toNatClampNeg ((upI (upI m.1 62 a1 (30 + s).toNatClampNeg (m.1 52 0 s.toNatClampNeg)) 62 a1 (39 + s).toNatClampNeg ((upI m.1 62 a1 (30 + s).toNatClampNeg (m.1 52 0 s.toNatClampNeg)) 53 0 s.toNatClampNeg)) 54 0 s.toNatClampNeg)) 62 a1 (57 + s).toNatClampNeg ((upI (upI (upI m.1 62 a1 (30 + s).toNatClampNeg (m.1 52 0 s.toNatClampNeg)) 62 a1 (39 + s).toNatClampNeg ((upI m.1 62 a1 (30 + s).toNatClampNeg (m.1 52 0 s.toNatClampNeg)) 53 0 s.toNatClampNeg)) 62 a1 (48 + s).toNatClampNeg ((upI (upI m.1 62 a1 (30 + s).toNatClampNeg (m.1 52 0 s.toNatClampNeg)) 62 a1 (39 + s).toNatClampNeg ((upI m.1 62 a1 (30 + s).toNatClampNeg (m.1 52 0 s.toNatClampNeg)) 53 0 s.toNatClampNeg)) 54 0 s.toNatClampNeg)) 55 0 s.toNatClampNeg)) 56 0 s.toNatClampNeg)), m.2))
                      else none
                    else none
                  else none
                else none
              else none
            else none
          else none
        else none
      else none
    else none
noncomputable def fX7_keep_b99 (a0 : Nat) (a1 : Nat) (s : Int32) (m : MM) : Option (((Int32) ⊕ (Unit)) × MM) :=
  if 18 ≤ s then
    some (Sum.inr (), m)
  else
    bif inB s 18 then
      bif inB (75 + s) 102 then
        some (Sum.inl (s + 1), ((upI m.1 62 a1 (75 + s).toNatClampNeg (m.1 57 0 s.toNatClampNeg)), m.2))
      else none
    else none
noncomputable def fX7_keep_b (a0 : Nat) (a1 : Nat) (m : MM) : Option (Unit × MM) :=
  (loopF 1000 (fX7_keep_b2 a0 a1) 0 m).bind fun o1 =>
  (loopF 1000 (fX7_keep_b25 a0 a1) 0 o1.2).bind fun o2 =>
  (loopF 1000 (fX7_keep_b99 a0 a1) 0 o2.2).bind fun o3 =>
  bif inB 93 102 then
    bif inB 0 2 then
      bif inB 94 102 then
        bif inB 1 2 then
          bif inB 95 102 then
            bif inB 96 102 then
              bif inB 97 102 then
                bif inB 98 102 then
                  bif inB 99 102 then
                    some ((), ((upI (upI (upI (upI (upI (upI (upI o3.2.1 62 a1 (93 : Int32).toNatClampNeg (o3.2.1 7 a0 0)) 62 a1 (94 : Int32).toNatClampNeg ((upI o3.2.1 62 a1 (93 : Int32).toNatClampNeg (o3.2.1 7 a0 0)) 51 0 (0 : Int32).toNatClampNeg)) 62 a1 (95 : Int32).toNatClampNeg ((upI (upI o3.2.1 62 a1 (93 : Int32).toNatClampNeg (o3.2.1 7 a0 0)) 62 a1 (94 : Int32).toNatClampNeg ((upI o3.2.1 62 a1 (93 : Int32).toNatClampNeg (o3.2.1 7 a0 0)) 51 0 (0 : Int32).toNatClampNeg)) 51 0 (1 : Int32).toNatClampNeg)) 62 a1 (96 : Int32).toNatClampNeg ((upI (upI (upI o3.2.1 62 a1 (93 : Int32).toNatClampNeg (o3.2.1 7 a0 0)) 62 a1 (94 : Int32).toNatClampNeg ((upI o3.2.1 62 a1 (93 : Int32).toNatClampNeg (o3.2.1 7 a0 0)) 51 0 (0 : Int32).toNatClampNeg)) 62 a1 (95 : Int32).toNatClampNeg ((upI (upI o3.2.1 62 a1 (93 : Int32).toNatClampNeg (o3.2.1 7 a0 0)) 62 a1 (94 : Int32).toNatClampNeg ((upI o3.2.1 62 a1 (93 : Int32).toNatClampNeg (o3.2.1 7 a0 0)) 51 0 (0 : Int32).toNatClampNeg)) 51 0 (1 : Int32).toNatClampNeg)) 7 a0 3)) 62 a1 (97 : Int32).toNatClampNeg ((upI (upI (upI (upI o3.2.1 62 a1 (93 : Int32).toNatClampNeg (o3.2.1 7 a0 0)) 62 a1 (94 : Int32).toNatClampNeg ((upI o3.2.1 62 a1 (93 : Int32).toNatClampNeg (o3.2.1 7 a0 0)) 51 0 (0 : Int32).toNatClampNeg)) 62 a1 (95 : Int32).toNatClampNeg ((upI (upI o3.2.1 62 a1 (93 : Int32).toNatClampNeg (o3.2.1 7 a0 0)) 62 a1 (94 : Int32).toNatClampNeg ((upI o3.2.1 62 a1 (93 : Int32).toNatClampNeg (o3.2.1 7 a0 0)) 51 0 (0 : Int32).toNatClampNeg)) 51 0 (1 : Int32).toNatClampNeg)) 62 a1 (96 : Int32).toNatClampNeg ((upI (upI (upI o3.2.1 62 a1 (93 : Int32).toNatClampNeg (o3.2.1 7 a0 0)) 62 a1 (94 : Int32).toNatClampNeg ((upI o3.2.1 62 a1 (93 : Int32).toNatClampNeg (o3.2.1 7 a0 0)) 51 0 (0 : Int32).toNatClampNeg)) 62 a1 (95 : Int32).toNatClampNeg ((upI (upI o3.2.1 62 a1 (93 : Int32).toNatClampNeg (o3.2.1 7 a0 0)) 62 a1 (94 : Int32).toNatClampNeg ((upI o3.2.1 62 a1 (93 : Int32).toNatClampNeg (o3.2.1 7 a0 0)) 51 0 (0 : Int32).toNatClampNeg)) 51 0 (1 : Int32).toNatClampNeg)) 7 a0 3)) 7 a0 4)) 62 a1 (98 : Int32).toNatClampNeg ((upI (upI (upI (upI (upI o3.2.1 62 a1 (93 : Int32).toNatClampNeg (o3.2.1 7 a0 0)) 62 a1 (94 : Int32).toNatClampNeg ((upI o3.2.1 62 a1 (93 : Int32).toNatClampNeg (o3.2.1 7 a0 0)) 51 0 (0 : Int32).toNatClampNeg)) 62 a1 (95 : Int32).toNatClampNeg ((upI (upI o3.2.1 62 a1 (93 : Int32).toNatClampNeg (o3.2.1 7 a0 0)) 62 a1 (94 : Int32).toNatClampNeg ((upI o3.2.1 62 a1 (93 : Int32).toNatClampNeg (o3.2.1 7 a0 0)) 51 0 (0 : Int32).toNatClampNeg)) 51 0 (1 : Int32).toNatClampNeg)) 62 a1 (96 : Int32).toNatClampNeg ((upI (upI (upI o3.2.1 62 a1 (93 : Int32).toNatClampNeg (o3.2.1 7 a0 0)) 62 a1 (94 : Int32).toNatClampNeg ((upI o3.2.1 62 a1 (93 : Int32).toNatClampNeg (o3.2.1 7 a0 0)) 51 0 (0 : Int32).toNatClampNeg)) 62 a1 (95 : Int32).toNatClampNeg ((upI (upI o3.2.1 62 a1 (93 : Int32).toNatClampNeg (o3.2.1 7 a0 0)) 62 a1 (94 : Int32).toNatClampNeg ((upI o3.2.1 62 a1 (93 : Int32).toNatClampNeg (o3.2.1 7 a0 0)) 51 0 (0 : Int32).toNatClampNeg)) 51 0 (1 : Int32).toNatClampNeg)) 7 a0 3)) 62 a1 (97 : Int32).toNatClampNeg ((upI (upI (upI (upI o3.2.1 62 a1 (93 : Int32).toNatClampNeg (o3.2.1 7 a0 0)) 62 a1 (94 : Int32).toNatClampNeg ((upI o3.2.1 62 a1 (93 : Int32).toNatClampNeg (o3.2.1 7 a0 0)) 51 0 (0 : Int32).toNatClampNeg)) 62 a1 (95 : Int32).toNatClampNeg ((upI (upI o3.2.1 62 a1 (93 : Int32).toNatClampNeg (o3.2.1 7 a0 0)) 62 a1 (94 : Int32).toNatClampNeg ((upI o3.2.1 62 a1 (93 : Int32).toNatClampNeg (o3.2.1 7 a0 0)) 51 0 (0 : Int32).toNatClampNeg)) 51 0 (1 : Int32).toNatClampNeg)) 62 a1 (96 : Int32).toNatClampNeg ((upI (upI (upI o3.2.1 62 a1 (93 : Int32).toNatClampNeg (o3.2.1 7 a0 0)) 62 a1 (94 : Int32).toNatClampNeg ((upI o3.2.1 62 a1 (93 : Int32).toNatClampNeg (o3.2.1 7 a0 0)) 51 0 (0 : Int32).toNatClampNeg)) 62 a1 (95 : Int32).toNatClampNeg ((upI (upI o3.2.1 62 a1 (93 : Int32).toNatClampNeg (o3.2.1 7 a0 0)) 62 a1 (94 : Int32).toNatClampNeg ((upI o3.2.1 62 a1 (93 : Int32).toNatClampNeg (o3.2.1 7 a0 0)) 51 0 (0 : Int32).toNatClampNeg)) 51 0 (1 : Int32).toNatClampNeg)) 7 a0 3)) 7 a0 4)) 7 a0 10)) 62 a1 (99 : Int32).toNatClampNeg ((upI (upI (upI (upI (upI (upI o3.2.1 62 a1 (93 : Int32).toNatClampNeg (o3.2.1 7 a0 0)) 62 a1 (94 : Int32).toNatClampNeg ((upI o3.2.1 62 a1 (93 : Int32).toNatClampNeg (o3.2.1 7 a0 0)) 51 0 (0 : Int32).toNatClampNeg)) 62 a1 (95 : Int32).toNatClampNeg ((upI (upI o3.2.1 62 a1 (93 : Int32).toNatClampNeg (o3.2.1 7 a0 0)) 62 a1 (94 : Int32).toNatClampNeg ((upI o3.2.1 62 a1 (93 : Int32).toNatClampNeg (o3.2.1 7 a0 0)) 51 0 (0 : Int32).toNatClampNeg)) 51 0 (1 : Int32).toNatClampNeg)) 62 a1 (96 : Int32).toNatClampNeg ((upI (upI (upI o3.2.1 62 a1 (93 : Int32).toNatClampNeg (o3.2.1 7 a0 0)) 62 a1 (94 : Int32).toNatClampNeg ((upI o3.2.1 62 a1 (93 : Int32).toNatClampNeg (o3.2.1 7 a0 0)) 51 0 (0 : Int32).toNatClampNeg)) 62 a1 (95 : Int32).toNatClampNeg ((upI (upI o3.2.1 62 a1 (93 : Int32).toNatClampNeg (o3.2.1 7 a0 0)) 62 a1 (94 : Int32).toNatClampNeg ((upI o3.2.1 62 a1 (93 : Int32).toNatClampNeg (o3.2.1 7 a0 0)) 51 0 (0 : Int32).toNatClampNeg)) 51 0 (1 : Int32).toNatClampNeg)) 7 a0 3)) 62 a1 (97 : Int32).toNatClampNeg ((upI (upI (upI (upI o3.2.1 62 a1 (93 : Int32).toNatClampNeg (o3.2.1 7 a0 0)) 62 a1 (94 : Int32).toNatClampNeg ((upI o3.2.1 62 a1 (93 : Int32).toNatClampNeg (o3.2.1 7 a0 0)) 51 0 (0 : Int32).toNatClampNeg)) 62 a1 (95 : Int32).toNatClampNeg ((upI (upI o3.2.1 62 a1 (93 : Int32).toNatClampNeg (o3.2.1 7 a0 0)) 62 a1 (94 : Int32).toNatClampNeg ((upI o3.2.1 62 a1 (93 : Int32).toNatClampNeg (o3.2.1 7 a0 0)) 51 0 (0 : Int32).toNatClampNeg)) 51 0 (1 : Int32).toNatClampNeg)) 62 a1 (96 : Int32).toNatClampNeg ((upI (upI (upI o3.2.1 62 a1 (93 : Int32).toNatClampNeg (o3.2.1 7 a0 0)) 62 a1 (94 : Int32).toNatClampNeg ((upI o3.2.1 62 a1 (93 : Int32).toNatClampNeg (o3.2.1 7 a0 0)) 51 0 (0 : Int32).toNatClampNeg)) 62 a1 (95 : Int32).toNatClampNeg ((upI (upI o3.2.1 62 a1 (93 : Int32).toNatClampNeg (o3.2.1 7 a0 0)) 62 a1 (94 : Int32).toNatClampNeg ((upI o3.2.1 62 a1 (93 : Int32).toNatClampNeg (o3.2.1 7 a0 0)) 51 0 (0 : Int32).toNatClampNeg)) 51 0 (1 : Int32).toNatClampNeg)) 7 a0 3)) 7 a0 4)) 62 a1 (98 : Int32).toNatClampNeg ((upI (upI (upI (upI (upI o3.2.1 62 a1 (93 : Int32).toNatClampNeg (o3.2.1 7 a0 0)) 62 a1 (94 : Int32).toNatClampNeg ((upI o3.2.1 62 a1 (93 : Int32).toNatClampNeg (o3.2.1 7 a0 0)) 51 0 (0 : Int32).toNatClampNeg)) 62 a1 (95 : Int32).toNatClampNeg ((upI (upI o3.2.1 62 a1 (93 : Int32).toNatClampNeg (o3.2.1 7 a0 0)) 62 a1 (94 : Int32).toNatClampNeg ((upI o3.2.1 62 a1 (93 : Int32).toNatClampNeg (o3.2.1 7 a0 0)) 51 0 (0 : Int32).toNatClampNeg)) 51 0 (1 : Int32).toNatClampNeg)) 62 a1 (96 : Int32).toNatClampNeg ((upI (upI (upI o3.2.1 62 a1 (93 : Int32).toNatClampNeg (o3.2.1 7 a0 0)) 62 a1 (94 : Int32).toNatClampNeg ((upI o3.2.1 62 a1 (93 : Int32).toNatClampNeg (o3.2.1 7 a0 0)) 51 0 (0 : Int32).toNatClampNeg)) 62 a1 (95 : Int32).toNatClampNeg ((upI (upI o3.2.1 62 a1 (93 : Int32).toNatClampNeg (o3.2.1 7 a0 0)) 62 a1 (94 : Int32).toNatClampNeg ((upI o3.2.1 62 a1 (93 : Int32).toNatClampNeg (o3.2.1 7 a0 0)) 51 0 (0 : Int32).toNatClampNeg)) 51 0 (1 : Int32).toNatClampNeg)) 7 a0 3)) 62 a1 (97 : Int32).toNatClampNeg ((upI (upI (upI (upI o3.2.1 62 a1 (93 : Int32).toNatClampNeg (o3.2.1 7 a0 0)) 62 a1 (94 : Int32).toNatClampNeg ((upI o3.2.1 62 a1 (93 : Int32).toNatClampNeg (o3.2.1 7 a0 0)) 51 0 (0 : Int32).toNatClampNeg)) 62 a1 (95 : Int32).toNatClampNeg ((upI (upI o3.2.1 62 a1 (93 : Int32).toNatClampNeg (o3.2.1 7 a0 0)) 62 a1 (94 : Int32).toNatClampNeg ((upI o3.2.1 62 a1 (93 : Int32).toNatClampNeg (o3.2.1 7 a0 0)) 51 0 (0 : Int32).toNatClampNeg)) 51 0 (1 : Int32).toNatClampNeg)) 62 a1 (96 : Int32).toNatClampNeg ((upI (upI (upI o3.2.1 62 a1 (93 : Int32).toNatClampNeg (o3.2.1 7 a0 0)) 62 a1 (94 : Int32).toNatClampNeg ((upI o3.2.1 62 a1 (93 : Int32).toNatClampNeg (o3.2.1 7 a0 0)) 51 0 (0 : Int32).toNatClampNeg)) 62 a1 (95 : Int32).toNatClampNeg ((upI (upI o3.2.1 62 a1 (93 : Int32).toNatClampNeg (o3.2.1 7 a0 0)) 62 a1 (94 : Int32).toNatClampNeg ((upI o3.2.1 62 a1 (93 : Int32).toNatClampNeg (o3.2.1 7 a0 0)) 51 0 (0 : Int32).toNatClampNeg)) 51 0 (1 : Int32).toNatClampNeg)) 7 a0 3)) 7 a0 4)) 7 a0 10)) 7 a0 12)), o3.2.2))
                  else none
                else none
              else none
            else none
          else none
        else none
      else none
    else none
  else none
theorem fX7_keep_ex : ∃ f : Nat → Nat → MM → Option (Unit × MM), f = fX7_keep_b := ⟨_, rfl⟩
noncomputable def fX7_keep : Nat → Nat → MM → Option (Unit × MM) := Classical.choose fX7_keep_ex
theorem fX7_keep_eq : fX7_keep = fX7_keep_b := Classical.choose_spec fX7_keep_ex
noncomputable def fX7_coast_b17 (a0 : Nat) (s : Int32 × Int32) (m : MM) : Option (((Int32 × Int32) ⊕ ((Unit) ⊕ (Int32))) × MM) :=
  if s.2 = 0 then
    some (Sum.inr (Sum.inl ()), m)
  else
    (fX7_next a0 m).bind fun o2 =>
    (fX7_statement a0 o2.2).bind fun o3 =>
    if ¬ (bI o3.1) = 0 then
      (fX7_next a0 o3.2).bind fun o4 =>
      if ¬ (o4.2.1 7 a0 17) = 101 then
        if ¬ (o4.2.1 7 a0 17) = 59 then
          some (Sum.inl ((s.1 + 1), 0), o4.2)
        else
          some (Sum.inl ((s.1 + 1), 1), o4.2)
      else
        some (Sum.inr (Sum.inr (s.1 + 1)), o4.2)
    else
      some (Sum.inl (s.1, (bI o3.1)), o3.2)
noncomputable def fX7_coast_b (a0 : Nat) (m : MM) : Option (Int32 × MM) :=
  (fX7_keep a0 1 m).bind fun o1 =>
  (loopF 1000 (fX7_coast_b17 a0) (0, 1) ((upI o1.2.1 7 a0 16 0), o1.2.2)).bind fun o5 => match o5.1 with
  | Sum.inl x6 =>
    (fX7_again a0 1 o5.2).bind fun o7 =>
    (fX7_no a0 (-1002) ((upI o7.2.1 7 a0 13 0), o7.2.2)).bind fun o8 =>
    some (((-2000) - (o8.2.1 7 a0 15)), o8.2)
  | Sum.inr x9 =>
    some (x9, ((upI o5.2.1 7 a0 13 0), o5.2.2))
theorem fX7_coast_ex : ∃ f : Nat → MM → Option (Int32 × MM), f = fX7_coast_b := ⟨_, rfl⟩
noncomputable def fX7_coast : Nat → MM → Option (Int32 × MM) := Classical.choose fX7_coast_ex
theorem fX7_coast_eq : fX7_coast = fX7_coast_b := Classical.choose_spec fX7_coast_ex
noncomputable def fX7_tough_b (a0 : Nat) (a1 : Int32) (m : MM) : Option (Int32 × MM) :=
  bif inB a1 9 then
    if (m.1 52 0 a1.toNatClampNeg) = 1 then
      some (5, m)
    else
      if (m.1 52 0 a1.toNatClampNeg) = 2 then
        some (4, m)
      else
        if (m.1 52 0 a1.toNatClampNeg) = 3 then
          some (5, m)
        else
          if (m.1 52 0 a1.toNatClampNeg) = 4 then
            bif inB a1 9 then
              some ((4 + ((m.1 53 0 a1.toNatClampNeg) / 3)), m)
            else none
          else
            if (m.1 52 0 a1.toNatClampNeg) = 5 then
              some (99, m)
            else
              some (3, m)
  else none
theorem fX7_tough_ex : ∃ f : Nat → Int32 → MM → Option (Int32 × MM), f = fX7_tough_b := ⟨_, rfl⟩
noncomputable def fX7_tough : Nat → Int32 → MM → Option (Int32 × MM) := Classical.choose fX7_tough_ex
theorem fX7_tough_eq : fX7_tough = fX7_tough_b := Classical.choose_spec fX7_tough_ex
noncomputable def fX7_bottleOf_b (a0 : Nat) (a1 : Int32) (a2 : Int32) (m : MM) : Option (Int32 × MM) :=
  (fX7_isBottle a0 a1 m).bind fun o1 =>
  if ¬ (bI o1.1) = 0 then
    if a2 = 0 then
      bif inB a1 9 then
        some ((o1.2.1 52 0 a1.toNatClampNeg), o1.2)
      else none
    else
      if a2 = 1 then
        bif inB a1 9 then
          some ((o1.2.1 53 0 a1.toNatClampNeg), o1.2)
        else none
      else
        if a2 = 2 then
          bif inB a1 9 then
            some ((o1.2.1 54 0 a1.toNatClampNeg), o1.2)
          else none
        else
          if a2 = 3 then
            bif inB a1 9 then
              some ((o1.2.1 55 0 a1.toNatClampNeg), o1.2)
            else none
          else
            if a2 = 4 then
              bif inB a1 9 then
                some ((o1.2.1 56 0 a1.toNatClampNeg), o1.2)
              else none
            else
              if a2 = 5 then
                (fX7_tough a0 a1 o1.2).bind fun o3 =>
                some (o3.1, o3.2)
              else
                (fX7_no a0 (-1002) o1.2).bind fun o2 =>
                some (o2.1, o2.2)
  else
    (fX7_no a0 (-1002) o1.2).bind fun o4 =>
    some (o4.1, o4.2)
theorem fX7_bottleOf_ex : ∃ f : Nat → Int32 → Int32 → MM → Option (Int32 × MM), f = fX7_bottleOf_b := ⟨_, rfl⟩
noncomputable def fX7_bottleOf : Nat → Int32 → Int32 → MM → Option (Int32 × MM) := Classical.choose fX7_bottleOf_ex
theorem fX7_bottleOf_eq : fX7_bottleOf = fX7_bottleOf_b := Classical.choose_spec fX7_bottleOf_ex
noncomputable def fX7_forHim_b4 (a0 : Nat) (a1 : Int32) (s : Int32 × Int32) (m : MM) : Option (((Int32 × Int32) ⊕ (Int32)) × MM) :=
  if (m.1 7 a0 4) ≤ s.2 then
    some (Sum.inr s.1, m)
  else
    bif inB s.2 9 then
      if ¬ (m.1 55 0 s.2.toNatClampNeg) = a1 then
        some (Sum.inl (s.1, (s.2 + 1)), m)
      else
        some (Sum.inl ((s.1 ||| (1 <<< (s.2 &&& 31))), (s.2 + 1)), m)
    else none
noncomputable def fX7_forHim_b (a0 : Nat) (a1 : Int32) (m : MM) : Option (Int32 × MM) :=
  (loopF 1000 (fX7_forHim_b4 a0 a1) (0, 0) m).bind fun o1 =>
  some (o1.1, o1.2)
theorem fX7_forHim_ex : ∃ f : Nat → Int32 → MM → Option (Int32 × MM), f = fX7_forHim_b := ⟨_, rfl⟩
noncomputable def fX7_forHim : Nat → Int32 → MM → Option (Int32 × MM) := Classical.choose fX7_forHim_ex
theorem fX7_forHim_eq : fX7_forHim = fX7_forHim_b := Classical.choose_spec fX7_forHim_ex
noncomputable def fX7_walkerOf_b (a0 : Nat) (a1 : Int32) (a2 : Int32) (m : MM) : Option (Int32 × MM) :=
  (fX7_isWalker a0 a1 m).bind fun o1 =>
  if (bI o1.1) = 0 then
    (fX7_no a0 (-1002) o1.2).bind fun o2 =>
    some (o2.1, o2.2)
  else
    (fX7_within a2 0 3 o1.2).bind fun o3 =>
    if ¬ (bI o3.1) = 0 then
      if ¬ a2 = 3 then
        bif inB ((6 * a2) + a1) 18 then
          some ((o3.2.1 57 0 ((6 * a2) + a1).toNatClampNeg), o3.2)
        else none
      else
        (fX7_forHim a0 a1 o3.2).bind fun o4 =>
        some (o4.1, o4.2)
    else
      (fX7_no a0 (-1002) o3.2).bind fun o5 =>
      some (o5.1, o5.2)
theorem fX7_walkerOf_ex : ∃ f : Nat → Int32 → Int32 → MM → Option (Int32 × MM), f = fX7_walkerOf_b := ⟨_, rfl⟩
noncomputable def fX7_walkerOf : Nat → Int32 → Int32 → MM → Option (Int32 × MM) := Classical.choose fX7_walkerOf_ex
theorem fX7_walkerOf_eq : fX7_walkerOf = fX7_walkerOf_b := Classical.choose_spec fX7_walkerOf_ex
noncomputable def fX7_currentAt_b (a0 : Nat) (a1 : Int32) (m : MM) : Option (Int32 × MM) :=
  (fX7_isCell a0 a1 m).bind fun o1 =>
  if (bI o1.1) = 0 then
    (fX7_no a0 (-1002) o1.2).bind fun o2 =>
    some (o2.1, o2.2)
  else
    bif inB a1 30 then
      some ((o1.2.1 50 0 a1.toNatClampNeg), o1.2)
    else none
theorem fX7_currentAt_ex : ∃ f : Nat → Int32 → MM → Option (Int32 × MM), f = fX7_currentAt_b := ⟨_, rfl⟩
noncomputable def fX7_currentAt : Nat → Int32 → MM → Option (Int32 × MM) := Classical.choose fX7_currentAt_ex
theorem fX7_currentAt_eq : fX7_currentAt = fX7_currentAt_b := Classical.choose_spec fX7_currentAt_ex
noncomputable def fX7_drifts_b (a0 : Nat) (a1 : Int32) (m : MM) : Option (Unit × MM) :=
  bif inB a1 9 then
    if (m.1 56 0 a1.toNatClampNeg) = 0 then
      (fX7_drift a0 a1 m).bind fun o1 =>
      (fX7_tough a0 a1 o1.2).bind fun o2 =>
      if (abI o1.1) ≤ o2.1 then
        bif inB a1 9 then
          bif inB a1 9 then
            some ((), ((upI o2.2.1 54 0 a1.toNatClampNeg (mxI 0 (mnI ((o2.2.1 7 a0 0) - 1) ((o2.2.1 54 0 a1.toNatClampNeg) + o1.1)))), o2.2.2))
          else none
        else none
      else
        bif inB a1 9 then
          some ((), ((upI o2.2.1 56 0 a1.toNatClampNeg 2), o2.2.2))
        else none
    else
      some ((), m)
  else none
theorem fX7_drifts_ex : ∃ f : Nat → Int32 → MM → Option (Unit × MM), f = fX7_drifts_b := ⟨_, rfl⟩
noncomputable def fX7_drifts : Nat → Int32 → MM → Option (Unit × MM) := Classical.choose fX7_drifts_ex
theorem fX7_drifts_eq : fX7_drifts = fX7_drifts_b := Classical.choose_spec fX7_drifts_ex
noncomputable def fX7_steps_j38 (a0 : Nat) (a1 : Int32) (a2 : Int32) (z0 : Int32) (z1 : Int32) (m : MM) : Option (((Int32) ⊕ (Unit)) × MM) :=
  (fX7_isCell a0 (z0 + z1) m).bind fun o1 =>
  if ¬ (bI o1.1) = 0 then
    bif inB a1 18 then
      some (Sum.inl (a2 + 1), ((upI o1.2.1 57 0 a1.toNatClampNeg (z0 + z1)), o1.2.2))
    else none
  else
    bif inB (12 + a1) 18 then
      bif inB (12 + a1) 18 then
        bif inB a1 18 then
          bif inB (12 + a1) 18 then
            if ¬ ((upI o1.2.1 57 0 (12 + a1).toNatClampNeg (1 - (o1.2.1 57 0 (12 + a1).toNatClampNeg))) 57 0 (12 + a1).toNatClampNeg) = 0 then
              bif inB a1 18 then
                some (Sum.inl (a2 + 1), ((upI (upI o1.2.1 57 0 (12 + a1).toNatClampNeg (1 - (o1.2.1 57 0 (12 + a1).toNatClampNeg))) 57 0 a1.toNatClampNeg (((upI o1.2.1 57 0 (12 + a1).toNatClampNeg (1 - (o1.2.1 57 0 (12 + a1).toNatClampNeg))) 57 0 a1.toNatClampNeg) + (-1))), o1.2.2))
              else none
            else
              bif inB a1 18 then
                some (Sum.inl (a2 + 1), ((upI (upI o1.2.1 57 0 (12 + a1).toNatClampNeg (1 - (o1.2.1 57 0 (12 + a1).toNatClampNeg))) 57 0 a1.toNatClampNeg (((upI o1.2.1 57 0 (12 + a1).toNatClampNeg (1 - (o1.2.1 57 0 (12 + a1).toNatClampNeg))) 57 0 a1.toNatClampNeg) + 1)), o1.2.2))
              else none
          else none
        else none
      else none
    else none
noncomputable def fX7_steps_b2 (a0 : Nat) (a1 : Int32) (s : Int32) (m : MM) : Option (((Int32) ⊕ (Unit)) × MM) :=
  bif inB (6 + a1) 18 then
    if (m.1 57 0 (6 + a1).toNatClampNeg) ≤ s then
      some (Sum.inr (), m)
    else
      bif inB a1 18 then
        bif inB (12 + a1) 18 then
          if ¬ (m.1 57 0 (12 + a1).toNatClampNeg) = 0 then
            fX7_steps_j38 a0 a1 s (m.1 57 0 a1.toNatClampNeg) (-1) m
          else
            fX7_steps_j38 a0 a1 s (m.1 57 0 a1.toNatClampNeg) 1 m
        else none
      else none
  else none
noncomputable def fX7_steps_b (a0 : Nat) (a1 : Int32) (m : MM) : Option (Unit × MM) :=
  (loopF 1000 (fX7_steps_b2 a0 a1) 0 m).bind fun o2 =>
  some ((), o2.2)
theorem fX7_steps_ex : ∃ f : Nat → Int32 → MM → Option (Unit × MM), f = fX7_steps_b := ⟨_, rfl⟩
noncomputable def fX7_steps : Nat → Int32 → MM → Option (Unit × MM) := Classical.choose fX7_steps_ex
theorem fX7_steps_eq : fX7_steps = fX7_steps_b := Classical.choose_spec fX7_steps_ex
noncomputable def fX7_passes_b4 (a0 : Nat) (a1 : Int32) (a2 : Int32) (s : Int32) (m : MM) : Option (((Int32) ⊕ (Unit)) × MM) :=
  if a1 ≤ s then
    some (Sum.inr (), m)
  else
    (fX7_drifts a0 s m).bind fun o1 =>
    some (Sum.inl (s + 1), o1.2)
noncomputable def fX7_passes_b22 (a0 : Nat) (a1 : Int32) (a2 : Int32) (s : Int32) (m : MM) : Option (((Int32) ⊕ (Unit)) × MM) :=
  if (m.1 7 a0 10) ≤ s then
    some (Sum.inr (), m)
  else
    (fX7_steps a0 s m).bind fun o3 =>
    some (Sum.inl (s + 1), o3.2)
noncomputable def fX7_passes_b43 (a0 : Nat) (a1 : Int32) (s : Int32 × Int32) (m : MM) : Option (((Int32 × Int32) ⊕ (Int32)) × MM) :=
  if a1 ≤ s.2 then
    some (Sum.inr s.1, m)
  else
    bif inB s.2 9 then
      if ¬ (m.1 56 0 s.2.toNatClampNeg) = 0 then
        some (Sum.inl (s.1, (s.2 + 1)), m)
      else
        bif inB s.2 9 then
          if (m.1 55 0 s.2.toNatClampNeg) = (-1) then
            some (Sum.inl (s.1, (s.2 + 1)), m)
          else
            bif inB s.2 9 then
              bif inB s.2 9 then
                bif inB (m.1 55 0 s.2.toNatClampNeg) 18 then
                  if (m.1 54 0 s.2.toNatClampNeg) = (m.1 57 0 (m.1 55 0 s.2.toNatClampNeg).toNatClampNeg) then
                    bif inB s.2 9 then
                      some (Sum.inl ((s.1 + 1), (s.2 + 1)), ((upI m.1 56 0 s.2.toNatClampNeg 1), m.2))
                    else none
                  else
                    some (Sum.inl (s.1, (s.2 + 1)), m)
                else none
              else none
            else none
        else none
    else none
noncomputable def fX7_passes_b (a0 : Nat) (a1 : Int32) (m : MM) : Option (Int32 × MM) :=
  (loopF 1000 (fX7_passes_b4 a0 a1 0) 0 m).bind fun o2 =>
  (loopF 1000 (fX7_passes_b22 a0 a1 0) 0 o2.2).bind fun o4 =>
  (loopF 1000 (fX7_passes_b43 a0 a1) (0, 0) o4.2).bind fun o5 =>
  bif inB 1 2 then
    if 999 ≤ (o5.2.1 51 0 (1 : Int32).toNatClampNeg) then
      some (o5.1, o5.2)
    else
      bif inB 1 2 then
        bif inB 1 2 then
          some (o5.1, ((upI o5.2.1 51 0 (1 : Int32).toNatClampNeg ((o5.2.1 51 0 (1 : Int32).toNatClampNeg) + 1)), o5.2.2))
        else none
      else none
  else none
theorem fX7_passes_ex : ∃ f : Nat → Int32 → MM → Option (Int32 × MM), f = fX7_passes_b := ⟨_, rfl⟩
noncomputable def fX7_passes : Nat → Int32 → MM → Option (Int32 × MM) := Classical.choose fX7_passes_ex
theorem fX7_passes_eq : fX7_passes = fX7_passes_b := Classical.choose_spec fX7_passes_ex
noncomputable def fX7_goesOn_b4 (a0 : Nat) (a1 : Int32) (s : Int32 × Int32) (m : MM) : Option (((Int32 × Int32) ⊕ (Int32)) × MM) :=
  if a1 ≤ s.2 then
    some (Sum.inr s.1, m)
  else
    (fX7_passes a0 (m.1 7 a0 4) m).bind fun o1 =>
    some (Sum.inl ((s.1 + o1.1), (s.2 + 1)), o1.2)
noncomputable def fX7_goesOn_b (a0 : Nat) (a1 : Int32) (m : MM) : Option (Int32 × MM) :=
  (loopF 1000 (fX7_goesOn_b4 a0 a1) (0, 0) m).bind fun o2 =>
  some (o2.1, o2.2)
theorem fX7_goesOn_ex : ∃ f : Nat → Int32 → MM → Option (Int32 × MM), f = fX7_goesOn_b := ⟨_, rfl⟩
noncomputable def fX7_goesOn : Nat → Int32 → MM → Option (Int32 × MM) := Classical.choose fX7_goesOn_ex
theorem fX7_goesOn_eq : fX7_goesOn = fX7_goesOn_b := Classical.choose_spec fX7_goesOn_ex
noncomputable def fX7_ahead_b (a0 : Nat) (a1 : Int32) (a2 : Int32) (a3 : Int32) (m : MM) : Option (Int32 × MM) :=
  (fX7_isBottle a0 a1 m).bind fun o1 =>
  if (bI o1.1) = 0 then
    (fX7_no a0 (-1002) o1.2).bind fun o2 =>
    some (o2.1, o2.2)
  else
    (fX7_isTime a2 o1.2).bind fun o3 =>
    if (bI o3.1) = 0 then
      (fX7_no a0 (-1002) o3.2).bind fun o4 =>
      some (o4.1, o4.2)
    else
      (fX7_within a3 0 1 o3.2).bind fun o5 =>
      if ¬ (bI o5.1) = 0 then
        (fX7_keep a0 2 o5.2).bind fun o6 =>
        (fX7_goesOn a0 a2 o6.2).bind fun o7 =>
        if ¬ a3 = 0 then
          bif inB a1 9 then
            (fX7_again a0 2 o7.2).bind fun o8 =>
            some ((o7.2.1 56 0 a1.toNatClampNeg), o8.2)
          else none
        else
          bif inB a1 9 then
            (fX7_again a0 2 o7.2).bind fun o9 =>
            some ((o7.2.1 54 0 a1.toNatClampNeg), o9.2)
          else none
      else
        (fX7_no a0 (-1002) o5.2).bind fun o10 =>
        some (o10.1, o10.2)
theorem fX7_ahead_ex : ∃ f : Nat → Int32 → Int32 → Int32 → MM → Option (Int32 × MM), f = fX7_ahead_b := ⟨_, rfl⟩
noncomputable def fX7_ahead : Nat → Int32 → Int32 → Int32 → MM → Option (Int32 × MM) := Classical.choose fX7_ahead_ex
theorem fX7_ahead_eq : fX7_ahead = fX7_ahead_b := Classical.choose_spec fX7_ahead_ex
noncomputable def fX7_walks_b (a0 : Nat) (a1 : Int32) (a2 : Int32) (m : MM) : Option (Int32 × MM) :=
  (fX7_isWalker a0 a1 m).bind fun o1 =>
  if (bI o1.1) = 0 then
    (fX7_no a0 (-1002) o1.2).bind fun o2 =>
    some (o2.1, o2.2)
  else
    (fX7_isTime a2 o1.2).bind fun o3 =>
    if ¬ (bI o3.1) = 0 then
      (fX7_keep a0 2 o3.2).bind fun o4 =>
      (fX7_goesOn a0 a2 o4.2).bind fun o5 =>
      bif inB a1 18 then
        (fX7_again a0 2 o5.2).bind fun o6 =>
        some ((o5.2.1 57 0 a1.toNatClampNeg), o6.2)
      else none
    else
      (fX7_no a0 (-1002) o3.2).bind fun o7 =>
      some (o7.1, o7.2)
theorem fX7_walks_ex : ∃ f : Nat → Int32 → Int32 → MM → Option (Int32 × MM), f = fX7_walks_b := ⟨_, rfl⟩
noncomputable def fX7_walks : Nat → Int32 → Int32 → MM → Option (Int32 × MM) := Classical.choose fX7_walks_ex
theorem fX7_walks_eq : fX7_walks = fX7_walks_b := Classical.choose_spec fX7_walks_ex
noncomputable def fX7_found_b (a0 : Nat) (a1 : Int32) (m : MM) : Option (Int32 × MM) :=
  (fX7_isTime a1 m).bind fun o1 =>
  if ¬ (bI o1.1) = 0 then
    (fX7_keep a0 2 o1.2).bind fun o2 =>
    (fX7_goesOn a0 a1 o2.2).bind fun o3 =>
    (fX7_again a0 2 o3.2).bind fun o4 =>
    some (o3.1, o4.2)
  else
    (fX7_no a0 (-1002) o1.2).bind fun o5 =>
    some (o5.1, o5.2)
theorem fX7_found_ex : ∃ f : Nat → Int32 → MM → Option (Int32 × MM), f = fX7_found_b := ⟨_, rfl⟩
noncomputable def fX7_found : Nat → Int32 → MM → Option (Int32 × MM) := Classical.choose fX7_found_ex
theorem fX7_found_eq : fX7_found = fX7_found_b := Classical.choose_spec fX7_found_ex
noncomputable def fX7_whenSo_b14 (a0 : Nat) (a1 : Int32) (a2 : Int32) (a3 : Int32) (s : Int32 × Int32) (m : MM) : Option (((Int32 × Int32) ⊕ (Int32)) × MM) :=
  if 60 < s.2 then
    some (Sum.inr s.1, m)
  else
    if ¬ s.1 = (-1) then
      some (Sum.inr s.1, m)
    else
      if s.2 ≤ 0 then
        bif inB a1 9 then
          if ¬ (m.1 56 0 a1.toNatClampNeg) = a2 then
            some (Sum.inl (s.1, (s.2 + 1)), m)
          else
            some (Sum.inl (s.2, (s.2 + 1)), m)
        else none
      else
        (fX7_passes a0 a3 m).bind fun o2 =>
        bif inB a1 9 then
          if ¬ (o2.2.1 56 0 a1.toNatClampNeg) = a2 then
            some (Sum.inl (s.1, (s.2 + 1)), o2.2)
          else
            some (Sum.inl (s.2, (s.2 + 1)), o2.2)
        else none
noncomputable def fX7_whenSo_b (a0 : Nat) (a1 : Int32) (a2 : Int32) (a3 : Int32) (m : MM) : Option (Int32 × MM) :=
  (fX7_keep a0 2 m).bind fun o1 =>
  (loopF 1000 (fX7_whenSo_b14 a0 a1 a2 a3) ((-1), 0) o1.2).bind fun o3 =>
  (fX7_again a0 2 o3.2).bind fun o4 =>
  some (o3.1, o4.2)
theorem fX7_whenSo_ex : ∃ f : Nat → Int32 → Int32 → Int32 → MM → Option (Int32 × MM), f = fX7_whenSo_b := ⟨_, rfl⟩
noncomputable def fX7_whenSo : Nat → Int32 → Int32 → Int32 → MM → Option (Int32 × MM) := Classical.choose fX7_whenSo_ex
theorem fX7_whenSo_eq : fX7_whenSo = fX7_whenSo_b := Classical.choose_spec fX7_whenSo_ex
noncomputable def fX7_when_b (a0 : Nat) (a1 : Int32) (m : MM) : Option (Int32 × MM) :=
  (fX7_isBottle a0 a1 m).bind fun o1 =>
  if (bI o1.1) = 0 then
    (fX7_no a0 (-1002) o1.2).bind fun o2 =>
    some (o2.1, o2.2)
  else
    (fX7_whenSo a0 a1 1 (o1.2.1 7 a0 4) o1.2).bind fun o3 =>
    some (o3.1, o3.2)
theorem fX7_when_ex : ∃ f : Nat → Int32 → MM → Option (Int32 × MM), f = fX7_when_b := ⟨_, rfl⟩
noncomputable def fX7_when : Nat → Int32 → MM → Option (Int32 × MM) := Classical.choose fX7_when_ex
theorem fX7_when_eq : fX7_when = fX7_when_b := Classical.choose_spec fX7_when_ex
noncomputable def fX7_breaks_b (a0 : Nat) (a1 : Int32) (m : MM) : Option (Int32 × MM) :=
  (fX7_isBottle a0 a1 m).bind fun o1 =>
  if (bI o1.1) = 0 then
    (fX7_no a0 (-1002) o1.2).bind fun o2 =>
    some (o2.1, o2.2)
  else
    (fX7_whenSo a0 a1 2 (o1.2.1 7 a0 4) o1.2).bind fun o3 =>
    some (o3.1, o3.2)
theorem fX7_breaks_ex : ∃ f : Nat → Int32 → MM → Option (Int32 × MM), f = fX7_breaks_b := ⟨_, rfl⟩
noncomputable def fX7_breaks : Nat → Int32 → MM → Option (Int32 × MM) := Classical.choose fX7_breaks_ex
theorem fX7_breaks_eq : fX7_breaks = fX7_breaks_b := Classical.choose_spec fX7_breaks_ex
noncomputable def fX7_meet_b20 (a0 : Nat) (a1 : Int32) (a2 : Int32) (s : Int32 × Int32) (m : MM) : Option (((Int32 × Int32) ⊕ (Int32)) × MM) :=
  if 60 < s.2 then
    some (Sum.inr s.1, m)
  else
    if ¬ s.1 = (-1) then
      some (Sum.inr s.1, m)
    else
      (fX7_passes a0 (m.1 7 a0 4) m).bind fun o2 =>
      bif inB a1 9 then
        if ¬ (o2.2.1 56 0 a1.toNatClampNeg) = 0 then
          some (Sum.inl (s.1, (s.2 + 1)), o2.2)
        else
          bif inB a1 9 then
            bif inB a2 18 then
              if ¬ (o2.2.1 54 0 a1.toNatClampNeg) = (o2.2.1 57 0 a2.toNatClampNeg) then
                some (Sum.inl (s.1, (s.2 + 1)), o2.2)
              else
                some (Sum.inl (s.2, (s.2 + 1)), o2.2)
            else none
          else none
      else none
noncomputable def fX7_meet_b (a0 : Nat) (a1 : Int32) (a2 : Int32) (m : MM) : Option (Int32 × MM) :=
  (fX7_keep a0 2 m).bind fun o1 =>
  bif inB a1 9 then
    (loopF 1000 (fX7_meet_b20 a0 a1 a2) ((-1), 1) ((upI o1.2.1 55 0 a1.toNatClampNeg (-1)), o1.2.2)).bind fun o3 =>
    (fX7_again a0 2 o3.2).bind fun o4 =>
    some (o3.1, o4.2)
  else none
theorem fX7_meet_ex : ∃ f : Nat → Int32 → Int32 → MM → Option (Int32 × MM), f = fX7_meet_b := ⟨_, rfl⟩
noncomputable def fX7_meet : Nat → Int32 → Int32 → MM → Option (Int32 × MM) := Classical.choose fX7_meet_ex
theorem fX7_meet_eq : fX7_meet = fX7_meet_b := Classical.choose_spec fX7_meet_ex
noncomputable def fX7_meets_b (a0 : Nat) (a1 : Int32) (a2 : Int32) (m : MM) : Option (Int32 × MM) :=
  (fX7_isBottle a0 a1 m).bind fun o1 =>
  if (bI o1.1) = 0 then
    (fX7_no a0 (-1002) o1.2).bind fun o2 =>
    some (o2.1, o2.2)
  else
    (fX7_isWalker a0 a2 o1.2).bind fun o3 =>
    if (bI o3.1) = 0 then
      (fX7_no a0 (-1002) o3.2).bind fun o4 =>
      some (o4.1, o4.2)
    else
      (fX7_meet a0 a1 a2 o3.2).bind fun o5 =>
      some (o5.1, o5.2)
theorem fX7_meets_ex : ∃ f : Nat → Int32 → Int32 → MM → Option (Int32 × MM), f = fX7_meets_b := ⟨_, rfl⟩
noncomputable def fX7_meets : Nat → Int32 → Int32 → MM → Option (Int32 × MM) := Classical.choose fX7_meets_ex
theorem fX7_meets_eq : fX7_meets = fX7_meets_b := Classical.choose_spec fX7_meets_ex
noncomputable def fX7_finder_b20 (a0 : Nat) (a1 : Int32) (s : Int32 × Int32) (m : MM) : Option (((Int32 × Int32) ⊕ (Int32)) × MM) :=
  if (m.1 7 a0 10) ≤ s.2 then
    some (Sum.inr s.1, m)
  else
    (fX7_meet a0 a1 s.2 m).bind fun o2 =>
    if o2.1 = (-1) then
      some (Sum.inl (s.1, (s.2 + 1)), o2.2)
    else
      if s.1 = (-1) then
        some (Sum.inl (s.2, (s.2 + 1)), o2.2)
      else
        (fX7_meet a0 a1 s.1 o2.2).bind fun o3 =>
        if o3.1 ≤ o2.1 then
          some (Sum.inl (s.1, (s.2 + 1)), o3.2)
        else
          some (Sum.inl (s.2, (s.2 + 1)), o3.2)
noncomputable def fX7_finder_b (a0 : Nat) (a1 : Int32) (m : MM) : Option (Int32 × MM) :=
  (fX7_isBottle a0 a1 m).bind fun o1 =>
  if ¬ (bI o1.1) = 0 then
    (loopF 1000 (fX7_finder_b20 a0 a1) ((-1), 0) o1.2).bind fun o4 =>
    some (o4.1, o4.2)
  else
    (fX7_no a0 (-1002) o1.2).bind fun o5 =>
    some (o5.1, o5.2)
theorem fX7_finder_ex : ∃ f : Nat → Int32 → MM → Option (Int32 × MM), f = fX7_finder_b := ⟨_, rfl⟩
noncomputable def fX7_finder : Nat → Int32 → MM → Option (Int32 × MM) := Classical.choose fX7_finder_ex
theorem fX7_finder_eq : fX7_finder = fX7_finder_b := Classical.choose_spec fX7_finder_ex
noncomputable def fX7_two_b42 (a0 : Nat) (a1 : Int32) (a2 : Int32) (s : Int32 × Int32) (m : MM) : Option (((Int32 × Int32) ⊕ (Int32)) × MM) :=
  if 60 < s.2 then
    some (Sum.inr s.1, m)
  else
    if ¬ s.1 = (-1) then
      some (Sum.inr s.1, m)
    else
      if s.2 ≤ 0 then
        bif inB a1 18 then
          bif inB a2 18 then
            if ¬ (m.1 57 0 a1.toNatClampNeg) = (m.1 57 0 a2.toNatClampNeg) then
              some (Sum.inl (s.1, (s.2 + 1)), m)
            else
              some (Sum.inl (s.2, (s.2 + 1)), m)
          else none
        else none
      else
        (fX7_passes a0 0 m).bind fun o6 =>
        bif inB a1 18 then
          bif inB a2 18 then
            if ¬ (o6.2.1 57 0 a1.toNatClampNeg) = (o6.2.1 57 0 a2.toNatClampNeg) then
              some (Sum.inl (s.1, (s.2 + 1)), o6.2)
            else
              some (Sum.inl (s.2, (s.2 + 1)), o6.2)
          else none
        else none
noncomputable def fX7_two_b (a0 : Nat) (a1 : Int32) (a2 : Int32) (m : MM) : Option (Int32 × MM) :=
  (fX7_isWalker a0 a1 m).bind fun o1 =>
  if (bI o1.1) = 0 then
    (fX7_no a0 (-1002) o1.2).bind fun o2 =>
    some (o2.1, o2.2)
  else
    (fX7_isWalker a0 a2 o1.2).bind fun o3 =>
    if (bI o3.1) = 0 then
      (fX7_no a0 (-1002) o3.2).bind fun o4 =>
      some (o4.1, o4.2)
    else
      if ¬ a1 = a2 then
        (fX7_keep a0 2 o3.2).bind fun o5 =>
        (loopF 1000 (fX7_two_b42 a0 a1 a2) ((-1), 0) o5.2).bind fun o7 =>
        (fX7_again a0 2 o7.2).bind fun o8 =>
        some (o7.1, o8.2)
      else
        (fX7_no a0 (-1002) o3.2).bind fun o9 =>
        some (o9.1, o9.2)
theorem fX7_two_ex : ∃ f : Nat → Int32 → Int32 → MM → Option (Int32 × MM), f = fX7_two_b := ⟨_, rfl⟩
noncomputable def fX7_two : Nat → Int32 → Int32 → MM → Option (Int32 × MM) := Classical.choose fX7_two_ex
theorem fX7_two_eq : fX7_two = fX7_two_b := Classical.choose_spec fX7_two_ex
noncomputable def fX7_whenThrown_b (a0 : Nat) (a1 : Int32) (a2 : Int32) (a3 : Int32) (a4 : Int32) (m : MM) : Option (Int32 × MM) :=
  (fX7_becomes a0 8 a1 a2 a3 a4 m).bind fun o1 =>
  (fX7_whenSo a0 8 1 9 o1.2).bind fun o2 =>
  some (o2.1, o2.2)
theorem fX7_whenThrown_ex : ∃ f : Nat → Int32 → Int32 → Int32 → Int32 → MM → Option (Int32 × MM), f = fX7_whenThrown_b := ⟨_, rfl⟩
noncomputable def fX7_whenThrown : Nat → Int32 → Int32 → Int32 → Int32 → MM → Option (Int32 × MM) := Classical.choose fX7_whenThrown_ex
theorem fX7_whenThrown_eq : fX7_whenThrown = fX7_whenThrown_b := Classical.choose_spec fX7_whenThrown_ex
noncomputable def fX7_aim_b44 (a0 : Nat) (a1 : Int32) (a2 : Int32) (a3 : Int32) (a4 : Int32) (s : Int32 × Int32 × Int32) (m : MM) : Option (((Int32 × Int32 × Int32) ⊕ (Int32 × Int32)) × MM) :=
  if (m.1 7 a0 0) ≤ s.2.2 then
    some (Sum.inr (s.1, s.2.1), m)
  else
    (fX7_whenThrown a0 a1 a2 s.2.2 a3 m).bind fun o6 =>
    if o6.1 = (-1) then
      some (Sum.inl (s.1, s.2.1, (s.2.2 + 1)), o6.2)
    else
      if o6.1 < s.2.1 then
        some (Sum.inl (s.2.2, o6.1, (s.2.2 + 1)), o6.2)
      else
        some (Sum.inl (s.1, s.2.1, (s.2.2 + 1)), o6.2)
noncomputable def fX7_aim_b (a0 : Nat) (a1 : Int32) (a2 : Int32) (a3 : Int32) (a4 : Int32) (m : MM) : Option (Int32 × MM) :=
  (fX7_isSuch a1 a2 m).bind fun o1 =>
  if (bI o1.1) = 0 then
    (fX7_no a0 (-1002) o1.2).bind fun o2 =>
    some (o2.1, o2.2)
  else
    (fX7_isWalker a0 a3 o1.2).bind fun o3 =>
    if (bI o3.1) = 0 then
      (fX7_no a0 (-1002) o3.2).bind fun o4 =>
      some (o4.1, o4.2)
    else
      (fX7_within a4 0 1 o3.2).bind fun o5 =>
      if ¬ (bI o5.1) = 0 then
        (loopF 1000 (fX7_aim_b44 a0 a1 a2 a3 a4) ((-1), 61, 0) o5.2).bind fun o7 =>
        if a4 = 0 then
          some (o7.1.1, o7.2)
        else
          if ¬ o7.1.1 = (-1) then
            some (o7.1.2, o7.2)
          else
            some (o7.1.1, o7.2)
      else
        (fX7_no a0 (-1002) o5.2).bind fun o8 =>
        some (o8.1, o8.2)
theorem fX7_aim_ex : ∃ f : Nat → Int32 → Int32 → Int32 → Int32 → MM → Option (Int32 × MM), f = fX7_aim_b := ⟨_, rfl⟩
noncomputable def fX7_aim : Nat → Int32 → Int32 → Int32 → Int32 → MM → Option (Int32 × MM) := Classical.choose fX7_aim_ex
theorem fX7_aim_eq : fX7_aim = fX7_aim_b := Classical.choose_spec fX7_aim_ex
noncomputable def fX7_foundFor_b16 (a0 : Nat) (a1 : Int32) (a2 : Int32) (a4 : Int32) (s : Int32 × Int32) (m : MM) : Option (((Int32 × Int32) ⊕ (Int32)) × MM) :=
  if (m.1 7 a0 4) ≤ s.2 then
    some (Sum.inr s.1, m)
  else
    bif inB s.2 9 then
      if ¬ (m.1 55 0 s.2.toNatClampNeg) = a1 then
        some (Sum.inl (s.1, (s.2 + 1)), m)
      else
        bif inB s.2 9 then
          if ¬ (m.1 56 0 s.2.toNatClampNeg) = 1 then
            some (Sum.inl (s.1, (s.2 + 1)), m)
          else
            some (Sum.inl ((s.1 + 1), (s.2 + 1)), m)
        else none
    else none
noncomputable def fX7_foundFor_b65 (a0 : Nat) (a1 : Int32) (a3 : Int32) (s : Int32 × Int32) (m : MM) : Option (((Int32 × Int32) ⊕ (Int32)) × MM) :=
  if (m.1 7 a0 4) ≤ s.2 then
    some (Sum.inr s.1, m)
  else
    bif inB s.2 9 then
      if ¬ (m.1 55 0 s.2.toNatClampNeg) = a1 then
        some (Sum.inl (s.1, (s.2 + 1)), m)
      else
        bif inB s.2 9 then
          if ¬ (m.1 56 0 s.2.toNatClampNeg) = 1 then
            some (Sum.inl (s.1, (s.2 + 1)), m)
          else
            some (Sum.inl ((s.1 + 1), (s.2 + 1)), m)
        else none
    else none
noncomputable def fX7_foundFor_b (a0 : Nat) (a1 : Int32) (a2 : Int32) (m : MM) : Option (Int32 × MM) :=
  (fX7_keep a0 2 m).bind fun o1 =>
  (loopF 1000 (fX7_foundFor_b16 a0 a1 a2 0) (0, 0) o1.2).bind fun o2 =>
  (fX7_goesOn a0 a2 o2.2).bind fun o3 =>
  (loopF 1000 (fX7_foundFor_b65 a0 a1 o2.1) (0, 0) o3.2).bind fun o4 =>
  (fX7_again a0 2 o4.2).bind fun o5 =>
  some ((o4.1 - o2.1), o5.2)
theorem fX7_foundFor_ex : ∃ f : Nat → Int32 → Int32 → MM → Option (Int32 × MM), f = fX7_foundFor_b := ⟨_, rfl⟩
noncomputable def fX7_foundFor : Nat → Int32 → Int32 → MM → Option (Int32 × MM) := Classical.choose fX7_foundFor_ex
theorem fX7_foundFor_eq : fX7_foundFor = fX7_foundFor_b := Classical.choose_spec fX7_foundFor_ex
noncomputable def fX7_walk_b66 (a0 : Nat) (a1 : Int32) (a2 : Int32) (a3 : Int32) (a4 : Int32) (a5 : Int32) (s : Int32 × Int32 × Int32) (m : MM) : Option (((Int32 × Int32 × Int32) ⊕ (Int32 × Int32)) × MM) :=
  if 8 ≤ s.2.2 then
    some (Sum.inr (s.1, s.2.1), m)
  else
    bif inB (6 + a1) 18 then
      bif inB (12 + a1) 18 then
        (fX7_foundFor a0 a1 a2 ((upI (upI m.1 57 0 (6 + a1).toNatClampNeg (s.2.2 / 2)) 57 0 (12 + a1).toNatClampNeg (s.2.2 - s.2.2 / 2 * 2)), m.2)).bind fun o6 =>
        if s.2.1 < o6.1 then
          some (Sum.inl (((10 * (s.2.2 / 2)) + (s.2.2 - s.2.2 / 2 * 2)), o6.1, (s.2.2 + 1)), o6.2)
        else
          some (Sum.inl (s.1, s.2.1, (s.2.2 + 1)), o6.2)
      else none
    else none
noncomputable def fX7_walk_b (a0 : Nat) (a1 : Int32) (a2 : Int32) (a3 : Int32) (m : MM) : Option (Int32 × MM) :=
  (fX7_isWalker a0 a1 m).bind fun o1 =>
  if (bI o1.1) = 0 then
    (fX7_no a0 (-1002) o1.2).bind fun o2 =>
    some (o2.1, o2.2)
  else
    (fX7_within a2 1 30 o1.2).bind fun o3 =>
    if (bI o3.1) = 0 then
      (fX7_no a0 (-1002) o3.2).bind fun o4 =>
      some (o4.1, o4.2)
    else
      (fX7_within a3 0 1 o3.2).bind fun o5 =>
      if ¬ (bI o5.1) = 0 then
        bif inB (6 + a1) 18 then
          bif inB (12 + a1) 18 then
            (loopF 1000 (fX7_walk_b66 a0 a1 a2 a3 (o5.2.1 57 0 (6 + a1).toNatClampNeg) (o5.2.1 57 0 (12 + a1).toNatClampNeg)) ((-1), (-1), 0) o5.2).bind fun o7 =>
            bif inB (6 + a1) 18 then
              bif inB (12 + a1) 18 then
                if ¬ a3 = 0 then
                  some (o7.1.2, ((upI (upI o7.2.1 57 0 (6 + a1).toNatClampNeg (o5.2.1 57 0 (6 + a1).toNatClampNeg)) 57 0 (12 + a1).toNatClampNeg (o5.2.1 57 0 (12 + a1).toNatClampNeg)), o7.2.2))
                else
                  some (o7.1.1, ((upI (upI o7.2.1 57 0 (6 + a1).toNatClampNeg (o5.2.1 57 0 (6 + a1).toNatClampNeg)) 57 0 (12 + a1).toNatClampNeg (o5.2.1 57 0 (12 + a1).toNatClampNeg)), o7.2.2))
              else none
            else none
          else none
        else none
      else
        (fX7_no a0 (-1002) o5.2).bind fun o8 =>
        some (o8.1, o8.2)
theorem fX7_walk_ex : ∃ f : Nat → Int32 → Int32 → Int32 → MM → Option (Int32 × MM), f = fX7_walk_b := ⟨_, rfl⟩
noncomputable def fX7_walk : Nat → Int32 → Int32 → Int32 → MM → Option (Int32 × MM) := Classical.choose fX7_walk_ex
theorem fX7_walk_eq : fX7_walk = fX7_walk_b := Classical.choose_spec fX7_walk_ex
noncomputable def fX7_toldAt_b (a0 : Nat) (a1 : Int32) (a2 : Int32) (m : MM) : Option (Int64 × MM) :=
  bif inB ((40 * a1) + a2) 320 then
    some ((m.2 21 0 ((40 * a1) + a2).toNatClampNeg), m)
  else none
theorem fX7_toldAt_ex : ∃ f : Nat → Int32 → Int32 → MM → Option (Int64 × MM), f = fX7_toldAt_b := ⟨_, rfl⟩
noncomputable def fX7_toldAt : Nat → Int32 → Int32 → MM → Option (Int64 × MM) := Classical.choose fX7_toldAt_ex
theorem fX7_toldAt_eq : fX7_toldAt = fX7_toldAt_b := Classical.choose_spec fX7_toldAt_ex
noncomputable def fX7_noTold_b (a0 : Nat) (a1 : Int32) (a2 : Int32) (m : MM) : Option (Int32 × MM) :=
  (fX7_isRow a0 a1 m).bind fun o1 =>
  if ¬ (bI o1.1) = 0 then
    bif inB a1 8 then
      if a2 ≤ (o1.2.1 60 0 a1.toNatClampNeg) then
        some (0, o1.2)
      else
        some ((-1002), o1.2)
    else none
  else
    (fX7_noRow a0 a1 o1.2).bind fun o2 =>
    some (o2.1, o2.2)
theorem fX7_noTold_ex : ∃ f : Nat → Int32 → Int32 → MM → Option (Int32 × MM), f = fX7_noTold_b := ⟨_, rfl⟩
noncomputable def fX7_noTold : Nat → Int32 → Int32 → MM → Option (Int32 × MM) := Classical.choose fX7_noTold_ex
theorem fX7_noTold_eq : fX7_noTold = fX7_noTold_b := Classical.choose_spec fX7_noTold_ex
noncomputable def fX7_goesSo_b74 (a0 : Nat) (a1 : Int32) (a2 : Int32) (a3 : Int32) (s : Int32 × Int32) (m : MM) : Option (((Int32 × Int32) ⊕ (Int32)) × MM) :=
  if a2 ≤ s.2 then
    some (Sum.inr s.1, m)
  else
    if s.1 = 0 then
      some (Sum.inr s.1, m)
    else
      (fX7_passes a0 (m.1 7 a0 4) m).bind fun o3 =>
      bif inB a3 9 then
        if ¬ (o3.2.1 56 0 a3.toNatClampNeg) = 0 then
          some (Sum.inl (0, (s.2 + 1)), o3.2)
        else
          bif inB a3 9 then
            (fX7_toldAt a0 a1 s.2 o3.2).bind fun o4 =>
            if ¬ (lg_cmp (o3.2.1 54 0 a3.toNatClampNeg).toInt64 o4.1) = 0 then
              some (Sum.inl (0, (s.2 + 1)), o4.2)
            else
              some (Sum.inl (1, (s.2 + 1)), o4.2)
          else none
      else none
noncomputable def fX7_goesSo_j71 (a0 : Nat) (a1 : Int32) (a2 : Int32) (a3 : Int32) (a4 : Int32) (m : MM) : Option (Bool × MM) :=
  (loopF 1000 (fX7_goesSo_b74 a0 a1 a2 a3) (a4, 1) m).bind fun o5 =>
  (fX7_again a0 2 o5.2).bind fun o6 =>
  if o5.1 = 0 then some (false, o6.2) else if o5.1 = 1 then some (true, o6.2) else none
noncomputable def fX7_goesSo_j39 (a0 : Nat) (a1 : Int32) (a2 : Int32) (a3 : Int32) (z0 : Int32) (m : MM) : Option (Bool × MM) :=
  if z0 = 0 then
    fX7_goesSo_j71 a0 a1 a2 a3 z0 m
  else
    bif inB a3 9 then
      bif inB a3 9 then
        (fX7_toldAt a0 a1 0 m).bind fun o7 =>
        (fX7_becomes a0 a3 (m.1 52 0 a3.toNatClampNeg) (m.1 53 0 a3.toNatClampNeg) o7.1.toInt32 (-1) o7.2).bind fun o8 =>
        fX7_goesSo_j71 a0 a1 a2 a3 z0 o8.2
      else none
    else none
noncomputable def fX7_goesSo_j38 (a0 : Nat) (a1 : Int32) (a2 : Int32) (a3 : Int32) (m : MM) : Option (Bool × MM) :=
  fX7_goesSo_j39 a0 a1 a2 a3 0 m
noncomputable def fX7_goesSo_b (a0 : Nat) (a1 : Int32) (a2 : Int32) (a3 : Int32) (m : MM) : Option (Bool × MM) :=
  (fX7_keep a0 2 m).bind fun o1 =>
  (fX7_toldAt a0 a1 0 o1.2).bind fun o2 =>
  if (lg_cmp o2.1 0) < 0 then
    fX7_goesSo_j38 a0 a1 a2 a3 o2.2
  else
    (fX7_toldAt a0 a1 0 o2.2).bind fun o9 =>
    if 0 ≤ (lg_cmp o9.1 (o9.2.1 7 a0 0).toInt64) then
      fX7_goesSo_j38 a0 a1 a2 a3 o9.2
    else
      fX7_goesSo_j39 a0 a1 a2 a3 1 o9.2
theorem fX7_goesSo_ex : ∃ f : Nat → Int32 → Int32 → Int32 → MM → Option (Bool × MM), f = fX7_goesSo_b := ⟨_, rfl⟩
noncomputable def fX7_goesSo : Nat → Int32 → Int32 → Int32 → MM → Option (Bool × MM) := Classical.choose fX7_goesSo_ex
theorem fX7_goesSo_eq : fX7_goesSo = fX7_goesSo_b := Classical.choose_spec fX7_goesSo_ex
noncomputable def fX7_fits_j104 (a0 : Nat) (a1 : Int32) (a2 : Int32) (a3 : Int32) (a4 : Int32) (a6 : Int32) (a7 : Int32) (a8 : Int32) (z0 : Int32) (z1 : Int32) (m : MM) : Option (((Int32 × Int32) ⊕ (Int32)) × MM) :=
  if z1 ≤ z0 then
    some (Sum.inr a7, m)
  else
    if ¬ a4 = 0 then
      bif inB a3 9 then
        (fX7_goesSo a0 a1 a2 a3 ((upI m.1 52 0 a3.toNatClampNeg a8), m.2)).bind fun o9 =>
        if (bI o9.1) = 0 then
          some (Sum.inl (a7, (a8 + 1)), o9.2)
        else
          some (Sum.inl ((a7 ||| (1 <<< (a8 &&& 31))), (a8 + 1)), o9.2)
      else none
    else
      bif inB 0 2 then
        (fX7_goesSo a0 a1 a2 a3 ((upI m.1 51 0 (0 : Int32).toNatClampNeg a8), m.2)).bind fun o10 =>
        if (bI o10.1) = 0 then
          some (Sum.inl (a7, (a8 + 1)), o10.2)
        else
          some (Sum.inl ((a7 ||| (1 <<< (a8 &&& 31))), (a8 + 1)), o10.2)
      else none
noncomputable def fX7_fits_b91 (a0 : Nat) (a1 : Int32) (a2 : Int32) (a3 : Int32) (a4 : Int32) (a6 : Int32) (s : Int32 × Int32) (m : MM) : Option (((Int32 × Int32) ⊕ (Int32)) × MM) :=
  if ¬ a4 = 0 then
    fX7_fits_j104 a0 a1 a2 a3 a4 a6 s.1 s.2 s.2 6 m
  else
    fX7_fits_j104 a0 a1 a2 a3 a4 a6 s.1 s.2 s.2 5 m
noncomputable def fX7_fits_j83 (a0 : Nat) (a1 : Int32) (a2 : Int32) (a3 : Int32) (a4 : Int32) (z0 : Int32) (m : MM) : Option (Int32 × MM) :=
  (loopF 1000 (fX7_fits_b91 a0 a1 a2 a3 a4 z0) (0, 0) m).bind fun o11 =>
  if ¬ a4 = 0 then
    bif inB a3 9 then
      some (o11.1, ((upI o11.2.1 52 0 a3.toNatClampNeg z0), o11.2.2))
    else none
  else
    bif inB 0 2 then
      some (o11.1, ((upI o11.2.1 51 0 (0 : Int32).toNatClampNeg z0), o11.2.2))
    else none
noncomputable def fX7_fits_b (a0 : Nat) (a1 : Int32) (a2 : Int32) (a3 : Int32) (a4 : Int32) (m : MM) : Option (Int32 × MM) :=
  (fX7_isShelf a1 m).bind fun o1 =>
  if (bI o1.1) = 0 then
    (fX7_no a0 (-1002) o1.2).bind fun o2 =>
    some (o2.1, o2.2)
  else
    (fX7_within a2 1 40 o1.2).bind fun o3 =>
    if (bI o3.1) = 0 then
      (fX7_no a0 (-1002) o3.2).bind fun o4 =>
      some (o4.1, o4.2)
    else
      (fX7_isBottle a0 a3 o3.2).bind fun o5 =>
      if (bI o5.1) = 0 then
        (fX7_no a0 (-1002) o5.2).bind fun o6 =>
        some (o6.1, o6.2)
      else
        (fX7_within a4 0 1 o5.2).bind fun o7 =>
        if ¬ (bI o7.1) = 0 then
          (fX7_noTold a0 a1 a2 o7.2).bind fun o8 =>
          if 0 ≤ o8.1 then
            if ¬ a4 = 0 then
              bif inB a3 9 then
                fX7_fits_j83 a0 a1 a2 a3 a4 (o8.2.1 52 0 a3.toNatClampNeg) o8.2
              else none
            else
              bif inB 0 2 then
                fX7_fits_j83 a0 a1 a2 a3 a4 (o8.2.1 51 0 (0 : Int32).toNatClampNeg) o8.2
              else none
          else
            (fX7_no a0 o8.1 o8.2).bind fun o12 =>
            some (o12.1, o12.2)
        else
          (fX7_no a0 (-1002) o7.2).bind fun o13 =>
          some (o13.1, o13.2)
theorem fX7_fits_ex : ∃ f : Nat → Int32 → Int32 → Int32 → Int32 → MM → Option (Int32 × MM), f = fX7_fits_b := ⟨_, rfl⟩
noncomputable def fX7_fits : Nat → Int32 → Int32 → Int32 → Int32 → MM → Option (Int32 × MM) := Classical.choose fX7_fits_ex
theorem fX7_fits_eq : fX7_fits = fX7_fits_b := Classical.choose_spec fX7_fits_ex
noncomputable def fX7_from_b40 (a0 : Nat) (a1 : Int32) (a2 : Int32) (a3 : Int32) (s : Int32 × Int32) (m : MM) : Option (((Int32 × Int32) ⊕ (Int32)) × MM) :=
  if (m.1 7 a0 0) ≤ s.2 then
    some (Sum.inr s.1, m)
  else
    (fX7_keep a0 2 m).bind fun o6 =>
    bif inB a1 9 then
      bif inB a1 9 then
        (fX7_becomes a0 a1 (o6.2.1 52 0 a1.toNatClampNeg) (o6.2.1 53 0 a1.toNatClampNeg) s.2 (-1) o6.2).bind fun o7 =>
        (fX7_goesOn a0 a2 o7.2).bind fun o8 =>
        bif inB a1 9 then
          if ¬ (o8.2.1 56 0 a1.toNatClampNeg) = 0 then
            (fX7_again a0 2 o8.2).bind fun o9 =>
            some (Sum.inl (s.1, (s.2 + 1)), o9.2)
          else
            bif inB a1 9 then
              if ¬ (o8.2.1 54 0 a1.toNatClampNeg) = a3 then
                (fX7_again a0 2 o8.2).bind fun o10 =>
                some (Sum.inl (s.1, (s.2 + 1)), o10.2)
              else
                (fX7_again a0 2 o8.2).bind fun o11 =>
                some (Sum.inl ((s.1 ||| (1 <<< (s.2 &&& 31))), (s.2 + 1)), o11.2)
            else none
        else none
      else none
    else none
noncomputable def fX7_from_b (a0 : Nat) (a1 : Int32) (a2 : Int32) (a3 : Int32) (m : MM) : Option (Int32 × MM) :=
  (fX7_isBottle a0 a1 m).bind fun o1 =>
  if (bI o1.1) = 0 then
    (fX7_no a0 (-1002) o1.2).bind fun o2 =>
    some (o2.1, o2.2)
  else
    (fX7_within a2 0 30 o1.2).bind fun o3 =>
    if (bI o3.1) = 0 then
      (fX7_no a0 (-1002) o3.2).bind fun o4 =>
      some (o4.1, o4.2)
    else
      (fX7_isCell a0 a3 o3.2).bind fun o5 =>
      if ¬ (bI o5.1) = 0 then
        (loopF 1000 (fX7_from_b40 a0 a1 a2 a3) (0, 0) o5.2).bind fun o12 =>
        some (o12.1, o12.2)
      else
        (fX7_no a0 (-1002) o5.2).bind fun o13 =>
        some (o13.1, o13.2)
theorem fX7_from_ex : ∃ f : Nat → Int32 → Int32 → Int32 → MM → Option (Int32 × MM), f = fX7_from_b := ⟨_, rfl⟩
noncomputable def fX7_from : Nat → Int32 → Int32 → Int32 → MM → Option (Int32 × MM) := Classical.choose fX7_from_ex
theorem fX7_from_eq : fX7_from = fX7_from_b := Classical.choose_spec fX7_from_ex
noncomputable def fX7_tries_b79 (rc : Nat → Int32 → Int32 → Int32 → Int32 → Int32 → MM → Option (Unit × MM)) (a0 : Nat) (a1 : Int32) (a2 : Int32) (a3 : Int32) (a4 : Int32) (a5 : Int32) (s : Int32) (m : MM) : Option (((Int32) ⊕ (Unit)) × MM) :=
  if (m.1 7 a0 10) ≤ s then
    some (Sum.inr (), m)
  else
    bif inB ((6 * a1) + s) 48 then
      if ((a2 >>> (s &&& 31)) &&& 1) = 1 then
        some (Sum.inl (s + 1), m)
      else
        if (m.1 65 0 ((6 * a1) + s).toNatClampNeg) = (-1) then
          some (Sum.inl (s + 1), m)
        else
          if (m.1 65 0 ((6 * a1) + s).toNatClampNeg) ≤ a5 then
            bif inB a1 8 then
              (rc a0 (a1 + 1) (a2 ||| (1 <<< (s &&& 31))) (a3 + 1) (a4 + (m.1 65 0 ((6 * a1) + s).toNatClampNeg)) a5 ((upI m.1 66 0 a1.toNatClampNeg s), m.2)).bind fun o1 =>
              some (Sum.inl (s + 1), o1.2)
            else none
          else
            some (Sum.inl (s + 1), m)
    else none
noncomputable def fX7_tries_b48 (rc : Nat → Int32 → Int32 → Int32 → Int32 → Int32 → MM → Option (Unit × MM)) (a0 : Nat) (s : Int32) (m : MM) : Option (((Int32) ⊕ (Unit)) × MM) :=
  if 8 ≤ s then
    some (Sum.inr (), m)
  else
    bif inB s 8 then
      bif inB s 8 then
        some (Sum.inl (s + 1), ((upI m.1 67 0 s.toNatClampNeg (m.1 66 0 s.toNatClampNeg)), m.2))
      else none
    else none
noncomputable def fX7_tries_j34 (rc : Nat → Int32 → Int32 → Int32 → Int32 → Int32 → MM → Option (Unit × MM)) (a0 : Nat) (a3 : Int32) (a4 : Int32) (m : MM) : Option (Unit × MM) :=
  (loopF 1000 (fX7_tries_b48 rc a0) 0 ((upI (upI m.1 7 a0 30 a3) 7 a0 31 a4), m.2)).bind fun o4 =>
  some ((), o4.2)
noncomputable def fX7_tries_s (rc : Nat → Int32 → Int32 → Int32 → Int32 → Int32 → MM → Option (Unit × MM)) (a0 : Nat) (a1 : Int32) (a2 : Int32) (a3 : Int32) (a4 : Int32) (a5 : Int32) (m : MM) : Option (Unit × MM) :=
  if ¬ a1 = (m.1 7 a0 4) then
    (loopF 1000 (fX7_tries_b79 rc a0 a1 a2 a3 a4 a5) 0 m).bind fun o2 =>
    bif inB a1 8 then
      (rc a0 (a1 + 1) a2 a3 a4 a5 ((upI o2.2.1 66 0 a1.toNatClampNeg (-1)), o2.2.2)).bind fun o3 =>
      some ((), o3.2)
    else none
  else
    if a3 < (m.1 7 a0 30) then
      some ((), m)
    else
      if ¬ a3 = (m.1 7 a0 30) then
        fX7_tries_j34 rc a0 a3 a4 m
      else
        if a4 < (m.1 7 a0 31) then
          fX7_tries_j34 rc a0 a3 a4 m
        else
          some ((), m)
noncomputable def fX7_tries_n : Nat → Nat → Int32 → Int32 → Int32 → Int32 → Int32 → MM → Option (Unit × MM)
  | 0 => fun _ _ _ _ _ _ _ => none
  | n + 1 => fX7_tries_s (fX7_tries_n n)
theorem fX7_tries_ex : ∃ f : Nat → Int32 → Int32 → Int32 → Int32 → Int32 → MM → Option (Unit × MM), f = fX7_tries_n 10 := ⟨_, rfl⟩
noncomputable def fX7_tries : Nat → Int32 → Int32 → Int32 → Int32 → Int32 → MM → Option (Unit × MM) := Classical.choose fX7_tries_ex
theorem fX7_tries_eq : fX7_tries = fX7_tries_n 10 := Classical.choose_spec fX7_tries_ex
noncomputable def fX7_pairs_b49 (a0 : Nat) (a1 : Int32) (a2 : Int32) (a3 : Int32) (s : Int32) (m : MM) : Option (((Int32) ⊕ (Unit)) × MM) :=
  if (m.1 7 a0 10) ≤ s then
    some (Sum.inr (), m)
  else
    (fX7_meet a0 a3 s m).bind fun o4 =>
    bif inB ((6 * a3) + s) 48 then
      some (Sum.inl (s + 1), ((upI o4.2.1 65 0 ((6 * a3) + s).toNatClampNeg o4.1), o4.2.2))
    else none
noncomputable def fX7_pairs_b38 (a0 : Nat) (a1 : Int32) (a2 : Int32) (s : Int32) (m : MM) : Option (((Int32) ⊕ (Unit)) × MM) :=
  if (m.1 7 a0 4) ≤ s then
    some (Sum.inr (), m)
  else
    (loopF 1000 (fX7_pairs_b49 a0 a1 a2 s) 0 m).bind fun o5 =>
    some (Sum.inl (s + 1), o5.2)
noncomputable def fX7_pairs_j36 (a0 : Nat) (a1 : Int32) (a2 : Int32) (m : MM) : Option (Int32 × MM) :=
  (loopF 1000 (fX7_pairs_b38 a0 a1 a2) 0 m).bind fun o6 =>
  (fX7_tries a0 0 0 0 0 a1 ((upI (upI o6.2.1 7 a0 30 (-1)) 7 a0 31 0), o6.2.2)).bind fun o7 =>
  if ¬ a2 = (-2) then
    if ¬ a2 = (-1) then
      bif inB a2 8 then
        some ((o7.2.1 67 0 a2.toNatClampNeg), o7.2)
      else none
    else
      some ((o7.2.1 7 a0 31), o7.2)
  else
    some ((o7.2.1 7 a0 30), o7.2)
noncomputable def fX7_pairs_b (a0 : Nat) (a1 : Int32) (a2 : Int32) (m : MM) : Option (Int32 × MM) :=
  (fX7_within a1 1 60 m).bind fun o1 =>
  if (bI o1.1) = 0 then
    (fX7_no a0 (-1002) o1.2).bind fun o2 =>
    some (o2.1, o2.2)
  else
    (fX7_within a2 (-2) (-1) o1.2).bind fun o3 =>
    if ¬ (bI o3.1) = 0 then
      fX7_pairs_j36 a0 a1 a2 o3.2
    else
      (fX7_isBottle a0 a2 o3.2).bind fun o8 =>
      if ¬ (bI o8.1) = 0 then
        fX7_pairs_j36 a0 a1 a2 o8.2
      else
        (fX7_no a0 (-1002) o8.2).bind fun o9 =>
        some (o9.1, o9.2)
theorem fX7_pairs_ex : ∃ f : Nat → Int32 → Int32 → MM → Option (Int32 × MM), f = fX7_pairs_b := ⟨_, rfl⟩
noncomputable def fX7_pairs : Nat → Int32 → Int32 → MM → Option (Int32 × MM) := Classical.choose fX7_pairs_ex
theorem fX7_pairs_eq : fX7_pairs = fX7_pairs_b := Classical.choose_spec fX7_pairs_ex
noncomputable def fX7_mended_j92 (a0 : Nat) (a1 : Int32) (a2 : Int32) (a3 : Int32) (a4 : Int32) (a5 : Int32) (a6 : Int32) (a7 : Int32) (z0 : Int32) (m : MM) : Option (((Int32 × Int32 × Int32) ⊕ (Int32 × Int32)) × MM) :=
  if z0 = (-1) then
    some (Sum.inl (a3, a4, (a7 + 1)), m)
  else
    if z0 < a4 then
      some (Sum.inl (((10 * a5) + a7), z0, (a7 + 1)), m)
    else
      some (Sum.inl (a3, a4, (a7 + 1)), m)
noncomputable def fX7_mended_b55 (a0 : Nat) (a1 : Int32) (a2 : Int32) (a5 : Int32) (a6 : Int32) (s : Int32 × Int32 × Int32) (m : MM) : Option (((Int32 × Int32 × Int32) ⊕ (Int32 × Int32)) × MM) :=
  if 7 ≤ s.2.2 then
    some (Sum.inr (s.1, s.2.1), m)
  else
    bif inB a5 30 then
      if ¬ s.2.2 = a6 then
        (fX7_whenSo a0 a1 1 ((upI m.1 50 0 a5.toNatClampNeg s.2.2) 7 a0 4) ((upI m.1 50 0 a5.toNatClampNeg s.2.2), m.2)).bind fun o4 =>
        fX7_mended_j92 a0 a1 a2 s.1 s.2.1 a5 a6 s.2.2 o4.1 o4.2
      else
        fX7_mended_j92 a0 a1 a2 s.1 s.2.1 a5 a6 s.2.2 (-1) ((upI m.1 50 0 a5.toNatClampNeg s.2.2), m.2)
    else none
noncomputable def fX7_mended_b34 (a0 : Nat) (a1 : Int32) (a2 : Int32) (s : Int32 × Int32 × Int32) (m : MM) : Option (((Int32 × Int32 × Int32) ⊕ (Int32 × Int32)) × MM) :=
  if (m.1 7 a0 0) ≤ s.2.2 then
    some (Sum.inr (s.1, s.2.1), m)
  else
    bif inB s.2.2 30 then
      (loopF 1000 (fX7_mended_b55 a0 a1 a2 s.2.2 (m.1 50 0 s.2.2.toNatClampNeg)) (s.1, s.2.1, 0) m).bind fun o5 =>
      bif inB s.2.2 30 then
        some (Sum.inl (o5.1.1, o5.1.2, (s.2.2 + 1)), ((upI o5.2.1 50 0 s.2.2.toNatClampNeg (m.1 50 0 s.2.2.toNatClampNeg)), o5.2.2))
      else none
    else none
noncomputable def fX7_mended_b (a0 : Nat) (a1 : Int32) (a2 : Int32) (m : MM) : Option (Int32 × MM) :=
  (fX7_isBottle a0 a1 m).bind fun o1 =>
  if (bI o1.1) = 0 then
    (fX7_no a0 (-1002) o1.2).bind fun o2 =>
    some (o2.1, o2.2)
  else
    (fX7_within a2 0 1 o1.2).bind fun o3 =>
    if ¬ (bI o3.1) = 0 then
      (loopF 1000 (fX7_mended_b34 a0 a1 a2) ((-1), 61, 0) o3.2).bind fun o6 =>
      if a2 = 0 then
        some (o6.1.1, o6.2)
      else
        if ¬ o6.1.1 = (-1) then
          some (o6.1.2, o6.2)
        else
          some (o6.1.1, o6.2)
    else
      (fX7_no a0 (-1002) o3.2).bind fun o7 =>
      some (o7.1, o7.2)
theorem fX7_mended_ex : ∃ f : Nat → Int32 → Int32 → MM → Option (Int32 × MM), f = fX7_mended_b := ⟨_, rfl⟩
noncomputable def fX7_mended : Nat → Int32 → Int32 → MM → Option (Int32 × MM) := Classical.choose fX7_mended_ex
theorem fX7_mended_eq : fX7_mended = fX7_mended_b := Classical.choose_spec fX7_mended_ex
noncomputable def fX7_odds_b40 (a0 : Nat) (a1 : Int32) (a2 : Int32) (a3 : Int32) (s : Int32 × Int32) (m : MM) : Option (((Int32 × Int32) ⊕ (Int32)) × MM) :=
  if a2 ≤ s.2 then
    some (Sum.inr s.1, m)
  else
    some (Sum.inl ((s.1 * 5), (s.2 + 1)), m)
noncomputable def fX7_odds_b86 (a0 : Nat) (a1 : Int32) (a2 : Int32) (a3 : Int32) (a4 : Int32) (a5 : Int32) (a6 : Int32) (s : Int32 × Int32) (m : MM) : Option (((Int32 × Int32) ⊕ (Unit)) × MM) :=
  if a2 ≤ s.2 then
    some (Sum.inr (), m)
  else
    bif inB 0 2 then
      (fX7_passes a0 ((upI m.1 51 0 (0 : Int32).toNatClampNeg (s.1 - s.1 / 5 * 5)) 7 a0 4) ((upI m.1 51 0 (0 : Int32).toNatClampNeg (s.1 - s.1 / 5 * 5)), m.2)).bind fun o8 =>
      some (Sum.inl ((s.1 / 5), (s.2 + 1)), o8.2)
    else none
noncomputable def fX7_odds_b64 (a0 : Nat) (a1 : Int32) (a2 : Int32) (a3 : Int32) (a4 : Int32) (s : Int32 × Int32) (m : MM) : Option (((Int32 × Int32) ⊕ (Int32)) × MM) :=
  if a4 ≤ s.2 then
    some (Sum.inr s.1, m)
  else
    (fX7_keep a0 2 m).bind fun o7 =>
    (loopF 1000 (fX7_odds_b86 a0 a1 a2 a3 a4 s.1 s.2) (s.2, 0) o7.2).bind fun o9 =>
    bif inB a1 9 then
      if ¬ (o9.2.1 56 0 a1.toNatClampNeg) = (1 + a3) then
        (fX7_again a0 2 o9.2).bind fun o10 =>
        some (Sum.inl (s.1, (s.2 + 1)), o10.2)
      else
        (fX7_again a0 2 o9.2).bind fun o11 =>
        some (Sum.inl ((s.1 + 1), (s.2 + 1)), o11.2)
    else none
noncomputable def fX7_odds_b (a0 : Nat) (a1 : Int32) (a2 : Int32) (a3 : Int32) (m : MM) : Option (Int32 × MM) :=
  (fX7_isBottle a0 a1 m).bind fun o1 =>
  if (bI o1.1) = 0 then
    (fX7_no a0 (-1002) o1.2).bind fun o2 =>
    some (o2.1, o2.2)
  else
    (fX7_within a2 0 4 o1.2).bind fun o3 =>
    if (bI o3.1) = 0 then
      (fX7_no a0 (-1002) o3.2).bind fun o4 =>
      some (o4.1, o4.2)
    else
      (fX7_within a3 0 1 o3.2).bind fun o5 =>
      if ¬ (bI o5.1) = 0 then
        (loopF 1000 (fX7_odds_b40 a0 a1 a2 a3) (1, 0) o5.2).bind fun o6 =>
        (loopF 1000 (fX7_odds_b64 a0 a1 a2 a3 o6.1) (0, 0) o6.2).bind fun o12 =>
        if o6.1 = 0 then
          none
        else
          some (((1000000 * o12.1) / o6.1), o12.2)
      else
        (fX7_no a0 (-1002) o5.2).bind fun o13 =>
        some (o13.1, o13.2)
theorem fX7_odds_ex : ∃ f : Nat → Int32 → Int32 → Int32 → MM → Option (Int32 × MM), f = fX7_odds_b := ⟨_, rfl⟩
noncomputable def fX7_odds : Nat → Int32 → Int32 → Int32 → MM → Option (Int32 × MM) := Classical.choose fX7_odds_ex
theorem fX7_odds_eq : fX7_odds = fX7_odds_b := Classical.choose_spec fX7_odds_ex
noncomputable def fX7_windFor_b32 (a0 : Nat) (a1 : Int32) (a2 : Int32) (s : Int32 × Int32 × Int32) (m : MM) : Option (((Int32 × Int32 × Int32) ⊕ (Int32)) × MM) :=
  if 5 ≤ s.2.2 then
    some (Sum.inr s.1, m)
  else
    bif inB 0 2 then
      (fX7_whenSo a0 a1 1 ((upI m.1 51 0 (0 : Int32).toNatClampNeg s.2.2) 7 a0 4) ((upI m.1 51 0 (0 : Int32).toNatClampNeg s.2.2), m.2)).bind fun o2 =>
      if o2.1 = (-1) then
        some (Sum.inl (s.1, s.2.1, (s.2.2 + 1)), o2.2)
      else
        if o2.1 < s.2.1 then
          some (Sum.inl (s.2.2, o2.1, (s.2.2 + 1)), o2.2)
        else
          some (Sum.inl (s.1, s.2.1, (s.2.2 + 1)), o2.2)
    else none
noncomputable def fX7_windFor_b (a0 : Nat) (a1 : Int32) (m : MM) : Option (Int32 × MM) :=
  (fX7_isBottle a0 a1 m).bind fun o1 =>
  if ¬ (bI o1.1) = 0 then
    bif inB 0 2 then
      (loopF 1000 (fX7_windFor_b32 a0 a1 (o1.2.1 51 0 (0 : Int32).toNatClampNeg)) ((-1), 61, 0) o1.2).bind fun o3 =>
      bif inB 0 2 then
        some (o3.1, ((upI o3.2.1 51 0 (0 : Int32).toNatClampNeg (o1.2.1 51 0 (0 : Int32).toNatClampNeg)), o3.2.2))
      else none
    else none
  else
    (fX7_no a0 (-1002) o1.2).bind fun o4 =>
    some (o4.1, o4.2)
theorem fX7_windFor_ex : ∃ f : Nat → Int32 → MM → Option (Int32 × MM), f = fX7_windFor_b := ⟨_, rfl⟩
noncomputable def fX7_windFor : Nat → Int32 → MM → Option (Int32 × MM) := Classical.choose fX7_windFor_ex
theorem fX7_windFor_eq : fX7_windFor = fX7_windFor_b := Classical.choose_spec fX7_windFor_ex
noncomputable def fX7_bestWind_b32 (a0 : Nat) (a1 : Int32) (a2 : Int32) (s : Int32 × Int32 × Int32) (m : MM) : Option (((Int32 × Int32 × Int32) ⊕ (Int32 × Int32)) × MM) :=
  if 5 ≤ s.2.2 then
    some (Sum.inr (s.1, s.2.1), m)
  else
    (fX7_keep a0 2 m).bind fun o4 =>
    bif inB 0 2 then
      (fX7_goesOn a0 a1 ((upI o4.2.1 51 0 (0 : Int32).toNatClampNeg s.2.2), o4.2.2)).bind fun o5 =>
      (fX7_again a0 2 o5.2).bind fun o6 =>
      if s.2.1 < o5.1 then
        some (Sum.inl (s.2.2, o5.1, (s.2.2 + 1)), o6.2)
      else
        some (Sum.inl (s.1, s.2.1, (s.2.2 + 1)), o6.2)
    else none
noncomputable def fX7_bestWind_b (a0 : Nat) (a1 : Int32) (a2 : Int32) (m : MM) : Option (Int32 × MM) :=
  (fX7_isTime a1 m).bind fun o1 =>
  if (bI o1.1) = 0 then
    (fX7_no a0 (-1002) o1.2).bind fun o2 =>
    some (o2.1, o2.2)
  else
    (fX7_within a2 0 1 o1.2).bind fun o3 =>
    if ¬ (bI o3.1) = 0 then
      (loopF 1000 (fX7_bestWind_b32 a0 a1 a2) (0, (-1), 0) o3.2).bind fun o7 =>
      if ¬ a2 = 0 then
        some (o7.1.2, o7.2)
      else
        some (o7.1.1, o7.2)
    else
      (fX7_no a0 (-1002) o3.2).bind fun o8 =>
      some (o8.1, o8.2)
theorem fX7_bestWind_ex : ∃ f : Nat → Int32 → Int32 → MM → Option (Int32 × MM), f = fX7_bestWind_b := ⟨_, rfl⟩
noncomputable def fX7_bestWind : Nat → Int32 → Int32 → MM → Option (Int32 × MM) := Classical.choose fX7_bestWind_ex
theorem fX7_bestWind_eq : fX7_bestWind = fX7_bestWind_b := Classical.choose_spec fX7_bestWind_ex
noncomputable def fX7_areSo_b4 (a0 : Nat) (a1 : Int32) (s : Int32 × Int32) (m : MM) : Option (((Int32 × Int32) ⊕ (Int32)) × MM) :=
  if (m.1 7 a0 4) ≤ s.2 then
    some (Sum.inr s.1, m)
  else
    bif inB s.2 9 then
      if ¬ (m.1 56 0 s.2.toNatClampNeg) = a1 then
        some (Sum.inl (s.1, (s.2 + 1)), m)
      else
        some (Sum.inl ((s.1 ||| (1 <<< (s.2 &&& 31))), (s.2 + 1)), m)
    else none
noncomputable def fX7_areSo_b (a0 : Nat) (a1 : Int32) (m : MM) : Option (Int32 × MM) :=
  (loopF 1000 (fX7_areSo_b4 a0 a1) (0, 0) m).bind fun o1 =>
  some (o1.1, o1.2)
theorem fX7_areSo_ex : ∃ f : Nat → Int32 → MM → Option (Int32 × MM), f = fX7_areSo_b := ⟨_, rfl⟩
noncomputable def fX7_areSo : Nat → Int32 → MM → Option (Int32 × MM) := Classical.choose fX7_areSo_ex
theorem fX7_areSo_eq : fX7_areSo = fX7_areSo_b := Classical.choose_spec fX7_areSo_ex
noncomputable def fX7_afloatThen_b (a0 : Nat) (a1 : Int32) (m : MM) : Option (Int32 × MM) :=
  (fX7_areSo a0 0 m).bind fun o1 =>
  (fX7_keep a0 2 o1.2).bind fun o2 =>
  (fX7_goesOn a0 60 o2.2).bind fun o3 =>
  (fX7_areSo a0 a1 o3.2).bind fun o4 =>
  (fX7_again a0 2 o4.2).bind fun o5 =>
  some ((o1.1 &&& o4.1), o5.2)
theorem fX7_afloatThen_ex : ∃ f : Nat → Int32 → MM → Option (Int32 × MM), f = fX7_afloatThen_b := ⟨_, rfl⟩
noncomputable def fX7_afloatThen : Nat → Int32 → MM → Option (Int32 × MM) := Classical.choose fX7_afloatThen_ex
theorem fX7_afloatThen_eq : fX7_afloatThen = fX7_afloatThen_b := Classical.choose_spec fX7_afloatThen_ex
noncomputable def fX7_who_b (a0 : Nat) (a1 : Int32) (m : MM) : Option (Int32 × MM) :=
  (fX7_within a1 0 3 m).bind fun o1 =>
  if ¬ (bI o1.1) = 0 then
    if ¬ a1 = 3 then
      (fX7_areSo a0 a1 o1.2).bind fun o2 =>
      some (o2.1, o2.2)
    else
      (fX7_afloatThen a0 1 o1.2).bind fun o3 =>
      some (o3.1, o3.2)
  else
    (fX7_no a0 (-1002) o1.2).bind fun o4 =>
    some (o4.1, o4.2)
theorem fX7_who_ex : ∃ f : Nat → Int32 → MM → Option (Int32 × MM), f = fX7_who_b := ⟨_, rfl⟩
noncomputable def fX7_who : Nat → Int32 → MM → Option (Int32 × MM) := Classical.choose fX7_who_ex
theorem fX7_who_eq : fX7_who = fX7_who_b := Classical.choose_spec fX7_who_ex
noncomputable def fX7_strays_b (a0 : Nat) (m : MM) : Option (Int32 × MM) :=
  (fX7_afloatThen a0 0 m).bind fun o1 =>
  some (o1.1, o1.2)
theorem fX7_strays_ex : ∃ f : Nat → MM → Option (Int32 × MM), f = fX7_strays_b := ⟨_, rfl⟩
noncomputable def fX7_strays : Nat → MM → Option (Int32 × MM) := Classical.choose fX7_strays_ex
theorem fX7_strays_eq : fX7_strays = fX7_strays_b := Classical.choose_spec fX7_strays_ex
noncomputable def fX7_there_b85 (a0 : Nat) (a1 : Int32) (s : Int32 × Int32) (m : MM) : Option (((Int32 × Int32) ⊕ (Int32)) × MM) :=
  if (m.1 7 a0 10) ≤ s.2 then
    some (Sum.inr s.1, m)
  else
    bif inB s.2 18 then
      if ¬ (m.1 57 0 s.2.toNatClampNeg) = a1 then
        some (Sum.inl (s.1, (s.2 + 1)), m)
      else
        some (Sum.inl ((s.1 ||| (1 <<< (s.2 &&& 31))), (s.2 + 1)), m)
    else none
noncomputable def fX7_there_b34 (a0 : Nat) (a1 : Int32) (a2 : Int32) (s : Int32 × Int32) (m : MM) : Option (((Int32 × Int32) ⊕ (Int32)) × MM) :=
  if (m.1 7 a0 4) ≤ s.2 then
    some (Sum.inr s.1, m)
  else
    bif inB s.2 9 then
      if ¬ (m.1 56 0 s.2.toNatClampNeg) = 0 then
        some (Sum.inl (s.1, (s.2 + 1)), m)
      else
        bif inB s.2 9 then
          if ¬ (m.1 54 0 s.2.toNatClampNeg) = a1 then
            some (Sum.inl (s.1, (s.2 + 1)), m)
          else
            some (Sum.inl ((s.1 ||| (1 <<< (s.2 &&& 31))), (s.2 + 1)), m)
        else none
    else none
noncomputable def fX7_there_j77 (a0 : Nat) (a1 : Int32) (a2 : Int32) (a3 : Int32) (m : MM) : Option (Int32 × MM) :=
  if ¬ a2 = 1 then
    some (a3, m)
  else
    (loopF 1000 (fX7_there_b85 a0 a1) (a3, 0) m).bind fun o4 =>
    some (o4.1, o4.2)
noncomputable def fX7_there_b (a0 : Nat) (a1 : Int32) (a2 : Int32) (m : MM) : Option (Int32 × MM) :=
  (fX7_isCell a0 a1 m).bind fun o1 =>
  if (bI o1.1) = 0 then
    (fX7_no a0 (-1002) o1.2).bind fun o2 =>
    some (o2.1, o2.2)
  else
    (fX7_within a2 0 1 o1.2).bind fun o3 =>
    if ¬ (bI o3.1) = 0 then
      if ¬ a2 = 0 then
        fX7_there_j77 a0 a1 a2 0 o3.2
      else
        (loopF 1000 (fX7_there_b34 a0 a1 a2) (0, 0) o3.2).bind fun o5 =>
        fX7_there_j77 a0 a1 a2 o5.1 o5.2
    else
      (fX7_no a0 (-1002) o3.2).bind fun o6 =>
      some (o6.1, o6.2)
theorem fX7_there_ex : ∃ f : Nat → Int32 → Int32 → MM → Option (Int32 × MM), f = fX7_there_b := ⟨_, rfl⟩
noncomputable def fX7_there : Nat → Int32 → Int32 → MM → Option (Int32 × MM) := Classical.choose fX7_there_ex
theorem fX7_there_eq : fX7_there = fX7_there_b := Classical.choose_spec fX7_there_ex
noncomputable def fX7_settles_b45 (a0 : Nat) (a1 : Int32) (s : Int32 × Int32 × Int32) (m : MM) : Option (((Int32 × Int32 × Int32) ⊕ (Int32)) × MM) :=
  if 60 < s.2.2 then
    some (Sum.inr s.2.1, m)
  else
    if ¬ s.2.1 = (-1) then
      some (Sum.inr s.2.1, m)
    else
      bif inB a1 9 then
        if 2 ≤ (m.1 56 0 a1.toNatClampNeg) then
          some (Sum.inr s.2.1, m)
        else
          (fX7_passes a0 (m.1 7 a0 4) m).bind fun o3 =>
          bif inB a1 9 then
            if 2 ≤ (o3.2.1 56 0 a1.toNatClampNeg) then
              bif inB a1 9 then
                some (Sum.inl ((s.1 ||| (1 <<< ((o3.2.1 54 0 a1.toNatClampNeg) &&& 31))), s.2.1, (s.2.2 + 1)), o3.2)
              else none
            else
              bif inB a1 9 then
                if ¬ ((s.1 >>> ((o3.2.1 54 0 a1.toNatClampNeg) &&& 31)) &&& 1) = 1 then
                  bif inB a1 9 then
                    some (Sum.inl ((s.1 ||| (1 <<< ((o3.2.1 54 0 a1.toNatClampNeg) &&& 31))), s.2.1, (s.2.2 + 1)), o3.2)
                  else none
                else
                  bif inB a1 9 then
                    some (Sum.inl ((s.1 ||| (1 <<< ((o3.2.1 54 0 a1.toNatClampNeg) &&& 31))), s.2.2, (s.2.2 + 1)), o3.2)
                  else none
              else none
          else none
      else none
noncomputable def fX7_settles_b (a0 : Nat) (a1 : Int32) (m : MM) : Option (Int32 × MM) :=
  (fX7_isBottle a0 a1 m).bind fun o1 =>
  if ¬ (bI o1.1) = 0 then
    (fX7_keep a0 2 o1.2).bind fun o2 =>
    bif inB a1 9 then
      bif inB a1 9 then
        (loopF 1000 (fX7_settles_b45 a0 a1) ((1 <<< (((upI o2.2.1 55 0 a1.toNatClampNeg (-1)) 54 0 a1.toNatClampNeg) &&& 31)), (-1), 1) ((upI o2.2.1 55 0 a1.toNatClampNeg (-1)), o2.2.2)).bind fun o4 =>
        (fX7_again a0 2 o4.2).bind fun o5 =>
        some (o4.1, o5.2)
      else none
    else none
  else
    (fX7_no a0 (-1002) o1.2).bind fun o6 =>
    some (o6.1, o6.2)
theorem fX7_settles_ex : ∃ f : Nat → Int32 → MM → Option (Int32 × MM), f = fX7_settles_b := ⟨_, rfl⟩
noncomputable def fX7_settles : Nat → Int32 → MM → Option (Int32 × MM) := Classical.choose fX7_settles_ex
theorem fX7_settles_eq : fX7_settles = fX7_settles_b := Classical.choose_spec fX7_settles_ex
noncomputable def fX7_cellsOf_b26 (a0 : Nat) (a1 : Int32) (s : Int32 × Int32) (m : MM) : Option (((Int32 × Int32) ⊕ (Int32)) × MM) :=
  if 60 ≤ s.2 then
    some (Sum.inr s.1, m)
  else
    (fX7_passes a0 (m.1 7 a0 4) m).bind fun o2 =>
    bif inB a1 9 then
      some (Sum.inl ((s.1 ||| (1 <<< ((o2.2.1 54 0 a1.toNatClampNeg) &&& 31))), (s.2 + 1)), o2.2)
    else none
noncomputable def fX7_cellsOf_b (a0 : Nat) (a1 : Int32) (m : MM) : Option (Int32 × MM) :=
  (fX7_keep a0 2 m).bind fun o1 =>
  bif inB a1 9 then
    bif inB a1 9 then
      (loopF 1000 (fX7_cellsOf_b26 a0 a1) ((1 <<< (((upI o1.2.1 55 0 a1.toNatClampNeg (-1)) 54 0 a1.toNatClampNeg) &&& 31)), 0) ((upI o1.2.1 55 0 a1.toNatClampNeg (-1)), o1.2.2)).bind fun o3 =>
      (fX7_again a0 2 o3.2).bind fun o4 =>
      some (o3.1, o4.2)
    else none
  else none
theorem fX7_cellsOf_ex : ∃ f : Nat → Int32 → MM → Option (Int32 × MM), f = fX7_cellsOf_b := ⟨_, rfl⟩
noncomputable def fX7_cellsOf : Nat → Int32 → MM → Option (Int32 × MM) := Classical.choose fX7_cellsOf_ex
theorem fX7_cellsOf_eq : fX7_cellsOf = fX7_cellsOf_b := Classical.choose_spec fX7_cellsOf_ex
noncomputable def fX7_reach_b47 (a2 : Int32) (a3 : Int32) (s : Int32) (m : MM) : Option (((Int32) ⊕ (Int32)) × MM) :=
  if ¬ ((a3 >>> (s &&& 31)) &&& 1) = 0 then
    some (Sum.inr s, m)
  else
    if ¬ a2 = 0 then
      some (Sum.inl (s + (-1)), m)
    else
      some (Sum.inl (s + 1), m)
noncomputable def fX7_reach_j45 (a2 : Int32) (a3 : Int32) (z0 : Int32) (m : MM) : Option (Int32 × MM) :=
  (loopF 1000 (fX7_reach_b47 a2 a3) z0 m).bind fun o5 =>
  some (o5.1, o5.2)
noncomputable def fX7_reach_b (a0 : Nat) (a1 : Int32) (a2 : Int32) (m : MM) : Option (Int32 × MM) :=
  (fX7_isBottle a0 a1 m).bind fun o1 =>
  if (bI o1.1) = 0 then
    (fX7_no a0 (-1002) o1.2).bind fun o2 =>
    some (o2.1, o2.2)
  else
    (fX7_within a2 0 1 o1.2).bind fun o3 =>
    if ¬ (bI o3.1) = 0 then
      (fX7_cellsOf a0 a1 o3.2).bind fun o4 =>
      if ¬ a2 = 0 then
        fX7_reach_j45 a2 o4.1 ((o4.2.1 7 a0 0) - 1) o4.2
      else
        fX7_reach_j45 a2 o4.1 0 o4.2
    else
      (fX7_no a0 (-1002) o3.2).bind fun o6 =>
      some (o6.1, o6.2)
theorem fX7_reach_ex : ∃ f : Nat → Int32 → Int32 → MM → Option (Int32 × MM), f = fX7_reach_b := ⟨_, rfl⟩
noncomputable def fX7_reach : Nat → Int32 → Int32 → MM → Option (Int32 × MM) := Classical.choose fX7_reach_ex
theorem fX7_reach_eq : fX7_reach = fX7_reach_b := Classical.choose_spec fX7_reach_ex
noncomputable def fX7_busiest_b19 (a0 : Nat) (a1 : Int32) (s : Int32) (m : MM) : Option (((Int32) ⊕ (Unit)) × MM) :=
  if (m.1 7 a0 0) ≤ s then
    some (Sum.inr (), m)
  else
    bif inB s 30 then
      some (Sum.inl (s + 1), ((upI m.1 68 0 s.toNatClampNeg 0), m.2))
    else none
noncomputable def fX7_busiest_b59 (a0 : Nat) (a1 : Int32) (a2 : Int32) (a3 : Int32) (s : Int32) (m : MM) : Option (((Int32) ⊕ (Unit)) × MM) :=
  if (m.1 7 a0 0) ≤ s then
    some (Sum.inr (), m)
  else
    bif inB s 30 then
      bif inB s 30 then
        some (Sum.inl (s + 1), ((upI m.1 68 0 s.toNatClampNeg ((m.1 68 0 s.toNatClampNeg) + ((a3 >>> (s &&& 31)) &&& 1))), m.2))
      else none
    else none
noncomputable def fX7_busiest_b42 (a0 : Nat) (a1 : Int32) (s : Int32) (m : MM) : Option (((Int32) ⊕ (Unit)) × MM) :=
  if (m.1 7 a0 4) ≤ s then
    some (Sum.inr (), m)
  else
    (fX7_cellsOf a0 s m).bind fun o3 =>
    (loopF 1000 (fX7_busiest_b59 a0 a1 s o3.1) 0 o3.2).bind fun o4 =>
    some (Sum.inl (s + 1), o4.2)
noncomputable def fX7_busiest_b100 (a0 : Nat) (a1 : Int32) (s : Int32 × Int32) (m : MM) : Option (((Int32 × Int32) ⊕ (Int32)) × MM) :=
  if (m.1 7 a0 0) ≤ s.2 then
    some (Sum.inr s.1, m)
  else
    bif inB s.2 30 then
      bif inB s.1 30 then
        if (m.1 68 0 s.2.toNatClampNeg) ≤ (m.1 68 0 s.1.toNatClampNeg) then
          some (Sum.inl (s.1, (s.2 + 1)), m)
        else
          some (Sum.inl (s.2, (s.2 + 1)), m)
      else none
    else none
noncomputable def fX7_busiest_b (a0 : Nat) (a1 : Int32) (m : MM) : Option (Int32 × MM) :=
  (fX7_within a1 0 1 m).bind fun o1 =>
  if ¬ (bI o1.1) = 0 then
    (loopF 1000 (fX7_busiest_b19 a0 a1) 0 o1.2).bind fun o2 =>
    (loopF 1000 (fX7_busiest_b42 a0 a1) 0 o2.2).bind fun o5 =>
    (loopF 1000 (fX7_busiest_b100 a0 a1) (0, 1) o5.2).bind fun o6 =>
    if ¬ a1 = 0 then
      bif inB o6.1 30 then
        some ((o6.2.1 68 0 o6.1.toNatClampNeg), o6.2)
      else none
    else
      some (o6.1, o6.2)
  else
    (fX7_no a0 (-1002) o1.2).bind fun o7 =>
    some (o7.1, o7.2)
theorem fX7_busiest_ex : ∃ f : Nat → Int32 → MM → Option (Int32 × MM), f = fX7_busiest_b := ⟨_, rfl⟩
noncomputable def fX7_busiest : Nat → Int32 → MM → Option (Int32 × MM) := Classical.choose fX7_busiest_ex
theorem fX7_busiest_eq : fX7_busiest = fX7_busiest_b := Classical.choose_spec fX7_busiest_ex
noncomputable def fX7_round_b47 (a0 : Nat) (a1 : Int32) (a2 : Int32) (a3 : Int32) (s : Int32 × Int32) (m : MM) : Option (((Int32 × Int32) ⊕ (Int32)) × MM) :=
  if 60 < s.2 then
    some (Sum.inr s.1, m)
  else
    if ¬ s.1 = (-1) then
      some (Sum.inr s.1, m)
    else
      (fX7_steps a0 a1 m).bind fun o3 =>
      bif inB a1 18 then
        if ¬ (o3.2.1 57 0 a1.toNatClampNeg) = a2 then
          some (Sum.inl (s.1, (s.2 + 1)), o3.2)
        else
          bif inB (12 + a1) 18 then
            if ¬ (o3.2.1 57 0 (12 + a1).toNatClampNeg) = a3 then
              some (Sum.inl (s.1, (s.2 + 1)), o3.2)
            else
              some (Sum.inl (s.2, (s.2 + 1)), o3.2)
          else none
      else none
noncomputable def fX7_round_b (a0 : Nat) (a1 : Int32) (m : MM) : Option (Int32 × MM) :=
  (fX7_isWalker a0 a1 m).bind fun o1 =>
  if ¬ (bI o1.1) = 0 then
    (fX7_keep a0 2 o1.2).bind fun o2 =>
    bif inB a1 18 then
      bif inB (12 + a1) 18 then
        (loopF 1000 (fX7_round_b47 a0 a1 (o2.2.1 57 0 a1.toNatClampNeg) (o2.2.1 57 0 (12 + a1).toNatClampNeg)) ((-1), 1) o2.2).bind fun o4 =>
        (fX7_again a0 2 o4.2).bind fun o5 =>
        some (o4.1, o5.2)
      else none
    else none
  else
    (fX7_no a0 (-1002) o1.2).bind fun o6 =>
    some (o6.1, o6.2)
theorem fX7_round_ex : ∃ f : Nat → Int32 → MM → Option (Int32 × MM), f = fX7_round_b := ⟨_, rfl⟩
noncomputable def fX7_round : Nat → Int32 → MM → Option (Int32 × MM) := Classical.choose fX7_round_ex
theorem fX7_round_eq : fX7_round = fX7_round_b := Classical.choose_spec fX7_round_ex
noncomputable def fX7_join_j82 (a0 : Nat) (a1 : Int32) (a2 : Int32) (a3 : Int32) (a4 : Int32) (m : MM) : Option (((Int32 × Int32) ⊕ (Int32)) × MM) :=
  bif inB a1 9 then
    if ¬ (m.1 56 0 a1.toNatClampNeg) = 0 then
      some (Sum.inl (a3, (a4 + 1)), m)
    else
      bif inB a2 9 then
        if ¬ (m.1 56 0 a2.toNatClampNeg) = 0 then
          some (Sum.inl (a3, (a4 + 1)), m)
        else
          bif inB a1 9 then
            bif inB a2 9 then
              if ¬ (m.1 54 0 a1.toNatClampNeg) = (m.1 54 0 a2.toNatClampNeg) then
                some (Sum.inl (a3, (a4 + 1)), m)
              else
                some (Sum.inl (a4, (a4 + 1)), m)
            else none
          else none
      else none
  else none
noncomputable def fX7_join_b56 (a0 : Nat) (a1 : Int32) (a2 : Int32) (s : Int32 × Int32) (m : MM) : Option (((Int32 × Int32) ⊕ (Int32)) × MM) :=
  if 60 < s.2 then
    some (Sum.inr s.1, m)
  else
    if ¬ s.1 = (-1) then
      some (Sum.inr s.1, m)
    else
      if s.2 ≤ 0 then
        fX7_join_j82 a0 a1 a2 s.1 s.2 m
      else
        (fX7_passes a0 (m.1 7 a0 4) m).bind fun o6 =>
        fX7_join_j82 a0 a1 a2 s.1 s.2 o6.2
noncomputable def fX7_join_b (a0 : Nat) (a1 : Int32) (a2 : Int32) (m : MM) : Option (Int32 × MM) :=
  (fX7_isBottle a0 a1 m).bind fun o1 =>
  if (bI o1.1) = 0 then
    (fX7_no a0 (-1002) o1.2).bind fun o2 =>
    some (o2.1, o2.2)
  else
    (fX7_isBottle a0 a2 o1.2).bind fun o3 =>
    if (bI o3.1) = 0 then
      (fX7_no a0 (-1002) o3.2).bind fun o4 =>
      some (o4.1, o4.2)
    else
      if ¬ a1 = a2 then
        (fX7_keep a0 2 o3.2).bind fun o5 =>
        bif inB a1 9 then
          bif inB a2 9 then
            (loopF 1000 (fX7_join_b56 a0 a1 a2) ((-1), 0) ((upI (upI o5.2.1 55 0 a1.toNatClampNeg (-1)) 55 0 a2.toNatClampNeg (-1)), o5.2.2)).bind fun o7 =>
            (fX7_again a0 2 o7.2).bind fun o8 =>
            some (o7.1, o8.2)
          else none
        else none
      else
        (fX7_no a0 (-1002) o3.2).bind fun o9 =>
        some (o9.1, o9.2)
theorem fX7_join_ex : ∃ f : Nat → Int32 → Int32 → MM → Option (Int32 × MM), f = fX7_join_b := ⟨_, rfl⟩
noncomputable def fX7_join : Nat → Int32 → Int32 → MM → Option (Int32 × MM) := Classical.choose fX7_join_ex
theorem fX7_join_eq : fX7_join = fX7_join_b := Classical.choose_spec fX7_join_ex
noncomputable def fX7_first_j68 (a0 : Nat) (a1 : Int32) (a2 : Int32) (a3 : Int32) (a4 : Int32) (m : MM) : Option (((Int32 × Int32 × Int32) ⊕ (Int32)) × MM) :=
  some (Sum.inl (a2, a3, (a4 + 1)), m)
noncomputable def fX7_first_b24 (a0 : Nat) (a1 : Int32) (s : Int32 × Int32 × Int32) (m : MM) : Option (((Int32 × Int32 × Int32) ⊕ (Int32)) × MM) :=
  if (m.1 7 a0 4) ≤ s.2.2 then
    some (Sum.inr s.1, m)
  else
    bif inB s.2.2 9 then
      if ¬ (m.1 55 0 s.2.2.toNatClampNeg) = a1 then
        fX7_first_j68 a0 a1 s.1 s.2.1 s.2.2 m
      else
        bif inB s.2.2 9 then
          if ¬ (m.1 56 0 s.2.2.toNatClampNeg) = 0 then
            fX7_first_j68 a0 a1 s.1 s.2.1 s.2.2 m
          else
            (fX7_whenSo a0 s.2.2 1 (m.1 7 a0 4) m).bind fun o2 =>
            if o2.1 = (-1) then
              some (Sum.inl (s.1, s.2.1, (s.2.2 + 1)), o2.2)
            else
              if o2.1 < s.2.1 then
                some (Sum.inl (s.2.2, o2.1, (s.2.2 + 1)), o2.2)
              else
                some (Sum.inl (s.1, s.2.1, (s.2.2 + 1)), o2.2)
        else none
    else none
noncomputable def fX7_first_b (a0 : Nat) (a1 : Int32) (m : MM) : Option (Int32 × MM) :=
  (fX7_isWalker a0 a1 m).bind fun o1 =>
  if ¬ (bI o1.1) = 0 then
    (loopF 1000 (fX7_first_b24 a0 a1) ((-1), 61, 0) o1.2).bind fun o3 =>
    some (o3.1, o3.2)
  else
    (fX7_no a0 (-1002) o1.2).bind fun o4 =>
    some (o4.1, o4.2)
theorem fX7_first_ex : ∃ f : Nat → Int32 → MM → Option (Int32 × MM), f = fX7_first_b := ⟨_, rfl⟩
noncomputable def fX7_first : Nat → Int32 → MM → Option (Int32 × MM) := Classical.choose fX7_first_ex
theorem fX7_first_eq : fX7_first = fX7_first_b := Classical.choose_spec fX7_first_ex
noncomputable def fX7_next__b (a0 : Nat) (a1 : Int32) (a2 : Int32) (a3 : Int32) (m : MM) : Option (Int32 × MM) :=
  (fX7_isSuch a1 a2 m).bind fun o1 =>
  if (bI o1.1) = 0 then
    (fX7_no a0 (-1002) o1.2).bind fun o2 =>
    some (o2.1, o2.2)
  else
    (fX7_isCell a0 a3 o1.2).bind fun o3 =>
    if ¬ (bI o3.1) = 0 then
      (fX7_becomes a0 8 a1 a2 a3 (-1) o3.2).bind fun o4 =>
      (fX7_drifts a0 8 o4.2).bind fun o5 =>
      bif inB 8 9 then
        if ¬ (o5.2.1 56 0 (8 : Int32).toNatClampNeg) = 0 then
          some ((-1), o5.2)
        else
          bif inB 8 9 then
            some ((o5.2.1 54 0 (8 : Int32).toNatClampNeg), o5.2)
          else none
      else none
    else
      (fX7_no a0 (-1002) o3.2).bind fun o6 =>
      some (o6.1, o6.2)
theorem fX7_next__ex : ∃ f : Nat → Int32 → Int32 → Int32 → MM → Option (Int32 × MM), f = fX7_next__b := ⟨_, rfl⟩
noncomputable def fX7_next_ : Nat → Int32 → Int32 → Int32 → MM → Option (Int32 × MM) := Classical.choose fX7_next__ex
theorem fX7_next__eq : fX7_next_ = fX7_next__b := Classical.choose_spec fX7_next__ex
noncomputable def fX7_stays_b21 (a0 : Nat) (a1 : Int32) (a2 : Int32) (s : Int32 × Int32) (m : MM) : Option (((Int32 × Int32) ⊕ (Int32)) × MM) :=
  if (m.1 7 a0 0) ≤ s.2 then
    some (Sum.inr s.1, m)
  else
    (fX7_becomes a0 8 a1 a2 s.2 (-1) m).bind fun o2 =>
    (fX7_drifts a0 8 o2.2).bind fun o3 =>
    bif inB 8 9 then
      if ¬ (o3.2.1 54 0 (8 : Int32).toNatClampNeg) = s.2 then
        some (Sum.inl (s.1, (s.2 + 1)), o3.2)
      else
        some (Sum.inl ((s.1 ||| (1 <<< (s.2 &&& 31))), (s.2 + 1)), o3.2)
    else none
noncomputable def fX7_stays_b (a0 : Nat) (a1 : Int32) (a2 : Int32) (m : MM) : Option (Int32 × MM) :=
  (fX7_isSuch a1 a2 m).bind fun o1 =>
  if ¬ (bI o1.1) = 0 then
    (loopF 1000 (fX7_stays_b21 a0 a1 a2) (0, 0) o1.2).bind fun o4 =>
    some (o4.1, o4.2)
  else
    (fX7_no a0 (-1002) o1.2).bind fun o5 =>
    some (o5.1, o5.2)
theorem fX7_stays_ex : ∃ f : Nat → Int32 → Int32 → MM → Option (Int32 × MM), f = fX7_stays_b := ⟨_, rfl⟩
noncomputable def fX7_stays : Nat → Int32 → Int32 → MM → Option (Int32 × MM) := Classical.choose fX7_stays_ex
theorem fX7_stays_eq : fX7_stays = fX7_stays_b := Classical.choose_spec fX7_stays_ex
noncomputable def fX7_ofKind_b21 (a0 : Nat) (a1 : Int32) (s : Int32 × Int32) (m : MM) : Option (((Int32 × Int32) ⊕ (Int32)) × MM) :=
  if (m.1 7 a0 4) ≤ s.2 then
    some (Sum.inr s.1, m)
  else
    bif inB s.2 9 then
      if ¬ (m.1 52 0 s.2.toNatClampNeg) = a1 then
        some (Sum.inl (s.1, (s.2 + 1)), m)
      else
        some (Sum.inl ((s.1 + 1), (s.2 + 1)), m)
    else none
noncomputable def fX7_ofKind_b (a0 : Nat) (a1 : Int32) (m : MM) : Option (Int32 × MM) :=
  (fX7_within a1 0 5 m).bind fun o1 =>
  if ¬ (bI o1.1) = 0 then
    (loopF 1000 (fX7_ofKind_b21 a0 a1) (0, 0) o1.2).bind fun o2 =>
    some (o2.1, o2.2)
  else
    (fX7_no a0 (-1002) o1.2).bind fun o3 =>
    some (o3.1, o3.2)
theorem fX7_ofKind_ex : ∃ f : Nat → Int32 → MM → Option (Int32 × MM), f = fX7_ofKind_b := ⟨_, rfl⟩
noncomputable def fX7_ofKind : Nat → Int32 → MM → Option (Int32 × MM) := Classical.choose fX7_ofKind_ex
theorem fX7_ofKind_eq : fX7_ofKind = fX7_ofKind_b := Classical.choose_spec fX7_ofKind_ex
noncomputable def fX7_judge_b67 (a0 : Nat) (a1 : Int32) (a2 : Int32) (a3 : Int32) (s : Int32 × Int32) (m : MM) : Option (((Int32 × Int32) ⊕ (Int32)) × MM) :=
  if a2 ≤ s.2 then
    some (Sum.inr s.1, m)
  else
    if ¬ s.1 = (-1) then
      some (Sum.inr s.1, m)
    else
      (fX7_passes a0 (m.1 7 a0 4) m).bind fun o8 =>
      bif inB a3 9 then
        (fX7_toldAt a0 a1 s.2 o8.2).bind fun o9 =>
        if (lg_cmp (o8.2.1 54 0 a3.toNatClampNeg).toInt64 o9.1) = 0 then
          some (Sum.inl (s.1, (s.2 + 1)), o9.2)
        else
          some (Sum.inl (s.2, (s.2 + 1)), o9.2)
      else none
noncomputable def fX7_judge_b (a0 : Nat) (a1 : Int32) (a2 : Int32) (a3 : Int32) (m : MM) : Option (Int32 × MM) :=
  (fX7_isShelf a1 m).bind fun o1 =>
  if (bI o1.1) = 0 then
    (fX7_no a0 (-1002) o1.2).bind fun o2 =>
    some (o2.1, o2.2)
  else
    (fX7_within a2 0 40 o1.2).bind fun o3 =>
    if (bI o3.1) = 0 then
      (fX7_no a0 (-1002) o3.2).bind fun o4 =>
      some (o4.1, o4.2)
    else
      (fX7_isBottle a0 a3 o3.2).bind fun o5 =>
      if ¬ (bI o5.1) = 0 then
        (fX7_noTold a0 a1 a2 o5.2).bind fun o6 =>
        if 0 ≤ o6.1 then
          (fX7_keep a0 2 o6.2).bind fun o7 =>
          (loopF 1000 (fX7_judge_b67 a0 a1 a2 a3) ((-1), 0) o7.2).bind fun o10 =>
          (fX7_again a0 2 o10.2).bind fun o11 =>
          some (o10.1, o11.2)
        else
          (fX7_no a0 o6.1 o6.2).bind fun o12 =>
          some (o12.1, o12.2)
      else
        (fX7_no a0 (-1002) o5.2).bind fun o13 =>
        some (o13.1, o13.2)
theorem fX7_judge_ex : ∃ f : Nat → Int32 → Int32 → Int32 → MM → Option (Int32 × MM), f = fX7_judge_b := ⟨_, rfl⟩
noncomputable def fX7_judge : Nat → Int32 → Int32 → Int32 → MM → Option (Int32 × MM) := Classical.choose fX7_judge_ex
theorem fX7_judge_eq : fX7_judge = fX7_judge_b := Classical.choose_spec fX7_judge_ex
noncomputable def fX7_days_b (a0 : Nat) (a1 : Int32) (m : MM) : Option (Int32 × MM) :=
  (fX7_within a1 1 60 m).bind fun o1 =>
  if ¬ (bI o1.1) = 0 then
    (fX7_goesOn a0 a1 o1.2).bind fun o2 =>
    some (((upI o2.2.1 7 a0 3 ((o1.2.1 7 a0 3) + o2.1)) 7 a0 3), ((upI o2.2.1 7 a0 3 ((o1.2.1 7 a0 3) + o2.1)), o2.2.2))
  else
    (fX7_no a0 (-1002) o1.2).bind fun o3 =>
    some (o3.1, o3.2)
theorem fX7_days_ex : ∃ f : Nat → Int32 → MM → Option (Int32 × MM), f = fX7_days_b := ⟨_, rfl⟩
noncomputable def fX7_days : Nat → Int32 → MM → Option (Int32 × MM) := Classical.choose fX7_days_ex
theorem fX7_days_eq : fX7_days = fX7_days_b := Classical.choose_spec fX7_days_ex
noncomputable def fX7_draw_b (a0 : Nat) (a1 : Int32) (m : MM) : Option (Int32 × MM) :=
  if a1 = 0 then
    none
  else
    some (((usr ((upI m.1 7 a0 12 (((m.1 7 a0 12) * 1103515245) + 12345)) 7 a0 12) 16) - (usr ((upI m.1 7 a0 12 (((m.1 7 a0 12) * 1103515245) + 12345)) 7 a0 12) 16) / a1 * a1), ((upI m.1 7 a0 12 (((m.1 7 a0 12) * 1103515245) + 12345)), m.2))
theorem fX7_draw_ex : ∃ f : Nat → Int32 → MM → Option (Int32 × MM), f = fX7_draw_b := ⟨_, rfl⟩
noncomputable def fX7_draw : Nat → Int32 → MM → Option (Int32 × MM) := Classical.choose fX7_draw_ex
theorem fX7_draw_eq : fX7_draw = fX7_draw_b := Classical.choose_spec fX7_draw_ex
noncomputable def fX7_drawn_b37 (a0 : Nat) (a1 : Int32) (s : Int32 × Int32) (m : MM) : Option (((Int32 × Int32) ⊕ (Int32)) × MM) :=
  if a1 ≤ s.2 then
    some (Sum.inr s.1, m)
  else
    (fX7_draw a0 5 m).bind fun o2 =>
    bif inB 0 2 then
      (fX7_draw a0 ((upI o2.2.1 51 0 (0 : Int32).toNatClampNeg o2.1) 7 a0 4) ((upI o2.2.1 51 0 (0 : Int32).toNatClampNeg o2.1), o2.2.2)).bind fun o3 =>
      (fX7_draw a0 (o3.2.1 7 a0 0) o3.2).bind fun o4 =>
      bif inB o3.1 9 then
        if (o4.2.1 56 0 o3.1.toNatClampNeg) = 0 then
          (fX7_passes a0 (o4.2.1 7 a0 4) o4.2).bind fun o5 =>
          some (Sum.inl ((s.1 + o5.1), (s.2 + 1)), o5.2)
        else
          bif inB o3.1 9 then
            bif inB o3.1 9 then
              bif inB o3.1 9 then
                (fX7_becomes a0 o3.1 (o4.2.1 52 0 o3.1.toNatClampNeg) (o4.2.1 53 0 o3.1.toNatClampNeg) o4.1 (o4.2.1 55 0 o3.1.toNatClampNeg) o4.2).bind fun o6 =>
                (fX7_passes a0 (o6.2.1 7 a0 4) o6.2).bind fun o7 =>
                some (Sum.inl ((s.1 + o7.1), (s.2 + 1)), o7.2)
              else none
            else none
          else none
      else none
    else none
noncomputable def fX7_drawn_b (a0 : Nat) (a1 : Int32) (m : MM) : Option (Int32 × MM) :=
  (fX7_within a1 1 60 m).bind fun o1 =>
  if ¬ (bI o1.1) = 0 then
    if ¬ (o1.2.1 7 a0 4) = 0 then
      (loopF 1000 (fX7_drawn_b37 a0 a1) (0, 0) o1.2).bind fun o8 =>
      some (o8.1, ((upI o8.2.1 7 a0 3 ((o8.2.1 7 a0 3) + o8.1)), o8.2.2))
    else
      (fX7_no a0 (-1005) o1.2).bind fun o9 =>
      some (o9.1, o9.2)
  else
    (fX7_no a0 (-1002) o1.2).bind fun o10 =>
    some (o10.1, o10.2)
theorem fX7_drawn_ex : ∃ f : Nat → Int32 → MM → Option (Int32 × MM), f = fX7_drawn_b := ⟨_, rfl⟩
noncomputable def fX7_drawn : Nat → Int32 → MM → Option (Int32 × MM) := Classical.choose fX7_drawn_ex
theorem fX7_drawn_eq : fX7_drawn = fX7_drawn_b := Classical.choose_spec fX7_drawn_ex
noncomputable def fX7_seed_b (a0 : Nat) (a1 : Int32) (m : MM) : Option (Int32 × MM) :=
  some ((m.1 7 a0 12), ((upI m.1 7 a0 12 a1), m.2))
theorem fX7_seed_ex : ∃ f : Nat → Int32 → MM → Option (Int32 × MM), f = fX7_seed_b := ⟨_, rfl⟩
noncomputable def fX7_seed : Nat → Int32 → MM → Option (Int32 × MM) := Classical.choose fX7_seed_ex
theorem fX7_seed_eq : fX7_seed = fX7_seed_b := Classical.choose_spec fX7_seed_ex
noncomputable def fX7_image_b (a0 : Nat) (m : MM) : Option (Int32 × MM) :=
  (fX7_keep a0 0 ((upI m.1 7 a0 23 1), m.2)).bind fun o1 =>
  some (1, o1.2)
theorem fX7_image_ex : ∃ f : Nat → MM → Option (Int32 × MM), f = fX7_image_b := ⟨_, rfl⟩
noncomputable def fX7_image : Nat → MM → Option (Int32 × MM) := Classical.choose fX7_image_ex
theorem fX7_image_eq : fX7_image = fX7_image_b := Classical.choose_spec fX7_image_ex
noncomputable def fX7_back_b25 (a0 : Nat) (s : Int32) (m : MM) : Option (((Int32) ⊕ (Unit)) × MM) :=
  if 8 ≤ s then
    some (Sum.inr (), m)
  else
    bif inB s 8 then
      if (m.1 59 0 s.toNatClampNeg) < (10 + (m.1 7 a0 4)) then
        some (Sum.inl (s + 1), m)
      else
        bif inB s 8 then
          some (Sum.inl (s + 1), ((upI m.1 59 0 s.toNatClampNeg (-1)), m.2))
        else none
    else none
noncomputable def fX7_back_b (a0 : Nat) (m : MM) : Option (Int32 × MM) :=
  if ¬ (m.1 7 a0 23) = 0 then
    (fX7_again a0 0 m).bind fun o1 =>
    (loopF 1000 (fX7_back_b25 a0) 0 o1.2).bind fun o2 =>
    some (1, o2.2)
  else
    (fX7_no a0 (-1005) m).bind fun o3 =>
    some (o3.1, o3.2)
theorem fX7_back_ex : ∃ f : Nat → MM → Option (Int32 × MM), f = fX7_back_b := ⟨_, rfl⟩
noncomputable def fX7_back : Nat → MM → Option (Int32 × MM) := Classical.choose fX7_back_ex
theorem fX7_back_eq : fX7_back = fX7_back_b := Classical.choose_spec fX7_back_ex
noncomputable def fX7_status_b106 (a0 : Nat) (s : Int32 × Int32) (m : MM) : Option (((Int32 × Int32) ⊕ (Int32)) × MM) :=
  if 8 ≤ s.2 then
    some (Sum.inr s.1, m)
  else
    bif inB s.2 8 then
      if (m.1 59 0 s.2.toNatClampNeg) = (-1) then
        some (Sum.inl (s.1, (s.2 + 1)), m)
      else
        some (Sum.inl ((s.1 + 1), (s.2 + 1)), m)
    else none
noncomputable def fX7_status_b (a0 : Nat) (a1 : Int32) (m : MM) : Option (Int32 × MM) :=
  if a1 = 0 then
    some ((m.1 7 a0 4), m)
  else
    if a1 = 1 then
      some ((m.1 7 a0 10), m)
    else
      if a1 = 2 then
        some ((m.1 7 a0 0), m)
      else
        if a1 = 3 then
          bif inB (a1 - 3) 2 then
            some ((m.1 51 0 (a1 - 3).toNatClampNeg), m)
          else none
        else
          if a1 = 4 then
            bif inB (a1 - 3) 2 then
              some ((m.1 51 0 (a1 - 3).toNatClampNeg), m)
            else none
          else
            if a1 = 5 then
              some ((m.1 7 a0 3), m)
            else
              if a1 = 6 then
                (fX7_areSo a0 0 m).bind fun o3 =>
                (fJ6_bitCount_0f7a4 o3.1 o3.2).bind fun o4 =>
                some (o4.1, o4.2)
              else
                if a1 = 7 then
                  some ((m.1 7 a0 13), m)
                else
                  if a1 = 8 then
                    some ((m.1 7 a0 12), m)
                  else
                    if a1 = 9 then
                      (loopF 1000 (fX7_status_b106 a0) (0, 0) m).bind fun o2 =>
                      some (o2.1, o2.2)
                    else
                      (fX7_within a1 12 16 m).bind fun o1 =>
                      if (bI o1.1) = 0 then
                        some ((-1), o1.2)
                      else
                        bif inB (a1 - 10) 7 then
                          some ((o1.2.1 61 0 (a1 - 10).toNatClampNeg), o1.2)
                        else none
theorem fX7_status_ex : ∃ f : Nat → Int32 → MM → Option (Int32 × MM), f = fX7_status_b := ⟨_, rfl⟩
noncomputable def fX7_status : Nat → Int32 → MM → Option (Int32 × MM) := Classical.choose fX7_status_ex
theorem fX7_status_eq : fX7_status = fX7_status_b := Classical.choose_spec fX7_status_ex
