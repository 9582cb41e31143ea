/-! THE LINKS, by program: what the constant pools mean, each with its place among the words of the tables -/
def cnL : List String := [RX0, RX1, RX2, RX3, RX4, RX5, RX6, RX7, RL, RJ0, RJ1, RJ2, RJ3, RJ6, RJ9, RJ10]
def cn (o : Nat) : String := cnL.getD o ""
def TT (c : Nat) : u_T := (vwCl.getD c ("", TX0, 0)).2.1
def NF (c : Nat) : Nat := (vwCl.getD c ("", TX0, 0)).2.2
def WSg : List Cond := lw_tbl.filter goodWord
def posOK (i : Nat) (w : Cond) : Bool := decide (lw_tbl[i]? = some w) && goodWord w
def FLt : List (Nat × Nat × Nat × Nat × Nat) := [(0, 9, 0, 0, 97), (0, 15, 0, 1, 100), (0, 18, 0, 2, 103), (0, 21, 0, 3, 107), (0, 24, 0, 4, 110), (1, 9, 1, 0, 249), (1, 15, 1, 1, 251), (1, 18, 1, 2, 253), (2, 9, 2, 0, 201), (2, 15, 2, 1, 203), (2, 18, 2, 2, 205), (2, 22, 2, 3, 206), (2, 25, 2, 4, 207), (2, 28, 2, 5, 208), (2, 31, 2, 6, 209), (2, 58, 5, 0, 146), (2, 81, 5, 1, 149), (2, 84, 5, 2, 152), (2, 87, 5, 6, 161), (3, 9, 3, 0, 231), (3, 15, 3, 1, 232), (3, 18, 0, 2, 104), (3, 24, 0, 4, 111), (4, 7, 4, 0, 131), (4, 13, 4, 1, 134), (4, 16, 4, 2, 136), (5, 9, 5, 0, 145), (5, 15, 5, 1, 148), (5, 18, 5, 2, 151), (5, 21, 5, 3, 154), (5, 24, 5, 4, 156), (5, 27, 5, 5, 158), (5, 30, 5, 6, 160), (5, 33, 5, 7, 163), (5, 39, 5, 8, 164), (5, 45, 5, 9, 165), (5, 50, 5, 10, 166), (5, 55, 5, 11, 167), (5, 92, 0, 3, 108), (5, 95, 0, 4, 112), (5, 98, 0, 2, 106), (5, 101, 4, 0, 133), (5, 110, 0, 0, 99), (5, 113, 0, 1, 101), (6, 10, 6, 0, 263), (6, 16, 6, 1, 264), (6, 19, 6, 2, 265), (6, 22, 6, 3, 266), (6, 28, 6, 4, 267), (6, 35, 6, 5, 268), (6, 39, 6, 6, 269), (6, 46, 6, 7, 270), (6, 50, 6, 8, 271), (6, 56, 6, 9, 272), (6, 63, 6, 10, 273), (6, 67, 6, 11, 274), (6, 70, 6, 12, 275), (6, 75, 6, 13, 276), (6, 78, 6, 14, 277), (6, 117, 1, 0, 250), (6, 125, 1, 2, 254), (6, 149, 0, 0, 98), (6, 155, 0, 2, 105), (6, 158, 5, 2, 153), (6, 165, 5, 0, 147), (6, 185, 4, 0, 132), (6, 188, 4, 1, 135), (6, 191, 4, 2, 137), (6, 200, 5, 1, 150), (6, 209, 2, 0, 202), (6, 220, 2, 1, 204), (6, 227, 0, 3, 109), (6, 258, 5, 6, 162), (6, 272, 1, 1, 252), (6, 273, 0, 1, 102), (6, 301, 5, 5, 159), (6, 304, 0, 4, 113), (6, 337, 5, 3, 155), (6, 343, 5, 4, 157), (7, 7, 7, 1, 937), (7, 13, 7, 2, 938), (7, 16, 7, 5, 941), (7, 19, 7, 6, 942), (7, 22, 7, 7, 943), (7, 25, 7, 8, 944), (7, 28, 7, 9, 945), (7, 31, 7, 11, 947), (7, 34, 7, 14, 950), (7, 37, 7, 19, 955), (7, 40, 7, 20, 956), (7, 43, 7, 21, 957), (7, 47, 7, 22, 958), (7, 50, 7, 24, 960), (7, 53, 7, 25, 961), (7, 56, 7, 26, 962), (7, 59, 7, 27, 963), (7, 62, 7, 28, 964), (7, 65, 7, 29, 965), (7, 68, 7, 32, 968), (7, 71, 7, 0, 936), (7, 75, 7, 12, 948), (7, 82, 7, 4, 940), (7, 85, 7, 10, 946), (7, 133, 7, 13, 949), (7, 136, 7, 16, 952), (7, 139, 7, 15, 951), (7, 142, 7, 17, 953), (7, 151, 7, 18, 954), (7, 262, 7, 30, 966), (7, 265, 7, 31, 967), (7, 281, 7, 3, 939), (7, 288, 7, 23, 959)]
set_option maxRecDepth 100000 in
theorem FLt_ok : FLt.all (fun e => decide (e.2.2.1 < 8) && decide (e.2.2.2.1 < NF e.2.2.1) && posOK e.2.2.2.2 (.fieldLink (cn e.1) e.2.1 (TT e.2.2.1 e.2.2.2.1).1 (TT e.2.2.1 e.2.2.2.1).2.1 (TT e.2.2.1 e.2.2.2.1).2.2.1)) = true := by decide +kernel
abbrev MIe : Type := MethodName × ByteArray × Nat × Option FieldType × Nat
/-- what the tables say of a method: its code word; and what a program decides -/
def miOK (e : MIe) : Prop := Cond.code e.1 e.2.1 e.2.2.1 e.2.2.2.1 ∈ WSg
theorem miOK_of {y : MethodName} {c : ByteArray} {n : Nat} {r : Option FieldType} {o : Nat} (i : Nat) (h : lw_tbl[i]? = some (.code y c n r)) : miOK (y, c, n, r, o) := List.mem_filter.mpr ⟨List.mem_of_getElem? h, rfl⟩
def MI0 : List MIe := [(yX0_init, cX0_init, 1, (Option.none : Option Jvm.ClassFile.FieldType), 0),
  (yX0_start, cX0_start, 5, (Option.none : Option Jvm.ClassFile.FieldType), 0),
  (yX0_become, cX0_become, 2, (Option.none : Option Jvm.ClassFile.FieldType), 0),
  (yX0_tellOf, cX0_tellOf, 2, (Option.some Jvm.ClassFile.FieldType.int), 0),
  (yX1_init, cX1_init, 1, (Option.none : Option Jvm.ClassFile.FieldType), 1),
  (yX1_isEmpty, cX1_isEmpty, 1, (Option.some Jvm.ClassFile.FieldType.boolean), 1),
  (yX1_isRow, cX1_isRow, 1, (Option.some Jvm.ClassFile.FieldType.boolean), 1),
  (yX1_isBottle, cX1_isBottle, 1, (Option.some Jvm.ClassFile.FieldType.boolean), 1),
  (yX1_whyNoRow, cX1_whyNoRow, 1, (Option.some Jvm.ClassFile.FieldType.int), 1),
  (yX1_hasPlace, cX1_hasPlace, 2, (Option.some Jvm.ClassFile.FieldType.boolean), 1),
  (yX1_hasSpan, cX1_hasSpan, 3, (Option.some Jvm.ClassFile.FieldType.boolean), 1),
  (yX1_startRow, cX1_startRow, 4, (Option.none : Option Jvm.ClassFile.FieldType), 1),
  (yX1_put, cX1_put, 4, (Option.none : Option Jvm.ClassFile.FieldType), 1),
  (yX1_take, cX1_take, 2, (Option.some Jvm.ClassFile.FieldType.long), 1),
  (yX1_narrowed, cX1_narrowed, 3, (Option.some Jvm.ClassFile.FieldType.long), 1),
  (yX2_init, cX2_init, 1, (Option.none : Option Jvm.ClassFile.FieldType), 2),
  (yX2_hasRoom, cX2_hasRoom, 1, (Option.some Jvm.ClassFile.FieldType.boolean), 2),
  (yX2_append, cX2_append, 2, (Option.some Jvm.ClassFile.FieldType.int), 2),
  (yX2_readInto, cX2_readInto, 4, (Option.some Jvm.ClassFile.FieldType.int), 2),
  (yX2_readStatement, cX2_readStatement, 6, (Option.some Jvm.ClassFile.FieldType.boolean), 2)]
set_option maxRecDepth 100000 in
theorem MI0_ok : ∀ e ∈ MI0, miOK e := List.forall_mem_cons.mpr ⟨miOK_of 95 rfl, List.forall_mem_cons.mpr ⟨miOK_of 617 rfl, List.forall_mem_cons.mpr ⟨miOK_of 499 rfl, List.forall_mem_cons.mpr ⟨miOK_of 627 rfl, List.forall_mem_cons.mpr ⟨miOK_of 247 rfl, List.forall_mem_cons.mpr ⟨miOK_of 406 rfl, List.forall_mem_cons.mpr ⟨miOK_of 341 rfl, List.forall_mem_cons.mpr ⟨miOK_of 349 rfl, List.forall_mem_cons.mpr ⟨miOK_of 345 rfl, List.forall_mem_cons.mpr ⟨miOK_of 353 rfl, List.forall_mem_cons.mpr ⟨miOK_of 372 rfl, List.forall_mem_cons.mpr ⟨miOK_of 327 rfl, List.forall_mem_cons.mpr ⟨miOK_of 357 rfl, List.forall_mem_cons.mpr ⟨miOK_of 383 rfl, List.forall_mem_cons.mpr ⟨miOK_of 363 rfl, List.forall_mem_cons.mpr ⟨miOK_of 199 rfl, List.forall_mem_cons.mpr ⟨miOK_of 478 rfl, List.forall_mem_cons.mpr ⟨miOK_of 482 rfl, List.forall_mem_cons.mpr ⟨miOK_of 508 rfl, List.forall_mem_cons.mpr ⟨miOK_of 512 rfl, fun _ h => absurd h List.not_mem_nil⟩⟩⟩⟩⟩⟩⟩⟩⟩⟩⟩⟩⟩⟩⟩⟩⟩⟩⟩⟩
def MI1 : List MIe := [(yX2_perform, cX2_perform, 3, (Option.none : Option Jvm.ClassFile.FieldType), 2),
  (yX2_numbersOf, cX2_numbersOf, 1, (Option.some Jvm.ClassFile.FieldType.int), 2),
  (yX2_mostOf, cX2_mostOf, 3, (Option.some Jvm.ClassFile.FieldType.int), 2),
  (yX2_wordNumber, cX2_wordNumber, 1, (Option.some Jvm.ClassFile.FieldType.int), 2),
  (yX2_spells, cX2_spells, 3, (Option.some Jvm.ClassFile.FieldType.boolean), 2),
  (yX2_byteAt, cX2_byteAt, 2, (Option.some Jvm.ClassFile.FieldType.int), 2),
  (yX2_isLetter, cX2_isLetter, 1, (Option.some Jvm.ClassFile.FieldType.boolean), 2),
  (yX2_isDigit, cX2_isDigit, 1, (Option.some Jvm.ClassFile.FieldType.boolean), 2),
  (yX2_scan, cX2_scan, 2, (Option.none : Option Jvm.ClassFile.FieldType), 2),
  (yX2_scanNumber, cX2_scanNumber, 1, (Option.none : Option Jvm.ClassFile.FieldType), 2),
  (yX3_init, cX3_init, 1, (Option.none : Option Jvm.ClassFile.FieldType), 3),
  (yX3_mark, cX3_mark, 3, (Option.none : Option Jvm.ClassFile.FieldType), 3),
  (yX3_cellAt, cX3_cellAt, 2, (Option.some Jvm.ClassFile.FieldType.int), 3),
  (yX3_howAt, cX3_howAt, 2, (Option.some Jvm.ClassFile.FieldType.int), 3),
  (yX3_cellsVisited, cX3_cellsVisited, 4, (Option.some Jvm.ClassFile.FieldType.int), 3),
  (yX4_init, cX4_init, 1, (Option.none : Option Jvm.ClassFile.FieldType), 4),
  (yX4_start, cX4_start, 4, (Option.none : Option Jvm.ClassFile.FieldType), 4),
  (yX4_become, cX4_become, 2, (Option.none : Option Jvm.ClassFile.FieldType), 4),
  (yX4_tellOf, cX4_tellOf, 2, (Option.some Jvm.ClassFile.FieldType.int), 4),
  (yX4_stroll, cX4_stroll, 3, (Option.none : Option Jvm.ClassFile.FieldType), 4)]
set_option maxRecDepth 100000 in
theorem MI1_ok : ∀ e ∈ MI1, miOK e := List.forall_mem_cons.mpr ⟨miOK_of 607 rfl, List.forall_mem_cons.mpr ⟨miOK_of 600 rfl, List.forall_mem_cons.mpr ⟨miOK_of 603 rfl, List.forall_mem_cons.mpr ⟨miOK_of 534 rfl, List.forall_mem_cons.mpr ⟨miOK_of 539 rfl, List.forall_mem_cons.mpr ⟨miOK_of 520 rfl, List.forall_mem_cons.mpr ⟨miOK_of 523 rfl, List.forall_mem_cons.mpr ⟨miOK_of 526 rfl, List.forall_mem_cons.mpr ⟨miOK_of 516 rfl, List.forall_mem_cons.mpr ⟨miOK_of 530 rfl, List.forall_mem_cons.mpr ⟨miOK_of 229 rfl, List.forall_mem_cons.mpr ⟨miOK_of 654 rfl, List.forall_mem_cons.mpr ⟨miOK_of 677 rfl, List.forall_mem_cons.mpr ⟨miOK_of 681 rfl, List.forall_mem_cons.mpr ⟨miOK_of 785 rfl, List.forall_mem_cons.mpr ⟨miOK_of 129 rfl, List.forall_mem_cons.mpr ⟨miOK_of 448 rfl, List.forall_mem_cons.mpr ⟨miOK_of 503 rfl, List.forall_mem_cons.mpr ⟨miOK_of 457 rfl, List.forall_mem_cons.mpr ⟨miOK_of 658 rfl, fun _ h => absurd h List.not_mem_nil⟩⟩⟩⟩⟩⟩⟩⟩⟩⟩⟩⟩⟩⟩⟩⟩⟩⟩⟩⟩
def MI2 : List MIe := [(yX5_init, cX5_init, 2, (Option.none : Option Jvm.ClassFile.FieldType), 5),
  (yX5_become, cX5_become, 5, (Option.none : Option Jvm.ClassFile.FieldType), 5),
  (yX5_bottleAt, cX5_bottleAt, 2, (Option.some (Jvm.ClassFile.FieldType.object "AddressedToYou$Bottle")), 5),
  (yX5_walkerAt, cX5_walkerAt, 2, (Option.some (Jvm.ClassFile.FieldType.object "AddressedToYou$Walker")), 5),
  (yX5_hasCell, cX5_hasCell, 2, (Option.some Jvm.ClassFile.FieldType.boolean), 5),
  (yX5_hasRoomForBottle, cX5_hasRoomForBottle, 1, (Option.some Jvm.ClassFile.FieldType.boolean), 5),
  (yX5_hasRoomForWalker, cX5_hasRoomForWalker, 1, (Option.some Jvm.ClassFile.FieldType.boolean), 5),
  (yX5_flow, cX5_flow, 2, (Option.some Jvm.ClassFile.FieldType.int), 5),
  (yX5_setFlow, cX5_setFlow, 3, (Option.none : Option Jvm.ClassFile.FieldType), 5),
  (yX5_addBottle, cX5_addBottle, 7, (Option.some Jvm.ClassFile.FieldType.int), 5),
  (yX5_addWalker, cX5_addWalker, 6, (Option.some Jvm.ClassFile.FieldType.int), 5),
  (yX5_addressedTo, cX5_addressedTo, 5, (Option.some Jvm.ClassFile.FieldType.int), 5),
  (yX5_afloatIn, cX5_afloatIn, 5, (Option.some Jvm.ClassFile.FieldType.int), 5),
  (yX5_walkersAt, cX5_walkersAt, 5, (Option.some Jvm.ClassFile.FieldType.int), 5),
  (yX5_dayBehind, cX5_dayBehind, 2, (Option.some Jvm.ClassFile.FieldType.int), 5),
  (yX5_push, cX5_push, 5, (Option.some Jvm.ClassFile.FieldType.int), 5),
  (yX5_spend, cX5_spend, 5, (Option.none : Option Jvm.ClassFile.FieldType), 5),
  (yX5_follow, cX5_follow, 6, (Option.none : Option Jvm.ClassFile.FieldType), 5),
  (yX5_soonest, cX5_soonest, 5, (Option.some Jvm.ClassFile.FieldType.int), 5),
  (yX5_daysTillFound, cX5_daysTillFound, 2, (Option.some Jvm.ClassFile.FieldType.int), 5)]
set_option maxRecDepth 100000 in
theorem MI2_ok : ∀ e ∈ MI2, miOK e := List.forall_mem_cons.mpr ⟨miOK_of 86 rfl, List.forall_mem_cons.mpr ⟨miOK_of 494 rfl, List.forall_mem_cons.mpr ⟨miOK_of 395 rfl, List.forall_mem_cons.mpr ⟨miOK_of 444 rfl, List.forall_mem_cons.mpr ⟨miOK_of 431 rfl, List.forall_mem_cons.mpr ⟨miOK_of 597 rfl, List.forall_mem_cons.mpr ⟨miOK_of 435 rfl, List.forall_mem_cons.mpr ⟨miOK_of 419 rfl, List.forall_mem_cons.mpr ⟨miOK_of 466 rfl, List.forall_mem_cons.mpr ⟨miOK_of 612 rfl, List.forall_mem_cons.mpr ⟨miOK_of 439 rfl, List.forall_mem_cons.mpr ⟨miOK_of 638 rfl, List.forall_mem_cons.mpr ⟨miOK_of 816 rfl, List.forall_mem_cons.mpr ⟨miOK_of 820 rfl, List.forall_mem_cons.mpr ⟨miOK_of 662 rfl, List.forall_mem_cons.mpr ⟨miOK_of 415 rfl, List.forall_mem_cons.mpr ⟨miOK_of 667 rfl, List.forall_mem_cons.mpr ⟨miOK_of 650 rfl, List.forall_mem_cons.mpr ⟨miOK_of 699 rfl, List.forall_mem_cons.mpr ⟨miOK_of 707 rfl, fun _ h => absurd h List.not_mem_nil⟩⟩⟩⟩⟩⟩⟩⟩⟩⟩⟩⟩⟩⟩⟩⟩⟩⟩⟩⟩
def MI3 : List MIe := [(yX5_countFound, cX5_countFound, 5, (Option.some Jvm.ClassFile.FieldType.int), 5),
  (yX5_passDay, cX5_passDay, 5, (Option.some Jvm.ClassFile.FieldType.int), 5),
  (yX5_passDrawnDay, cX5_passDrawnDay, 3, (Option.some Jvm.ClassFile.FieldType.int), 5),
  (yX5_draw, cX5_draw, 2, (Option.some Jvm.ClassFile.FieldType.int), 5),
  (yX6_init, cX6_init, 2, (Option.none : Option Jvm.ClassFile.FieldType), 6),
  (yX6_row, cX6_row, 5, (Option.some Jvm.ClassFile.FieldType.int), 6),
  (yX6_set, cX6_set, 6, (Option.some Jvm.ClassFile.FieldType.int), 6),
  (yX6_copy, cX6_copy, 9, (Option.some Jvm.ClassFile.FieldType.int), 6),
  (yX6_element, cX6_element, 4, (Option.some Jvm.ClassFile.FieldType.long), 6),
  (yX6_holds, cX6_holds, 3, (Option.some Jvm.ClassFile.FieldType.int), 6),
  (yX6_show, cX6_show, 5, (Option.some Jvm.ClassFile.FieldType.int), 6),
  (yX6_says, cX6_says, 5, (Option.some Jvm.ClassFile.FieldType.int), 6),
  (yX6_paves, cX6_paves, 3, (Option.some Jvm.ClassFile.FieldType.int), 6),
  (yX6_walker, cX6_walker, 4, (Option.some Jvm.ClassFile.FieldType.int), 6),
  (yX6_sends, cX6_sends, 7, (Option.some Jvm.ClassFile.FieldType.int), 6),
  (yX6_current, cX6_current, 4, (Option.some Jvm.ClassFile.FieldType.int), 6),
  (yX6_tell, cX6_tell, 4, (Option.some Jvm.ClassFile.FieldType.int), 6),
  (yX6_feed, cX6_feed, 2, (Option.some Jvm.ClassFile.FieldType.int), 6),
  (yX6_wipe, cX6_wipe, 2, (Option.some Jvm.ClassFile.FieldType.int), 6),
  (yX6_coast, cX6_coast, 2, (Option.some Jvm.ClassFile.FieldType.int), 6)]
set_option maxRecDepth 100000 in
theorem MI3_ok : ∀ e ∈ MI3, miOK e := List.forall_mem_cons.mpr ⟨miOK_of 695 rfl, List.forall_mem_cons.mpr ⟨miOK_of 887 rfl, List.forall_mem_cons.mpr ⟨miOK_of 895 rfl, List.forall_mem_cons.mpr ⟨miOK_of 899 rfl, List.forall_mem_cons.mpr ⟨miOK_of 78 rfl, List.forall_mem_cons.mpr ⟨miOK_of 312 rfl, List.forall_mem_cons.mpr ⟨miOK_of 337 rfl, List.forall_mem_cons.mpr ⟨miOK_of 367 rfl, List.forall_mem_cons.mpr ⟨miOK_of 379 rfl, List.forall_mem_cons.mpr ⟨miOK_of 387 rfl, List.forall_mem_cons.mpr ⟨miOK_of 391 rfl, List.forall_mem_cons.mpr ⟨miOK_of 399 rfl, List.forall_mem_cons.mpr ⟨miOK_of 423 rfl, List.forall_mem_cons.mpr ⟨miOK_of 427 rfl, List.forall_mem_cons.mpr ⟨miOK_of 452 rfl, List.forall_mem_cons.mpr ⟨miOK_of 461 rfl, List.forall_mem_cons.mpr ⟨miOK_of 470 rfl, List.forall_mem_cons.mpr ⟨miOK_of 474 rfl, List.forall_mem_cons.mpr ⟨miOK_of 486 rfl, List.forall_mem_cons.mpr ⟨miOK_of 490 rfl, fun _ h => absurd h List.not_mem_nil⟩⟩⟩⟩⟩⟩⟩⟩⟩⟩⟩⟩⟩⟩⟩⟩⟩⟩⟩⟩
def MI4 : List MIe := [(yX6_bottleOf, cX6_bottleOf, 4, (Option.some Jvm.ClassFile.FieldType.int), 6),
  (yX6_walkerOf, cX6_walkerOf, 4, (Option.some Jvm.ClassFile.FieldType.int), 6),
  (yX6_currentAt, cX6_currentAt, 2, (Option.some Jvm.ClassFile.FieldType.int), 6),
  (yX6_ahead, cX6_ahead, 5, (Option.some Jvm.ClassFile.FieldType.int), 6),
  (yX6_walks, cX6_walks, 5, (Option.some Jvm.ClassFile.FieldType.int), 6),
  (yX6_found, cX6_found, 2, (Option.some Jvm.ClassFile.FieldType.int), 6),
  (yX6_when, cX6_when, 3, (Option.some Jvm.ClassFile.FieldType.int), 6),
  (yX6_meets, cX6_meets, 5, (Option.some Jvm.ClassFile.FieldType.int), 6),
  (yX6_finder, cX6_finder, 7, (Option.some Jvm.ClassFile.FieldType.int), 6),
  (yX6_two, cX6_two, 6, (Option.some Jvm.ClassFile.FieldType.int), 6),
  (yX6_aim, cX6_aim, 10, (Option.some Jvm.ClassFile.FieldType.int), 6),
  (yX6_walk, cX6_walk, 9, (Option.some Jvm.ClassFile.FieldType.int), 6),
  (yX6_fits, cX6_fits, 10, (Option.some Jvm.ClassFile.FieldType.int), 6),
  (yX6_from, cX6_from, 7, (Option.some Jvm.ClassFile.FieldType.int), 6),
  (yX6_pairs, cX6_pairs, 6, (Option.some Jvm.ClassFile.FieldType.int), 6),
  (yX6_mended, cX6_mended, 13, (Option.some Jvm.ClassFile.FieldType.int), 6),
  (yX6_odds, cX6_odds, 9, (Option.some Jvm.ClassFile.FieldType.int), 6),
  (yX6_windFor, cX6_windFor, 7, (Option.some Jvm.ClassFile.FieldType.int), 6),
  (yX6_bestWind, cX6_bestWind, 7, (Option.some Jvm.ClassFile.FieldType.int), 6),
  (yX6_who, cX6_who, 6, (Option.some Jvm.ClassFile.FieldType.int), 6)]
set_option maxRecDepth 100000 in
theorem MI4_ok : ∀ e ∈ MI4, miOK e := List.forall_mem_cons.mpr ⟨miOK_of 623 rfl, List.forall_mem_cons.mpr ⟨miOK_of 634 rfl, List.forall_mem_cons.mpr ⟨miOK_of 642 rfl, List.forall_mem_cons.mpr ⟨miOK_of 646 rfl, List.forall_mem_cons.mpr ⟨miOK_of 685 rfl, List.forall_mem_cons.mpr ⟨miOK_of 691 rfl, List.forall_mem_cons.mpr ⟨miOK_of 703 rfl, List.forall_mem_cons.mpr ⟨miOK_of 711 rfl, List.forall_mem_cons.mpr ⟨miOK_of 719 rfl, List.forall_mem_cons.mpr ⟨miOK_of 723 rfl, List.forall_mem_cons.mpr ⟨miOK_of 727 rfl, List.forall_mem_cons.mpr ⟨miOK_of 733 rfl, List.forall_mem_cons.mpr ⟨miOK_of 742 rfl, List.forall_mem_cons.mpr ⟨miOK_of 752 rfl, List.forall_mem_cons.mpr ⟨miOK_of 756 rfl, List.forall_mem_cons.mpr ⟨miOK_of 781 rfl, List.forall_mem_cons.mpr ⟨miOK_of 790 rfl, List.forall_mem_cons.mpr ⟨miOK_of 800 rfl, List.forall_mem_cons.mpr ⟨miOK_of 804 rfl, List.forall_mem_cons.mpr ⟨miOK_of 808 rfl, fun _ h => absurd h List.not_mem_nil⟩⟩⟩⟩⟩⟩⟩⟩⟩⟩⟩⟩⟩⟩⟩⟩⟩⟩⟩⟩
def MI5 : List MIe := [(yX6_there, cX6_there, 3, (Option.some Jvm.ClassFile.FieldType.int), 6),
  (yX6_settles, cX6_settles, 6, (Option.some Jvm.ClassFile.FieldType.int), 6),
  (yX6_reach, cX6_reach, 7, (Option.some Jvm.ClassFile.FieldType.int), 6),
  (yX6_busiest, cX6_busiest, 7, (Option.some Jvm.ClassFile.FieldType.int), 6),
  (yX6_round, cX6_round, 4, (Option.some Jvm.ClassFile.FieldType.int), 6),
  (yX6_join, cX6_join, 7, (Option.some Jvm.ClassFile.FieldType.int), 6),
  (yX6_breaks, cX6_breaks, 4, (Option.some Jvm.ClassFile.FieldType.int), 6),
  (yX6_first, cX6_first, 7, (Option.some Jvm.ClassFile.FieldType.int), 6),
  (yX6_next, cX6_next, 4, (Option.some Jvm.ClassFile.FieldType.int), 6),
  (yX6_stays, cX6_stays, 5, (Option.some Jvm.ClassFile.FieldType.int), 6),
  (yX6_strays, cX6_strays, 4, (Option.some Jvm.ClassFile.FieldType.int), 6),
  (yX6_ofKind, cX6_ofKind, 5, (Option.some Jvm.ClassFile.FieldType.int), 6),
  (yX6_judge, cX6_judge, 7, (Option.some Jvm.ClassFile.FieldType.int), 6),
  (yX6_thrown, cX6_thrown, 6, (Option.some Jvm.ClassFile.FieldType.int), 6),
  (yX6_days, cX6_days, 3, (Option.some Jvm.ClassFile.FieldType.int), 6),
  (yX6_drawn, cX6_drawn, 4, (Option.some Jvm.ClassFile.FieldType.int), 6),
  (yX6_seed, cX6_seed, 3, (Option.some Jvm.ClassFile.FieldType.int), 6),
  (yX6_image, cX6_image, 1, (Option.some Jvm.ClassFile.FieldType.int), 6),
  (yX6_back, cX6_back, 3, (Option.some Jvm.ClassFile.FieldType.int), 6),
  (yX6_status, cX6_status, 2, (Option.some Jvm.ClassFile.FieldType.int), 6)]
set_option maxRecDepth 100000 in
theorem MI5_ok : ∀ e ∈ MI5, miOK e := List.forall_mem_cons.mpr ⟨miOK_of 812 rfl, List.forall_mem_cons.mpr ⟨miOK_of 824 rfl, List.forall_mem_cons.mpr ⟨miOK_of 828 rfl, List.forall_mem_cons.mpr ⟨miOK_of 833 rfl, List.forall_mem_cons.mpr ⟨miOK_of 841 rfl, List.forall_mem_cons.mpr ⟨miOK_of 845 rfl, List.forall_mem_cons.mpr ⟨miOK_of 849 rfl, List.forall_mem_cons.mpr ⟨miOK_of 853 rfl, List.forall_mem_cons.mpr ⟨miOK_of 857 rfl, List.forall_mem_cons.mpr ⟨miOK_of 861 rfl, List.forall_mem_cons.mpr ⟨miOK_of 865 rfl, List.forall_mem_cons.mpr ⟨miOK_of 869 rfl, List.forall_mem_cons.mpr ⟨miOK_of 873 rfl, List.forall_mem_cons.mpr ⟨miOK_of 877 rfl, List.forall_mem_cons.mpr ⟨miOK_of 883 rfl, List.forall_mem_cons.mpr ⟨miOK_of 891 rfl, List.forall_mem_cons.mpr ⟨miOK_of 905 rfl, List.forall_mem_cons.mpr ⟨miOK_of 909 rfl, List.forall_mem_cons.mpr ⟨miOK_of 913 rfl, List.forall_mem_cons.mpr ⟨miOK_of 917 rfl, fun _ h => absurd h List.not_mem_nil⟩⟩⟩⟩⟩⟩⟩⟩⟩⟩⟩⟩⟩⟩⟩⟩⟩⟩⟩⟩
def MI6 : List MIe := [(yX6_within, cX6_within, 3, (Option.some Jvm.ClassFile.FieldType.boolean), 6),
  (yX6_isKind, cX6_isKind, 1, (Option.some Jvm.ClassFile.FieldType.boolean), 6),
  (yX6_isOrIsUnder, cX6_isOrIsUnder, 4, (Option.some Jvm.ClassFile.FieldType.boolean), 6),
  (yX6_toughnessOf, cX6_toughnessOf, 2, (Option.some Jvm.ClassFile.FieldType.int), 6),
  (yX6_refuse, cX6_refuse, 3, (Option.some Jvm.ClassFile.FieldType.int), 6),
  (yX6_shelfAt, cX6_shelfAt, 2, (Option.some (Jvm.ClassFile.FieldType.object "AddressedToYou$Shelf")), 6),
  (yX6_shelvesInUse, cX6_shelvesInUse, 3, (Option.some Jvm.ClassFile.FieldType.int), 6),
  (yX6_firstMeeting, cX6_firstMeeting, 4, (Option.some Jvm.ClassFile.FieldType.int), 6),
  (yX6_foundWalking, cX6_foundWalking, 9, (Option.some Jvm.ClassFile.FieldType.int), 6),
  (yX6_driftsAlong, cX6_driftsAlong, 8, (Option.some Jvm.ClassFile.FieldType.boolean), 6),
  (yX6_endsBy, cX6_endsBy, 7, (Option.some Jvm.ClassFile.FieldType.int), 6),
  (yX6_fillVisited, cX6_fillVisited, 3, (Option.none : Option Jvm.ClassFile.FieldType), 6),
  (yX6_fillMeetings, cX6_fillMeetings, 5, (Option.none : Option Jvm.ClassFile.FieldType), 6),
  (yX6_fillBestPairs, cX6_fillBestPairs, 5, (Option.none : Option Jvm.ClassFile.FieldType), 6),
  (yX6_bestFrom, cX6_bestFrom, 3, (Option.some Jvm.ClassFile.FieldType.int), 6),
  (yX6_pairingScore, cX6_pairingScore, 5, (Option.some Jvm.ClassFile.FieldType.int), 6),
  (yX6_partnerOf, cX6_partnerOf, 6, (Option.some Jvm.ClassFile.FieldType.int), 6),
  (yX7_init, cX7_init, 2, (Option.none : Option Jvm.ClassFile.FieldType), 7),
  (yX7_no, cX7_no, 2, (Option.some Jvm.ClassFile.FieldType.int), 7),
  (yX7_within, cX7_within, 3, (Option.some Jvm.ClassFile.FieldType.boolean), 7)]
set_option maxRecDepth 100000 in
theorem MI6_ok : ∀ e ∈ MI6, miOK e := List.forall_mem_cons.mpr ⟨miOK_of 319 rfl, List.forall_mem_cons.mpr ⟨miOK_of 402 rfl, List.forall_mem_cons.mpr ⟨miOK_of 409 rfl, List.forall_mem_cons.mpr ⟨miOK_of 630 rfl, List.forall_mem_cons.mpr ⟨miOK_of 323 rfl, List.forall_mem_cons.mpr ⟨miOK_of 316 rfl, List.forall_mem_cons.mpr ⟨miOK_of 928 rfl, List.forall_mem_cons.mpr ⟨miOK_of 715 rfl, List.forall_mem_cons.mpr ⟨miOK_of 737 rfl, List.forall_mem_cons.mpr ⟨miOK_of 746 rfl, List.forall_mem_cons.mpr ⟨miOK_of 794 rfl, List.forall_mem_cons.mpr ⟨miOK_of 837 rfl, List.forall_mem_cons.mpr ⟨miOK_of 760 rfl, List.forall_mem_cons.mpr ⟨miOK_of 764 rfl, List.forall_mem_cons.mpr ⟨miOK_of 768 rfl, List.forall_mem_cons.mpr ⟨miOK_of 772 rfl, List.forall_mem_cons.mpr ⟨miOK_of 777 rfl, List.forall_mem_cons.mpr ⟨miOK_of 934 rfl, List.forall_mem_cons.mpr ⟨miOK_of 1049 rfl, List.forall_mem_cons.mpr ⟨miOK_of 1045 rfl, fun _ h => absurd h List.not_mem_nil⟩⟩⟩⟩⟩⟩⟩⟩⟩⟩⟩⟩⟩⟩⟩⟩⟩⟩⟩⟩
def MI7 : List MIe := [(yX7_isCell, cX7_isCell, 2, (Option.some Jvm.ClassFile.FieldType.boolean), 7),
  (yX7_isBottle, cX7_isBottle, 2, (Option.some Jvm.ClassFile.FieldType.boolean), 7),
  (yX7_isWalker, cX7_isWalker, 2, (Option.some Jvm.ClassFile.FieldType.boolean), 7),
  (yX7_isSuch, cX7_isSuch, 2, (Option.some Jvm.ClassFile.FieldType.boolean), 7),
  (yX7_isTime, cX7_isTime, 1, (Option.some Jvm.ClassFile.FieldType.boolean), 7),
  (yX7_isShelf, cX7_isShelf, 1, (Option.some Jvm.ClassFile.FieldType.boolean), 7),
  (yX7_isRow, cX7_isRow, 2, (Option.some Jvm.ClassFile.FieldType.boolean), 7),
  (yX7_row, cX7_row, 5, (Option.some Jvm.ClassFile.FieldType.int), 7),
  (yX7_noRow, cX7_noRow, 2, (Option.some Jvm.ClassFile.FieldType.int), 7),
  (yX7_kept, cX7_kept, 3, (Option.some Jvm.ClassFile.FieldType.long), 7),
  (yX7_set, cX7_set, 5, (Option.some Jvm.ClassFile.FieldType.int), 7),
  (yX7_copy, cX7_copy, 7, (Option.some Jvm.ClassFile.FieldType.int), 7),
  (yX7_element, cX7_element, 3, (Option.some Jvm.ClassFile.FieldType.long), 7),
  (yX7_holds, cX7_holds, 2, (Option.some Jvm.ClassFile.FieldType.int), 7),
  (yX7_show, cX7_show, 3, (Option.some Jvm.ClassFile.FieldType.int), 7),
  (yX7_isUnder, cX7_isUnder, 2, (Option.some Jvm.ClassFile.FieldType.boolean), 7),
  (yX7_says, cX7_says, 4, (Option.some Jvm.ClassFile.FieldType.int), 7),
  (yX7_paves, cX7_paves, 3, (Option.some Jvm.ClassFile.FieldType.int), 7),
  (yX7_newWalker, cX7_newWalker, 4, (Option.some Jvm.ClassFile.FieldType.int), 7),
  (yX7_walker, cX7_walker, 4, (Option.some Jvm.ClassFile.FieldType.int), 7)]
set_option maxRecDepth 100000 in
theorem MI7_ok : ∀ e ∈ MI7, miOK e := List.forall_mem_cons.mpr ⟨miOK_of 1107 rfl, List.forall_mem_cons.mpr ⟨miOK_of 1084 rfl, List.forall_mem_cons.mpr ⟨miOK_of 1119 rfl, List.forall_mem_cons.mpr ⟨miOK_of 1134 rfl, List.forall_mem_cons.mpr ⟨miOK_of 1227 rfl, List.forall_mem_cons.mpr ⟨miOK_of 1042 rfl, List.forall_mem_cons.mpr ⟨miOK_of 1057 rfl, List.forall_mem_cons.mpr ⟨miOK_of 1039 rfl, List.forall_mem_cons.mpr ⟨miOK_of 1061 rfl, List.forall_mem_cons.mpr ⟨miOK_of 1064 rfl, List.forall_mem_cons.mpr ⟨miOK_of 1053 rfl, List.forall_mem_cons.mpr ⟨miOK_of 1068 rfl, List.forall_mem_cons.mpr ⟨miOK_of 1072 rfl, List.forall_mem_cons.mpr ⟨miOK_of 1076 rfl, List.forall_mem_cons.mpr ⟨miOK_of 1080 rfl, List.forall_mem_cons.mpr ⟨miOK_of 1091 rfl, List.forall_mem_cons.mpr ⟨miOK_of 1088 rfl, List.forall_mem_cons.mpr ⟨miOK_of 1099 rfl, List.forall_mem_cons.mpr ⟨miOK_of 1111 rfl, List.forall_mem_cons.mpr ⟨miOK_of 1103 rfl, fun _ h => absurd h List.not_mem_nil⟩⟩⟩⟩⟩⟩⟩⟩⟩⟩⟩⟩⟩⟩⟩⟩⟩⟩⟩⟩
def MI8 : List MIe := [(yX7_sends, cX7_sends, 5, (Option.some Jvm.ClassFile.FieldType.int), 7),
  (yX7_current, cX7_current, 4, (Option.some Jvm.ClassFile.FieldType.int), 7),
  (yX7_tell, cX7_tell, 4, (Option.some Jvm.ClassFile.FieldType.int), 7),
  (yX7_becomes, cX7_becomes, 6, (Option.none : Option Jvm.ClassFile.FieldType), 7),
  (yX7_thrown, cX7_thrown, 5, (Option.some Jvm.ClassFile.FieldType.int), 7),
  (yX7_feed, cX7_feed, 2, (Option.some Jvm.ClassFile.FieldType.int), 7),
  (yX7_wipe, cX7_wipe, 2, (Option.some Jvm.ClassFile.FieldType.int), 7),
  (yX7_isLetter, cX7_isLetter, 1, (Option.some Jvm.ClassFile.FieldType.boolean), 7),
  (yX7_isDigit, cX7_isDigit, 1, (Option.some Jvm.ClassFile.FieldType.boolean), 7),
  (yX7_next, cX7_next, 2, (Option.none : Option Jvm.ClassFile.FieldType), 7),
  (yX7_isWord, cX7_isWord, 3, (Option.some Jvm.ClassFile.FieldType.boolean), 7),
  (yX7_number, cX7_number, 3, (Option.some Jvm.ClassFile.FieldType.int), 7),
  (yX7_cellTold, cX7_cellTold, 1, (Option.some Jvm.ClassFile.FieldType.int), 7),
  (yX7_comesOne, cX7_comesOne, 4, (Option.some Jvm.ClassFile.FieldType.boolean), 7),
  (yX7_floats, cX7_floats, 5, (Option.some Jvm.ClassFile.FieldType.boolean), 7),
  (yX7_statement, cX7_statement, 3, (Option.some Jvm.ClassFile.FieldType.boolean), 7),
  (yX7_coast, cX7_coast, 3, (Option.some Jvm.ClassFile.FieldType.int), 7),
  (yX7_tough, cX7_tough, 2, (Option.some Jvm.ClassFile.FieldType.int), 7),
  (yX7_bottleOf, cX7_bottleOf, 3, (Option.some Jvm.ClassFile.FieldType.int), 7),
  (yX7_forHim, cX7_forHim, 4, (Option.some Jvm.ClassFile.FieldType.int), 7)]
set_option maxRecDepth 100000 in
theorem MI8_ok : ∀ e ∈ MI8, miOK e := List.forall_mem_cons.mpr ⟨miOK_of 1115 rfl, List.forall_mem_cons.mpr ⟨miOK_of 1123 rfl, List.forall_mem_cons.mpr ⟨miOK_of 1127 rfl, List.forall_mem_cons.mpr ⟨miOK_of 1138 rfl, List.forall_mem_cons.mpr ⟨miOK_of 1131 rfl, List.forall_mem_cons.mpr ⟨miOK_of 1142 rfl, List.forall_mem_cons.mpr ⟨miOK_of 1146 rfl, List.forall_mem_cons.mpr ⟨miOK_of 1161 rfl, List.forall_mem_cons.mpr ⟨miOK_of 1164 rfl, List.forall_mem_cons.mpr ⟨miOK_of 1158 rfl, List.forall_mem_cons.mpr ⟨miOK_of 1173 rfl, List.forall_mem_cons.mpr ⟨miOK_of 1187 rfl, List.forall_mem_cons.mpr ⟨miOK_of 1183 rfl, List.forall_mem_cons.mpr ⟨miOK_of 1179 rfl, List.forall_mem_cons.mpr ⟨miOK_of 1192 rfl, List.forall_mem_cons.mpr ⟨miOK_of 1168 rfl, List.forall_mem_cons.mpr ⟨miOK_of 1150 rfl, List.forall_mem_cons.mpr ⟨miOK_of 1208 rfl, List.forall_mem_cons.mpr ⟨miOK_of 1204 rfl, List.forall_mem_cons.mpr ⟨miOK_of 1216 rfl, fun _ h => absurd h List.not_mem_nil⟩⟩⟩⟩⟩⟩⟩⟩⟩⟩⟩⟩⟩⟩⟩⟩⟩⟩⟩⟩
def MI9 : List MIe := [(yX7_walkerOf, cX7_walkerOf, 3, (Option.some Jvm.ClassFile.FieldType.int), 7),
  (yX7_currentAt, cX7_currentAt, 2, (Option.some Jvm.ClassFile.FieldType.int), 7),
  (yX7_drift, cX7_drift, 4, (Option.some Jvm.ClassFile.FieldType.int), 7),
  (yX7_drifts, cX7_drifts, 3, (Option.none : Option Jvm.ClassFile.FieldType), 7),
  (yX7_steps, cX7_steps, 4, (Option.none : Option Jvm.ClassFile.FieldType), 7),
  (yX7_passes, cX7_passes, 4, (Option.some Jvm.ClassFile.FieldType.int), 7),
  (yX7_goesOn, cX7_goesOn, 4, (Option.some Jvm.ClassFile.FieldType.int), 7),
  (yX7_ahead, cX7_ahead, 5, (Option.some Jvm.ClassFile.FieldType.int), 7),
  (yX7_walks, cX7_walks, 4, (Option.some Jvm.ClassFile.FieldType.int), 7),
  (yX7_found, cX7_found, 3, (Option.some Jvm.ClassFile.FieldType.int), 7),
  (yX7_whenSo, cX7_whenSo, 6, (Option.some Jvm.ClassFile.FieldType.int), 7),
  (yX7_when, cX7_when, 2, (Option.some Jvm.ClassFile.FieldType.int), 7),
  (yX7_breaks, cX7_breaks, 2, (Option.some Jvm.ClassFile.FieldType.int), 7),
  (yX7_meet, cX7_meet, 5, (Option.some Jvm.ClassFile.FieldType.int), 7),
  (yX7_meets, cX7_meets, 3, (Option.some Jvm.ClassFile.FieldType.int), 7),
  (yX7_finder, cX7_finder, 5, (Option.some Jvm.ClassFile.FieldType.int), 7),
  (yX7_two, cX7_two, 5, (Option.some Jvm.ClassFile.FieldType.int), 7),
  (yX7_whenThrown, cX7_whenThrown, 5, (Option.some Jvm.ClassFile.FieldType.int), 7),
  (yX7_aim, cX7_aim, 9, (Option.some Jvm.ClassFile.FieldType.int), 7),
  (yX7_foundFor, cX7_foundFor, 6, (Option.some Jvm.ClassFile.FieldType.int), 7)]
set_option maxRecDepth 100000 in
theorem MI9_ok : ∀ e ∈ MI9, miOK e := List.forall_mem_cons.mpr ⟨miOK_of 1212 rfl, List.forall_mem_cons.mpr ⟨miOK_of 1220 rfl, List.forall_mem_cons.mpr ⟨miOK_of 1095 rfl, List.forall_mem_cons.mpr ⟨miOK_of 1239 rfl, List.forall_mem_cons.mpr ⟨miOK_of 1246 rfl, List.forall_mem_cons.mpr ⟨miOK_of 1235 rfl, List.forall_mem_cons.mpr ⟨miOK_of 1231 rfl, List.forall_mem_cons.mpr ⟨miOK_of 1224 rfl, List.forall_mem_cons.mpr ⟨miOK_of 1250 rfl, List.forall_mem_cons.mpr ⟨miOK_of 1254 rfl, List.forall_mem_cons.mpr ⟨miOK_of 1262 rfl, List.forall_mem_cons.mpr ⟨miOK_of 1258 rfl, List.forall_mem_cons.mpr ⟨miOK_of 1266 rfl, List.forall_mem_cons.mpr ⟨miOK_of 1274 rfl, List.forall_mem_cons.mpr ⟨miOK_of 1270 rfl, List.forall_mem_cons.mpr ⟨miOK_of 1278 rfl, List.forall_mem_cons.mpr ⟨miOK_of 1282 rfl, List.forall_mem_cons.mpr ⟨miOK_of 1290 rfl, List.forall_mem_cons.mpr ⟨miOK_of 1286 rfl, List.forall_mem_cons.mpr ⟨miOK_of 1298 rfl, fun _ h => absurd h List.not_mem_nil⟩⟩⟩⟩⟩⟩⟩⟩⟩⟩⟩⟩⟩⟩⟩⟩⟩⟩⟩⟩
def MI10 : List MIe := [(yX7_walk, cX7_walk, 10, (Option.some Jvm.ClassFile.FieldType.int), 7),
  (yX7_toldAt, cX7_toldAt, 3, (Option.some Jvm.ClassFile.FieldType.long), 7),
  (yX7_noTold, cX7_noTold, 3, (Option.some Jvm.ClassFile.FieldType.int), 7),
  (yX7_goesSo, cX7_goesSo, 6, (Option.some Jvm.ClassFile.FieldType.boolean), 7),
  (yX7_fits, cX7_fits, 9, (Option.some Jvm.ClassFile.FieldType.int), 7),
  (yX7_from, cX7_from, 6, (Option.some Jvm.ClassFile.FieldType.int), 7),
  (yX7_tries, cX7_tries, 8, (Option.none : Option Jvm.ClassFile.FieldType), 7),
  (yX7_pairs, cX7_pairs, 5, (Option.some Jvm.ClassFile.FieldType.int), 7),
  (yX7_mended, cX7_mended, 9, (Option.some Jvm.ClassFile.FieldType.int), 7),
  (yX7_odds, cX7_odds, 9, (Option.some Jvm.ClassFile.FieldType.int), 7),
  (yX7_windFor, cX7_windFor, 7, (Option.some Jvm.ClassFile.FieldType.int), 7),
  (yX7_bestWind, cX7_bestWind, 7, (Option.some Jvm.ClassFile.FieldType.int), 7),
  (yX7_areSo, cX7_areSo, 4, (Option.some Jvm.ClassFile.FieldType.int), 7),
  (yX7_afloatThen, cX7_afloatThen, 4, (Option.some Jvm.ClassFile.FieldType.int), 7),
  (yX7_who, cX7_who, 2, (Option.some Jvm.ClassFile.FieldType.int), 7),
  (yX7_strays, cX7_strays, 1, (Option.some Jvm.ClassFile.FieldType.int), 7),
  (yX7_there, cX7_there, 5, (Option.some Jvm.ClassFile.FieldType.int), 7),
  (yX7_settles, cX7_settles, 5, (Option.some Jvm.ClassFile.FieldType.int), 7),
  (yX7_cellsOf, cX7_cellsOf, 4, (Option.some Jvm.ClassFile.FieldType.int), 7),
  (yX7_reach, cX7_reach, 5, (Option.some Jvm.ClassFile.FieldType.int), 7)]
set_option maxRecDepth 100000 in
theorem MI10_ok : ∀ e ∈ MI10, miOK e := List.forall_mem_cons.mpr ⟨miOK_of 1294 rfl, List.forall_mem_cons.mpr ⟨miOK_of 1314 rfl, List.forall_mem_cons.mpr ⟨miOK_of 1306 rfl, List.forall_mem_cons.mpr ⟨miOK_of 1310 rfl, List.forall_mem_cons.mpr ⟨miOK_of 1302 rfl, List.forall_mem_cons.mpr ⟨miOK_of 1318 rfl, List.forall_mem_cons.mpr ⟨miOK_of 1326 rfl, List.forall_mem_cons.mpr ⟨miOK_of 1322 rfl, List.forall_mem_cons.mpr ⟨miOK_of 1330 rfl, List.forall_mem_cons.mpr ⟨miOK_of 1334 rfl, List.forall_mem_cons.mpr ⟨miOK_of 1339 rfl, List.forall_mem_cons.mpr ⟨miOK_of 1343 rfl, List.forall_mem_cons.mpr ⟨miOK_of 1355 rfl, List.forall_mem_cons.mpr ⟨miOK_of 1351 rfl, List.forall_mem_cons.mpr ⟨miOK_of 1347 rfl, List.forall_mem_cons.mpr ⟨miOK_of 1359 rfl, List.forall_mem_cons.mpr ⟨miOK_of 1363 rfl, List.forall_mem_cons.mpr ⟨miOK_of 1367 rfl, List.forall_mem_cons.mpr ⟨miOK_of 1375 rfl, List.forall_mem_cons.mpr ⟨miOK_of 1371 rfl, fun _ h => absurd h List.not_mem_nil⟩⟩⟩⟩⟩⟩⟩⟩⟩⟩⟩⟩⟩⟩⟩⟩⟩⟩⟩⟩
def MI11 : List MIe := [(yX7_busiest, cX7_busiest, 5, (Option.some Jvm.ClassFile.FieldType.int), 7),
  (yX7_round, cX7_round, 6, (Option.some Jvm.ClassFile.FieldType.int), 7),
  (yX7_join, cX7_join, 5, (Option.some Jvm.ClassFile.FieldType.int), 7),
  (yX7_first, cX7_first, 6, (Option.some Jvm.ClassFile.FieldType.int), 7),
  (yX7_next_, cX7_next_, 4, (Option.some Jvm.ClassFile.FieldType.int), 7),
  (yX7_stays, cX7_stays, 5, (Option.some Jvm.ClassFile.FieldType.int), 7),
  (yX7_ofKind, cX7_ofKind, 4, (Option.some Jvm.ClassFile.FieldType.int), 7),
  (yX7_judge, cX7_judge, 7, (Option.some Jvm.ClassFile.FieldType.int), 7),
  (yX7_days, cX7_days, 2, (Option.some Jvm.ClassFile.FieldType.int), 7),
  (yX7_draw, cX7_draw, 2, (Option.some Jvm.ClassFile.FieldType.int), 7),
  (yX7_drawn, cX7_drawn, 6, (Option.some Jvm.ClassFile.FieldType.int), 7),
  (yX7_seed, cX7_seed, 3, (Option.some Jvm.ClassFile.FieldType.int), 7),
  (yX7_keep, cX7_keep, 3, (Option.none : Option Jvm.ClassFile.FieldType), 7),
  (yX7_again, cX7_again, 3, (Option.none : Option Jvm.ClassFile.FieldType), 7),
  (yX7_image, cX7_image, 1, (Option.some Jvm.ClassFile.FieldType.int), 7),
  (yX7_back, cX7_back, 2, (Option.some Jvm.ClassFile.FieldType.int), 7),
  (yX7_status, cX7_status, 4, (Option.some Jvm.ClassFile.FieldType.int), 7),
  (yJ6_bitCount_0f7a4, cJ6_bitCount_0f7a4, 1, (Option.some Jvm.ClassFile.FieldType.int), 13),
  (yJ0_length_8abf5, cJ0_length_8abf5, 1, (Option.some Jvm.ClassFile.FieldType.int), 9),
  (yJ0_charAt_5068e, cJ0_charAt_5068e, 2, (Option.some Jvm.ClassFile.FieldType.char), 9)]
set_option maxRecDepth 100000 in
theorem MI11_ok : ∀ e ∈ MI11, miOK e := List.forall_mem_cons.mpr ⟨miOK_of 1379 rfl, List.forall_mem_cons.mpr ⟨miOK_of 1383 rfl, List.forall_mem_cons.mpr ⟨miOK_of 1387 rfl, List.forall_mem_cons.mpr ⟨miOK_of 1391 rfl, List.forall_mem_cons.mpr ⟨miOK_of 1395 rfl, List.forall_mem_cons.mpr ⟨miOK_of 1399 rfl, List.forall_mem_cons.mpr ⟨miOK_of 1403 rfl, List.forall_mem_cons.mpr ⟨miOK_of 1407 rfl, List.forall_mem_cons.mpr ⟨miOK_of 1411 rfl, List.forall_mem_cons.mpr ⟨miOK_of 1419 rfl, List.forall_mem_cons.mpr ⟨miOK_of 1415 rfl, List.forall_mem_cons.mpr ⟨miOK_of 1424 rfl, List.forall_mem_cons.mpr ⟨miOK_of 1154 rfl, List.forall_mem_cons.mpr ⟨miOK_of 1200 rfl, List.forall_mem_cons.mpr ⟨miOK_of 1428 rfl, List.forall_mem_cons.mpr ⟨miOK_of 1432 rfl, List.forall_mem_cons.mpr ⟨miOK_of 1436 rfl, List.forall_mem_cons.mpr ⟨miOK_of 921 rfl, List.forall_mem_cons.mpr ⟨miOK_of 543 rfl, List.forall_mem_cons.mpr ⟨miOK_of 553 rfl, fun _ h => absurd h List.not_mem_nil⟩⟩⟩⟩⟩⟩⟩⟩⟩⟩⟩⟩⟩⟩⟩⟩⟩⟩⟩⟩
def MI12 : List MIe := [(yJ0_coder_7d493, cJ0_coder_7d493, 1, (Option.some Jvm.ClassFile.FieldType.byte), 9),
  (yJ0_isLatin1_aae02, cJ0_isLatin1_aae02, 1, (Option.some Jvm.ClassFile.FieldType.boolean), 9),
  (yJ0_checkIndex_df160, cJ0_checkIndex_df160, 2, (Option.none : Option Jvm.ClassFile.FieldType), 9),
  (yJ1_charAt_3b067, cJ1_charAt_3b067, 2, (Option.some Jvm.ClassFile.FieldType.char), 10),
  (yJ3_checkIndex_8e157, cJ3_checkIndex_8e157, 3, (Option.some Jvm.ClassFile.FieldType.int), 12)]
set_option maxRecDepth 100000 in
theorem MI12_ok : ∀ e ∈ MI12, miOK e := List.forall_mem_cons.mpr ⟨miOK_of 547 rfl, List.forall_mem_cons.mpr ⟨miOK_of 557 rfl, List.forall_mem_cons.mpr ⟨miOK_of 563 rfl, List.forall_mem_cons.mpr ⟨miOK_of 560 rfl, List.forall_mem_cons.mpr ⟨miOK_of 568 rfl, fun _ h => absurd h List.not_mem_nil⟩⟩⟩⟩⟩
def MIt : List MIe := MI0 ++ (MI1 ++ (MI2 ++ (MI3 ++ (MI4 ++ (MI5 ++ (MI6 ++ (MI7 ++ (MI8 ++ (MI9 ++ (MI10 ++ (MI11 ++ (MI12))))))))))))
theorem MIt_ok : ∀ e ∈ MIt, miOK e := List.forall_mem_append.mpr ⟨MI0_ok, List.forall_mem_append.mpr ⟨MI1_ok, List.forall_mem_append.mpr ⟨MI2_ok, List.forall_mem_append.mpr ⟨MI3_ok, List.forall_mem_append.mpr ⟨MI4_ok, List.forall_mem_append.mpr ⟨MI5_ok, List.forall_mem_append.mpr ⟨MI6_ok, List.forall_mem_append.mpr ⟨MI7_ok, List.forall_mem_append.mpr ⟨MI8_ok, List.forall_mem_append.mpr ⟨MI9_ok, List.forall_mem_append.mpr ⟨MI10_ok, List.forall_mem_append.mpr ⟨MI11_ok, MI12_ok⟩⟩⟩⟩⟩⟩⟩⟩⟩⟩⟩⟩
def MIx (j : Nat) : MIe := MIt.getD j (yL_law, code, 0, none, 0)
def yM (j : Nat) : MethodName := (MIx j).1
def cM (j : Nat) : ByteArray := (MIx j).2.1
def mlM (j : Nat) : Nat := (MIx j).2.2.1
def rtM (j : Nat) : Option FieldType := (MIx j).2.2.2.1
def owM (j : Nat) : Nat := (MIx j).2.2.2.2
def wM (j : Nat) : List Cond := .code (yM j) (cM j) (mlM j) (rtM j) :: WSg
theorem MIt_len : MIt.length = 245 := by decide +kernel
def miD (e : MIe) : Bool := decide (e.1.cls = cn e.2.2.2.2) && decide (e.2.2.1 ≤ 40) && plainName e.1.cls && decide (e.1.cls ≠ "java/lang/invoke/MethodHandle") && decide (e.1.cls ≠ "java/lang/invoke/VarHandle")
theorem MI0_d : MI0.all miD = true := by decide +kernel
theorem MI1_d : MI1.all miD = true := by decide +kernel
theorem MI2_d : MI2.all miD = true := by decide +kernel
theorem MI3_d : MI3.all miD = true := by decide +kernel
theorem MI4_d : MI4.all miD = true := by decide +kernel
theorem MI5_d : MI5.all miD = true := by decide +kernel
theorem MI6_d : MI6.all miD = true := by decide +kernel
theorem MI7_d : MI7.all miD = true := by decide +kernel
theorem MI8_d : MI8.all miD = true := by decide +kernel
theorem MI9_d : MI9.all miD = true := by decide +kernel
theorem MI10_d : MI10.all miD = true := by decide +kernel
theorem MI11_d : MI11.all miD = true := by decide +kernel
theorem MI12_d : MI12.all miD = true := by decide +kernel
theorem MIt_d : MIt.all miD = true := by
  simp only [MIt, List.all_append, MI0_d, MI1_d, MI2_d, MI3_d, MI4_d, MI5_d, MI6_d, MI7_d, MI8_d, MI9_d, MI10_d, MI11_d, MI12_d, Bool.and_self]
def mlOK (e : Nat × Nat × Nat × Nat × Nat × Nat × Nat × Nat × Nat) : Bool := match e with
  | (own, idx, kd, j, n, pl, p2, ps, pi) =>
    decide (j < 245) && posOK pi (.initialized (yM j).cls) &&
    (match kd with
    | 0 => decide (owM j < 8 ∨ owM j = 9) && posOK pl (.methodLink (cn own) idx (yM j)) && posOK p2 (.instanceMethod (yM j)) && posOK ps (.selects (yM j).cls (yM j) (yM j)) && decide ((parseMethodDescriptor (yM j).desc).map (fun d => d.parameters.length + 1) = some n)
    | 1 => posOK pl (.methodLink (cn own) idx (yM j)) && posOK p2 (.static (yM j)) && decide ((parseMethodDescriptor (yM j).desc).map (fun d => d.parameters.length) = some n)
    | 2 => decide (owM j < 8) && decide (rtM j = none) && decide ((yM j).name = "<init>") && posOK pl (.methodLink (cn own) idx (yM j)) && posOK p2 (.instanceMethod (yM j)) && decide ((parseMethodDescriptor (yM j).desc).map (fun d => d.parameters.length + 1) = some n)
    | 4 => decide (lw_tbl[pl]? = some (.methodLinkNest (cn own) idx (yM j) RX6)) && posOK p2 (.static (yM j)) && decide ((parseMethodDescriptor (yM j).desc).map (fun d => d.parameters.length) = some n)
    | 5 => decide (owM j < 8) && decide (rtM j = none) && decide ((yM j).name = "<init>") && decide (lw_tbl[pl]? = some (.methodLinkNest (cn own) idx (yM j) RX6)) && posOK p2 (.instanceMethod (yM j)) && decide ((parseMethodDescriptor (yM j).desc).map (fun d => d.parameters.length + 1) = some n)
    | _ => false)
def ML0 : List (Nat × Nat × Nat × Nat × Nat × Nat × Nat × Nat × Nat) := [(0, 27, 4, 123, 2, 628, 629, 0, 59), (1, 22, 0, 7, 1, 346, 347, 348, 65), (1, 35, 0, 6, 1, 358, 339, 340, 65), (1, 38, 0, 9, 2, 359, 351, 352, 65), (1, 42, 0, 14, 2, 360, 362, 2, 65), (2, 34, 0, 19, 2, 509, 511, 3, 63), (2, 38, 0, 28, 1, 513, 515, 4, 63), (2, 41, 0, 23, 1, 531, 533, 7, 63), (2, 45, 0, 46, 1, 593, 433, 434, 60), (2, 51, 0, 45, 1, 594, 595, 596, 60), (2, 54, 1, 21, 1, 598, 599, 0, 63), (2, 61, 1, 22, 3, 601, 602, 0, 63), (2, 65, 0, 20, 3, 604, 606, 9, 63), (2, 69, 0, 50, 4, 608, 437, 438, 60), (2, 73, 0, 49, 5, 609, 610, 611, 60), (2, 77, 0, 48, 3, 618, 464, 465, 60), (2, 91, 0, 24, 2, 536, 538, 8, 63), (2, 103, 0, 238, 1, 540, 541, 542, 69), (2, 108, 0, 25, 2, 517, 519, 5, 63), (2, 111, 0, 239, 2, 550, 551, 552, 69), (2, 115, 1, 26, 1, 521, 522, 0, 63), (2, 119, 1, 27, 1, 524, 525, 0, 63), (2, 122, 0, 29, 1, 527, 529, 6, 63), (3, 27, 0, 32, 2, 786, 675, 676, 64)]
set_option maxRecDepth 100000 in
theorem ML0_ok : ML0.all mlOK = true := by decide +kernel
def ML1 : List (Nat × Nat × Nat × Nat × Nat × Nat × Nat × Nat × Nat) := [(4, 19, 0, 36, 4, 504, 446, 447, 62), (5, 49, 5, 0, 1, 93, 94, 0, 61), (5, 54, 5, 35, 1, 127, 128, 0, 62), (5, 59, 0, 47, 2, 416, 417, 418, 60), (5, 63, 0, 42, 2, 495, 393, 394, 60), (5, 67, 0, 2, 2, 496, 497, 498, 61), (5, 71, 0, 43, 2, 441, 442, 443, 60), (5, 75, 0, 37, 2, 500, 501, 502, 62), (5, 78, 0, 45, 1, 613, 595, 596, 60), (5, 82, 0, 1, 5, 614, 615, 616, 61), (5, 86, 0, 46, 1, 440, 433, 434, 60), (5, 89, 0, 36, 4, 445, 446, 447, 62), (5, 116, 0, 55, 3, 668, 413, 414, 60), (5, 123, 4, 123, 2, 672, 629, 0, 59), (5, 129, 0, 31, 3, 651, 652, 653, 64), (5, 135, 0, 39, 2, 655, 656, 657, 62), (5, 139, 0, 54, 2, 659, 660, 661, 60), (5, 142, 0, 56, 4, 664, 665, 666, 60), (5, 146, 0, 58, 4, 696, 697, 698, 60), (5, 150, 0, 63, 2, 896, 898, 20, 60), (5, 153, 0, 61, 1, 901, 885, 886, 60), (6, 9, 2, 40, 1, 84, 85, 0, 60), (6, 34, 5, 15, 1, 197, 198, 0, 63), (6, 45, 5, 30, 1, 227, 228, 0, 64)]
set_option maxRecDepth 100000 in
theorem ML1_ok : ML1.all mlOK = true := by decide +kernel
def ML2 : List (Nat × Nat × Nat × Nat × Nat × Nat × Nat × Nat × Nat) := [(6, 55, 5, 0, 1, 239, 94, 0, 61), (6, 62, 5, 35, 1, 241, 128, 0, 62), (6, 81, 5, 4, 1, 245, 246, 0, 65), (6, 82, 0, 125, 2, 313, 315, 0, 59), (6, 86, 1, 120, 3, 317, 318, 0, 59), (6, 90, 0, 124, 2, 320, 322, 1, 59), (6, 94, 0, 11, 3, 324, 325, 326, 65), (6, 98, 0, 6, 1, 338, 339, 340, 65), (6, 102, 0, 8, 1, 342, 343, 344, 65), (6, 106, 0, 9, 2, 350, 351, 352, 65), (6, 110, 0, 12, 3, 354, 355, 356, 65), (6, 114, 0, 7, 1, 368, 347, 348, 65), (6, 121, 0, 10, 3, 369, 370, 371, 65), (6, 135, 0, 13, 2, 380, 381, 382, 65), (6, 139, 0, 42, 2, 392, 393, 394, 60), (6, 143, 1, 121, 1, 400, 401, 0, 59), (6, 146, 0, 5, 1, 403, 404, 405, 65), (6, 152, 1, 122, 2, 407, 408, 0, 59), (6, 161, 0, 55, 3, 412, 413, 414, 60), (6, 168, 0, 44, 2, 428, 429, 430, 60), (6, 171, 0, 46, 1, 432, 433, 434, 60), (6, 174, 0, 50, 4, 436, 437, 438, 60), (6, 178, 0, 43, 2, 453, 442, 443, 60), (6, 182, 0, 38, 2, 454, 455, 456, 62)]
set_option maxRecDepth 100000 in
theorem ML2_ok : ML2.all mlOK = true := by decide +kernel
def ML3 : List (Nat × Nat × Nat × Nat × Nat × Nat × Nat × Nat × Nat) := [(6, 194, 0, 47, 2, 462, 417, 418, 60), (6, 197, 0, 48, 3, 463, 464, 465, 60), (6, 203, 0, 16, 1, 475, 476, 477, 63), (6, 206, 0, 17, 2, 479, 480, 481, 63), (6, 212, 0, 41, 2, 491, 492, 493, 60), (6, 216, 0, 18, 2, 505, 506, 507, 63), (6, 223, 0, 3, 2, 624, 625, 626, 61), (6, 224, 0, 51, 2, 635, 636, 637, 60), (6, 230, 0, 57, 5, 647, 648, 649, 60), (6, 234, 0, 32, 2, 674, 675, 676, 64), (6, 237, 0, 33, 2, 678, 679, 680, 64), (6, 240, 0, 37, 2, 686, 501, 502, 62), (6, 243, 0, 39, 2, 687, 656, 657, 62), (6, 247, 0, 60, 2, 692, 693, 694, 60), (6, 250, 0, 59, 2, 704, 705, 706, 60), (6, 254, 0, 127, 3, 712, 714, 10, 59), (6, 261, 0, 1, 5, 728, 615, 616, 61), (6, 264, 0, 58, 4, 729, 697, 698, 60), (6, 268, 0, 128, 5, 734, 736, 11, 59), (6, 276, 0, 129, 5, 743, 745, 12, 59), (6, 280, 0, 132, 2, 757, 759, 13, 59), (6, 283, 0, 133, 1, 761, 763, 14, 59), (6, 286, 0, 136, 2, 774, 776, 17, 59), (6, 289, 0, 134, 3, 765, 767, 15, 59)]
set_option maxRecDepth 100000 in
theorem ML3_ok : ML3.all mlOK = true := by decide +kernel
def ML4 : List (Nat × Nat × Nat × Nat × Nat × Nat × Nat × Nat × Nat) := [(6, 293, 0, 34, 2, 782, 783, 784, 64), (6, 296, 0, 130, 4, 791, 793, 18, 59), (6, 307, 0, 52, 2, 813, 814, 815, 60), (6, 310, 0, 53, 2, 817, 818, 819, 60), (6, 321, 0, 131, 1, 834, 836, 19, 59), (6, 324, 0, 56, 4, 748, 665, 666, 60), (6, 328, 0, 45, 1, 878, 595, 596, 60), (6, 331, 0, 49, 5, 879, 610, 611, 60), (6, 334, 0, 61, 1, 884, 885, 886, 60), (6, 340, 0, 62, 1, 892, 893, 894, 60), (6, 346, 0, 99, 2, 918, 806, 807, 59), (6, 349, 1, 237, 1, 919, 920, 0, 73), (6, 354, 0, 126, 1, 925, 927, 21, 59), (6, 360, 0, 69, 2, 929, 385, 386, 59), (6, 363, 0, 36, 4, 738, 446, 447, 62), (6, 366, 0, 54, 2, 747, 660, 661, 60), (6, 369, 0, 2, 2, 795, 497, 498, 61), (6, 372, 0, 135, 4, 769, 771, 16, 59), (7, 78, 1, 139, 3, 1043, 1044, 0, 66), (7, 88, 1, 145, 1, 1040, 1041, 0, 66), (7, 92, 0, 138, 2, 1046, 1048, 22, 66), (7, 96, 0, 146, 2, 1054, 1056, 23, 66), (7, 99, 0, 148, 2, 1058, 1060, 24, 66), (7, 102, 1, 149, 2, 1062, 1063, 0, 66)]
set_option maxRecDepth 100000 in
theorem ML4_ok : ML4.all mlOK = true := by decide +kernel
def ML5 : List (Nat × Nat × Nat × Nat × Nat × Nat × Nat × Nat × Nat) := [(7, 106, 0, 141, 2, 1081, 1083, 25, 66), (7, 109, 1, 155, 2, 1089, 1090, 0, 66), (7, 113, 0, 182, 2, 1092, 1094, 26, 66), (7, 116, 0, 140, 2, 1104, 1106, 27, 66), (7, 119, 0, 158, 4, 1108, 1110, 28, 66), (7, 123, 0, 142, 2, 1116, 1118, 29, 66), (7, 126, 1, 143, 2, 1132, 1133, 0, 66), (7, 129, 0, 163, 6, 1135, 1137, 30, 66), (7, 145, 1, 167, 1, 1159, 1160, 0, 66), (7, 148, 1, 168, 1, 1162, 1163, 0, 66), (7, 154, 0, 238, 1, 1174, 541, 542, 69), (7, 160, 0, 239, 2, 1175, 551, 552, 69), (7, 164, 0, 169, 1, 1155, 1157, 32, 66), (7, 167, 0, 171, 3, 1184, 1186, 37, 66), (7, 171, 0, 172, 1, 1180, 1182, 36, 66), (7, 176, 0, 170, 2, 1170, 1172, 34, 66), (7, 180, 0, 173, 1, 1176, 1178, 35, 66), (7, 186, 0, 174, 1, 1189, 1191, 38, 66), (7, 196, 0, 232, 2, 1151, 1153, 31, 66), (7, 200, 0, 175, 1, 1165, 1167, 33, 66), (7, 203, 0, 233, 2, 1197, 1199, 39, 66), (7, 206, 0, 177, 2, 1205, 1207, 40, 66), (7, 209, 0, 179, 2, 1213, 1215, 41, 66), (7, 223, 0, 183, 2, 1236, 1238, 44, 66)]
set_option maxRecDepth 100000 in
theorem ML5_ok : ML5.all mlOK = true := by decide +kernel
def ML6 : List (Nat × Nat × Nat × Nat × Nat × Nat × Nat × Nat × Nat) := [(7, 227, 0, 184, 2, 1243, 1245, 45, 66), (7, 230, 0, 185, 2, 1232, 1234, 43, 66), (7, 233, 1, 144, 1, 1225, 1226, 0, 66), (7, 236, 0, 186, 2, 1228, 1230, 42, 66), (7, 239, 0, 190, 4, 1259, 1261, 46, 66), (7, 242, 0, 193, 3, 1271, 1273, 47, 66), (7, 245, 0, 197, 5, 1287, 1289, 48, 66), (7, 249, 0, 199, 3, 1295, 1297, 49, 66), (7, 252, 0, 201, 3, 1311, 1313, 52, 66), (7, 256, 0, 202, 3, 1303, 1305, 50, 66), (7, 259, 0, 203, 4, 1307, 1309, 51, 66), (7, 268, 0, 206, 6, 1323, 1325, 53, 66), (7, 272, 0, 212, 2, 1352, 1354, 55, 66), (7, 275, 0, 213, 2, 1348, 1350, 54, 66), (7, 278, 0, 218, 2, 1372, 1374, 56, 66), (7, 285, 0, 229, 2, 1416, 1418, 57, 66), (7, 292, 1, 237, 1, 1437, 920, 0, 73), (8, 9, 2, 64, 1, 76, 77, 0, 59), (8, 12, 2, 137, 1, 932, 933, 0, 66), (8, 13, 0, 65, 4, 309, 310, 311, 59), (8, 17, 0, 147, 4, 1036, 1037, 1038, 66), (8, 20, 0, 66, 4, 334, 335, 336, 59), (8, 24, 0, 150, 4, 1050, 1051, 1052, 66), (8, 25, 0, 67, 6, 364, 365, 366, 59)]
set_option maxRecDepth 100000 in
theorem ML6_ok : ML6.all mlOK = true := by decide +kernel
def ML7 : List (Nat × Nat × Nat × Nat × Nat × Nat × Nat × Nat × Nat) := [(8, 29, 0, 151, 6, 1065, 1066, 1067, 66), (8, 30, 0, 68, 3, 376, 377, 378, 59), (8, 34, 0, 152, 3, 1069, 1070, 1071, 66), (8, 35, 0, 69, 2, 384, 385, 386, 59), (8, 39, 0, 153, 2, 1073, 1074, 1075, 66), (8, 40, 0, 70, 3, 388, 389, 390, 59), (8, 44, 0, 154, 3, 1077, 1078, 1079, 66), (8, 45, 0, 71, 3, 396, 397, 398, 59), (8, 48, 0, 156, 3, 1085, 1086, 1087, 66), (8, 49, 0, 72, 2, 420, 421, 422, 59), (8, 52, 0, 157, 2, 1096, 1097, 1098, 66), (8, 53, 0, 73, 4, 424, 425, 426, 59), (8, 56, 0, 159, 4, 1100, 1101, 1102, 66), (8, 57, 0, 74, 4, 449, 450, 451, 59), (8, 60, 0, 160, 4, 1112, 1113, 1114, 66), (8, 61, 0, 75, 3, 458, 459, 460, 59), (8, 64, 0, 161, 3, 1120, 1121, 1122, 66), (8, 65, 0, 76, 3, 467, 468, 469, 59), (8, 68, 0, 162, 3, 1124, 1125, 1126, 66), (8, 69, 0, 77, 2, 471, 472, 473, 59), (8, 72, 0, 165, 2, 1139, 1140, 1141, 66), (8, 73, 0, 78, 1, 483, 484, 485, 59), (8, 77, 0, 166, 1, 1143, 1144, 1145, 66), (8, 78, 0, 79, 1, 487, 488, 489, 59)]
set_option maxRecDepth 100000 in
theorem ML7_ok : ML7.all mlOK = true := by decide +kernel
def ML8 : List (Nat × Nat × Nat × Nat × Nat × Nat × Nat × Nat × Nat) := [(8, 81, 0, 176, 1, 1147, 1148, 1149, 66), (8, 82, 0, 80, 3, 620, 621, 622, 59), (8, 85, 0, 178, 3, 1201, 1202, 1203, 66), (8, 86, 0, 81, 3, 631, 632, 633, 59), (8, 89, 0, 180, 3, 1209, 1210, 1211, 66), (8, 90, 0, 82, 2, 639, 640, 641, 59), (8, 93, 0, 181, 2, 1217, 1218, 1219, 66), (8, 94, 0, 83, 4, 643, 644, 645, 59), (8, 97, 0, 187, 4, 1221, 1222, 1223, 66), (8, 98, 0, 84, 3, 682, 683, 684, 59), (8, 101, 0, 188, 3, 1247, 1248, 1249, 66), (8, 102, 0, 85, 2, 688, 689, 690, 59), (8, 105, 0, 189, 2, 1251, 1252, 1253, 66), (8, 106, 0, 86, 2, 700, 701, 702, 59), (8, 109, 0, 191, 2, 1255, 1256, 1257, 66), (8, 110, 0, 87, 3, 708, 709, 710, 59), (8, 113, 0, 194, 3, 1267, 1268, 1269, 66), (8, 114, 0, 88, 2, 716, 717, 718, 59), (8, 117, 0, 195, 2, 1275, 1276, 1277, 66), (8, 118, 0, 89, 3, 720, 721, 722, 59), (8, 121, 0, 196, 3, 1279, 1280, 1281, 66), (8, 122, 0, 90, 5, 724, 725, 726, 59), (8, 126, 0, 198, 5, 1283, 1284, 1285, 66), (8, 127, 0, 91, 4, 730, 731, 732, 59)]
set_option maxRecDepth 100000 in
theorem ML8_ok : ML8.all mlOK = true := by decide +kernel
def ML9 : List (Nat × Nat × Nat × Nat × Nat × Nat × Nat × Nat × Nat) := [(8, 130, 0, 200, 4, 1291, 1292, 1293, 66), (8, 131, 0, 92, 5, 739, 740, 741, 59), (8, 134, 0, 204, 5, 1299, 1300, 1301, 66), (8, 135, 0, 93, 4, 749, 750, 751, 59), (8, 138, 0, 205, 4, 1315, 1316, 1317, 66), (8, 139, 0, 94, 3, 753, 754, 755, 59), (8, 142, 0, 207, 3, 1319, 1320, 1321, 66), (8, 143, 0, 95, 3, 778, 779, 780, 59), (8, 146, 0, 208, 3, 1327, 1328, 1329, 66), (8, 147, 0, 96, 4, 787, 788, 789, 59), (8, 150, 0, 209, 4, 1331, 1332, 1333, 66), (8, 151, 0, 97, 2, 797, 798, 799, 59), (8, 154, 0, 210, 2, 1336, 1337, 1338, 66), (8, 155, 0, 98, 3, 801, 802, 803, 59), (8, 158, 0, 211, 3, 1340, 1341, 1342, 66), (8, 159, 0, 99, 2, 805, 806, 807, 59), (8, 162, 0, 214, 2, 1344, 1345, 1346, 66), (8, 163, 0, 100, 3, 809, 810, 811, 59), (8, 166, 0, 216, 3, 1360, 1361, 1362, 66), (8, 167, 0, 101, 2, 821, 822, 823, 59), (8, 170, 0, 217, 2, 1364, 1365, 1366, 66), (8, 171, 0, 102, 3, 825, 826, 827, 59), (8, 174, 0, 219, 3, 1368, 1369, 1370, 66), (8, 175, 0, 103, 2, 830, 831, 832, 59)]
set_option maxRecDepth 100000 in
theorem ML9_ok : ML9.all mlOK = true := by decide +kernel
def ML10 : List (Nat × Nat × Nat × Nat × Nat × Nat × Nat × Nat × Nat) := [(8, 178, 0, 220, 2, 1376, 1377, 1378, 66), (8, 179, 0, 104, 2, 838, 839, 840, 59), (8, 182, 0, 221, 2, 1380, 1381, 1382, 66), (8, 183, 0, 105, 3, 842, 843, 844, 59), (8, 186, 0, 222, 3, 1384, 1385, 1386, 66), (8, 187, 0, 106, 2, 846, 847, 848, 59), (8, 190, 0, 192, 2, 1263, 1264, 1265, 66), (8, 191, 0, 107, 2, 850, 851, 852, 59), (8, 194, 0, 223, 2, 1388, 1389, 1390, 66), (8, 195, 0, 108, 4, 854, 855, 856, 59), (8, 198, 0, 224, 4, 1392, 1393, 1394, 66), (8, 199, 0, 109, 3, 858, 859, 860, 59), (8, 202, 0, 225, 3, 1396, 1397, 1398, 66), (8, 203, 0, 110, 1, 862, 863, 864, 59), (8, 206, 0, 215, 1, 1356, 1357, 1358, 66), (8, 207, 0, 111, 2, 866, 867, 868, 59), (8, 210, 0, 226, 2, 1400, 1401, 1402, 66), (8, 211, 0, 112, 4, 870, 871, 872, 59), (8, 214, 0, 227, 4, 1404, 1405, 1406, 66), (8, 215, 0, 113, 5, 874, 875, 876, 59), (8, 218, 0, 164, 5, 1128, 1129, 1130, 66), (8, 219, 0, 114, 2, 880, 881, 882, 59), (8, 222, 0, 228, 2, 1408, 1409, 1410, 66), (8, 223, 0, 115, 2, 888, 889, 890, 59)]
set_option maxRecDepth 100000 in
theorem ML10_ok : ML10.all mlOK = true := by decide +kernel
def ML11 : List (Nat × Nat × Nat × Nat × Nat × Nat × Nat × Nat × Nat) := [(8, 226, 0, 230, 2, 1412, 1413, 1414, 66), (8, 227, 0, 116, 2, 902, 903, 904, 59), (8, 230, 0, 231, 2, 1421, 1422, 1423, 66), (8, 231, 0, 117, 1, 906, 907, 908, 59), (8, 234, 0, 234, 1, 1425, 1426, 1427, 66), (8, 235, 0, 118, 1, 910, 911, 912, 59), (8, 238, 0, 235, 1, 1429, 1430, 1431, 66), (8, 239, 0, 119, 2, 914, 915, 916, 59), (8, 242, 0, 236, 2, 1433, 1434, 1435, 66), (9, 335, 0, 240, 1, 544, 545, 546, 69), (9, 492, 0, 241, 1, 554, 555, 556, 69), (9, 495, 1, 243, 2, 558, 559, 0, 70), (9, 1059, 1, 244, 3, 566, 567, 0, 71), (10, 9, 1, 242, 2, 561, 562, 0, 69)]
set_option maxRecDepth 100000 in
theorem ML11_ok : ML11.all mlOK = true := by decide +kernel
/-- calls: owner, place, kind (0 virtual, 1 static, 2 special; 5, 4: a nest mate's special, static), method, how many words, and the places of what the tables say -/
def MLt : List (Nat × Nat × Nat × Nat × Nat × Nat × Nat × Nat × Nat) := ML0 ++ (ML1 ++ (ML2 ++ (ML3 ++ (ML4 ++ (ML5 ++ (ML6 ++ (ML7 ++ (ML8 ++ (ML9 ++ (ML10 ++ (ML11)))))))))))
theorem MLt_ok : MLt.all mlOK = true := by
  simp only [MLt, List.all_append, ML0_ok, ML1_ok, ML2_ok, ML3_ok, ML4_ok, ML5_ok, ML6_ok, ML7_ok, ML8_ok, ML9_ok, ML10_ok, ML11_ok, Bool.and_self]
def NLt : List (Nat × Nat × String × Nat) := [(5, 37, "AddressedToYou$Bottle", 88), (5, 43, "AddressedToYou$Walker", 90), (6, 7, "AddressedToYou$World", 82), (6, 26, "AddressedToYou$Shelf", 193), (6, 32, "AddressedToYou$Tape", 195), (6, 43, "AddressedToYou$Track", 225), (6, 53, "AddressedToYou$Bottle", 238), (6, 60, "AddressedToYou$Walker", 240), (6, 73, "[[I", 242), (8, 7, "AddressedToYou", 74), (8, 10, "AddressedToYouModel", 930)]
theorem NLt_ok : NLt.all (fun e => posOK e.2.2.2 (.classLink (cn e.1) e.2.1 e.2.2.1)) = true := by decide +kernel
def KIt : List (Nat × Nat × Int32 × Nat) := [(6, 300, 1000000, 796), (5, 157, 1103515245, 900), (7, 271, 1000000, 1335), (7, 284, 1103515245, 1420), (13, 265, 1431655765, 922), (13, 266, 858993459, 923), (13, 267, 252645135, 924)]
theorem KIt_ok : KIt.all (fun e => posOK e.2.2.2 (.constant (cn e.1) e.2.1 e.2.2.1)) = true := by decide +kernel
def KLt : List (Nat × Nat × Int64 × Nat) := [(8, 18, 4294967295, 1438)]
theorem KLt_ok : KLt.all (fun e => posOK e.2.2.2 (.constantLong (cn e.1) e.2.1 e.2.2.1)) = true := by decide +kernel
def KSt : List (Nat × Nat × String × Nat) := [(2, 90, "cells", 535), (2, 95, "walker", 588), (2, 97, "bottle", 589), (2, 99, "current", 590), (2, 101, "wind", 591), (2, 102, "day", 592), (7, 174, "walker", 1169), (7, 184, "bottle", 1188), (7, 189, "cells", 1193), (7, 191, "current", 1194), (7, 192, "wind", 1195), (7, 194, "day", 1196)]
theorem KSt_ok : KSt.all (fun e => decide (lw_tbl[e.2.2.2]? = some (.stringRef (cn e.1) e.2.1 e.2.2.1))) = true := by decide +kernel
def NNt : List (Nat × Nat × Nat × Nat) := [(0, 27, 123, 628), (5, 49, 0, 93), (5, 54, 35, 127), (5, 123, 123, 672), (6, 34, 15, 197), (6, 45, 30, 227), (6, 55, 0, 239), (6, 62, 35, 241), (6, 81, 4, 245)]
theorem NNt_ok : NNt.all (fun e => decide (lw_tbl[e.2.2.2]? = some (.methodLinkNest (cn e.1) e.2.1 (yM e.2.2.1) RX6))) = true := by decide +kernel
def SLt : List (Nat × Nat × Nat × String × String × String × Nat) := [(6, 357, 32, "AddressedToYou", "KIND_ABOVE", "[I", 410), (9, 9, 100, "java/lang/String", "value", "[B", 1439), (9, 15, 101, "java/lang/String", "coder", "B", 1440), (9, 38, 0, "java/lang/String", "COMPACT_STRINGS", "Z", 548), (9, 1053, 34, "jdk/internal/util/Preconditions", "SIOOBE_FORMATTER", "Ljava/util/function/BiFunction;", 564)]
theorem SLt_ok : SLt.all (fun e => posOK e.2.2.2.2.2.2 (.fieldLink (cn e.1) e.2.1 e.2.2.2.1 e.2.2.2.2.1 e.2.2.2.2.2.1)) = true := by decide +kernel
/-- Math.abs, max, min, System.arraycopy, Object.<init> -/
def BLt : List (Nat × Nat × Nat × Nat) := [(0, 3, 4, 96), (1, 3, 4, 248), (1, 26, 2, 328), (1, 32, 1, 331), (2, 3, 4, 200), (3, 3, 4, 230), (4, 1, 4, 130), (5, 3, 4, 87), (5, 104, 2, 663), (5, 120, 0, 669), (5, 126, 1, 673), (6, 1, 4, 79), (6, 129, 3, 373), (6, 313, 2, 829), (6, 318, 1, 773), (7, 1, 4, 935), (7, 212, 0, 1240), (7, 217, 2, 1241), (7, 220, 1, 1242)]
def blY (b : Nat) : MethodName := match b with
  | 0 => Lib.Math.abs.name
  | 1 => Lib.Math.max.name
  | 2 => Lib.Math.min.name
  | 3 => arraycopyName
  | _ => Lib.objectInit
theorem BLt_ok : BLt.all (fun e => decide (e.2.2.1 < 5) && posOK e.2.2.2 (.methodLink (cn e.1) e.2.1 (blY e.2.2.1))) = true := by decide +kernel
theorem BL_words : posOK 670 (.static Lib.Math.abs.name) && posOK 332 (.static Lib.Math.max.name) && posOK 329 (.static Lib.Math.min.name) && posOK 67 (.initialized "java/lang/Math") && posOK 671 (.code Lib.Math.abs.name Lib.Math.abs.code 1 (some .int)) && posOK 333 (.code Lib.Math.max.name Lib.Math.max.code 2 (some .int)) && posOK 330 (.code Lib.Math.min.name Lib.Math.min.code 2 (some .int)) && posOK 375 (.native arraycopyName) && posOK 374 (.static arraycopyName) && posOK 68 (.initialized "java/lang/System") && posOK 80 (.instanceMethod Lib.objectInit) && posOK 81 (.code Lib.objectInit ⟨#[0xb1]⟩ 1 none) = true := by decide +kernel
