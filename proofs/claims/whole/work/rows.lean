section
-- ===== PART A: goes FIRST, ahead of the names: the tables' words, and 'selects' of the private methods out of them =====
/-- a private method of a class that the tables say can be made, by its rows of tables_1 -/
def lw_okq (q : MethodName × Nat) : Prop := (q.1.cls ≠ "java/lang/invoke/MethodHandle" ∧ q.1.cls ≠ "java/lang/invoke/VarHandle") ∧ Cond.instantiable q.1.cls q.2 ∈ tables_1 ∧ Cond.privateMethod q.1 ∈ tables_1 ∧ Cond.instanceMethod q.1 ∈ tables_1
theorem lw_p0 : lw_okq (⟨"AddressedToYou", "shelfAt", "(I)LAddressedToYou$Shelf;"⟩, 15) := ⟨⟨by decide +kernel, by decide +kernel⟩, List.mem_of_getElem? (i := 17) (by decide +kernel), List.mem_of_getElem? (i := 256) (by decide +kernel), List.mem_of_getElem? (i := 257) (by decide +kernel)⟩
theorem lw_p1 : lw_okq (⟨"AddressedToYou", "refuse", "(I)I"⟩, 15) := ⟨⟨by decide +kernel, by decide +kernel⟩, List.mem_of_getElem? (i := 17) (by decide +kernel), List.mem_of_getElem? (i := 263) (by decide +kernel), List.mem_of_getElem? (i := 264) (by decide +kernel)⟩
theorem lw_p2 : lw_okq (⟨"AddressedToYou$Shelf", "narrowed", "(J)J"⟩, 3) := ⟨⟨by decide +kernel, by decide +kernel⟩, List.mem_of_getElem? (i := 186) (by decide +kernel), List.mem_of_getElem? (i := 303) (by decide +kernel), List.mem_of_getElem? (i := 304) (by decide +kernel)⟩
theorem lw_p3 : lw_okq (⟨"AddressedToYou$Tape", "readStatement", "(LAddressedToYou$World;)Z"⟩, 7) := ⟨⟨by decide +kernel, by decide +kernel⟩, List.mem_of_getElem? (i := 138) (by decide +kernel), List.mem_of_getElem? (i := 452) (by decide +kernel), List.mem_of_getElem? (i := 453) (by decide +kernel)⟩
theorem lw_p4 : lw_okq (⟨"AddressedToYou$Tape", "scan", "()V"⟩, 7) := ⟨⟨by decide +kernel, by decide +kernel⟩, List.mem_of_getElem? (i := 138) (by decide +kernel), List.mem_of_getElem? (i := 456) (by decide +kernel), List.mem_of_getElem? (i := 457) (by decide +kernel)⟩
theorem lw_p5 : lw_okq (⟨"AddressedToYou$Tape", "byteAt", "(I)I"⟩, 7) := ⟨⟨by decide +kernel, by decide +kernel⟩, List.mem_of_getElem? (i := 138) (by decide +kernel), List.mem_of_getElem? (i := 460) (by decide +kernel), List.mem_of_getElem? (i := 461) (by decide +kernel)⟩
theorem lw_p6 : lw_okq (⟨"AddressedToYou$Tape", "scanNumber", "()V"⟩, 7) := ⟨⟨by decide +kernel, by decide +kernel⟩, List.mem_of_getElem? (i := 138) (by decide +kernel), List.mem_of_getElem? (i := 470) (by decide +kernel), List.mem_of_getElem? (i := 471) (by decide +kernel)⟩
theorem lw_p7 : lw_okq (⟨"AddressedToYou$Tape", "wordNumber", "()I"⟩, 7) := ⟨⟨by decide +kernel, by decide +kernel⟩, List.mem_of_getElem? (i := 138) (by decide +kernel), List.mem_of_getElem? (i := 474) (by decide +kernel), List.mem_of_getElem? (i := 475) (by decide +kernel)⟩
theorem lw_p8 : lw_okq (⟨"AddressedToYou$Tape", "spells", "(Ljava/lang/String;)Z"⟩, 7) := ⟨⟨by decide +kernel, by decide +kernel⟩, List.mem_of_getElem? (i := 138) (by decide +kernel), List.mem_of_getElem? (i := 479) (by decide +kernel), List.mem_of_getElem? (i := 480) (by decide +kernel)⟩
theorem lw_p9 : lw_okq (⟨"AddressedToYou$Tape", "perform", "(LAddressedToYou$World;I)V"⟩, 7) := ⟨⟨by decide +kernel, by decide +kernel⟩, List.mem_of_getElem? (i := 138) (by decide +kernel), List.mem_of_getElem? (i := 547) (by decide +kernel), List.mem_of_getElem? (i := 548) (by decide +kernel)⟩
theorem lw_p10 : lw_okq (⟨"AddressedToYou", "firstMeeting", "(LAddressedToYou$Walker;I)I"⟩, 15) := ⟨⟨by decide +kernel, by decide +kernel⟩, List.mem_of_getElem? (i := 17) (by decide +kernel), List.mem_of_getElem? (i := 655) (by decide +kernel), List.mem_of_getElem? (i := 656) (by decide +kernel)⟩
theorem lw_p11 : lw_okq (⟨"AddressedToYou", "foundWalking", "(IIII)I"⟩, 15) := ⟨⟨by decide +kernel, by decide +kernel⟩, List.mem_of_getElem? (i := 17) (by decide +kernel), List.mem_of_getElem? (i := 677) (by decide +kernel), List.mem_of_getElem? (i := 678) (by decide +kernel)⟩
theorem lw_p12 : lw_okq (⟨"AddressedToYou", "driftsAlong", "(LAddressedToYou$Shelf;III)Z"⟩, 15) := ⟨⟨by decide +kernel, by decide +kernel⟩, List.mem_of_getElem? (i := 17) (by decide +kernel), List.mem_of_getElem? (i := 686) (by decide +kernel), List.mem_of_getElem? (i := 687) (by decide +kernel)⟩
theorem lw_p13 : lw_okq (⟨"AddressedToYou", "fillMeetings", "(I)V"⟩, 15) := ⟨⟨by decide +kernel, by decide +kernel⟩, List.mem_of_getElem? (i := 17) (by decide +kernel), List.mem_of_getElem? (i := 700) (by decide +kernel), List.mem_of_getElem? (i := 701) (by decide +kernel)⟩
theorem lw_p14 : lw_okq (⟨"AddressedToYou", "fillBestPairs", "()V"⟩, 15) := ⟨⟨by decide +kernel, by decide +kernel⟩, List.mem_of_getElem? (i := 17) (by decide +kernel), List.mem_of_getElem? (i := 704) (by decide +kernel), List.mem_of_getElem? (i := 705) (by decide +kernel)⟩
theorem lw_p15 : lw_okq (⟨"AddressedToYou", "bestFrom", "(II)I"⟩, 15) := ⟨⟨by decide +kernel, by decide +kernel⟩, List.mem_of_getElem? (i := 17) (by decide +kernel), List.mem_of_getElem? (i := 708) (by decide +kernel), List.mem_of_getElem? (i := 709) (by decide +kernel)⟩
def lw_privs_1 : List (MethodName × Nat) := [(⟨"AddressedToYou", "shelfAt", "(I)LAddressedToYou$Shelf;"⟩, 15), (⟨"AddressedToYou", "refuse", "(I)I"⟩, 15), (⟨"AddressedToYou$Shelf", "narrowed", "(J)J"⟩, 3), (⟨"AddressedToYou$Tape", "readStatement", "(LAddressedToYou$World;)Z"⟩, 7), (⟨"AddressedToYou$Tape", "scan", "()V"⟩, 7), (⟨"AddressedToYou$Tape", "byteAt", "(I)I"⟩, 7), (⟨"AddressedToYou$Tape", "scanNumber", "()V"⟩, 7), (⟨"AddressedToYou$Tape", "wordNumber", "()I"⟩, 7), (⟨"AddressedToYou$Tape", "spells", "(Ljava/lang/String;)Z"⟩, 7), (⟨"AddressedToYou$Tape", "perform", "(LAddressedToYou$World;I)V"⟩, 7), (⟨"AddressedToYou", "firstMeeting", "(LAddressedToYou$Walker;I)I"⟩, 15), (⟨"AddressedToYou", "foundWalking", "(IIII)I"⟩, 15), (⟨"AddressedToYou", "driftsAlong", "(LAddressedToYou$Shelf;III)Z"⟩, 15), (⟨"AddressedToYou", "fillMeetings", "(I)V"⟩, 15), (⟨"AddressedToYou", "fillBestPairs", "()V"⟩, 15), (⟨"AddressedToYou", "bestFrom", "(II)I"⟩, 15)]
theorem lw_r1 : ∀ q ∈ lw_privs_1, lw_okq q := List.forall_mem_cons.mpr ⟨lw_p0, List.forall_mem_cons.mpr ⟨lw_p1, List.forall_mem_cons.mpr ⟨lw_p2, List.forall_mem_cons.mpr ⟨lw_p3, List.forall_mem_cons.mpr ⟨lw_p4, List.forall_mem_cons.mpr ⟨lw_p5, List.forall_mem_cons.mpr ⟨lw_p6, List.forall_mem_cons.mpr ⟨lw_p7, List.forall_mem_cons.mpr ⟨lw_p8, List.forall_mem_cons.mpr ⟨lw_p9, List.forall_mem_cons.mpr ⟨lw_p10, List.forall_mem_cons.mpr ⟨lw_p11, List.forall_mem_cons.mpr ⟨lw_p12, List.forall_mem_cons.mpr ⟨lw_p13, List.forall_mem_cons.mpr ⟨lw_p14, List.forall_mem_cons.mpr ⟨lw_p15, fun _ h => absurd h List.not_mem_nil⟩⟩⟩⟩⟩⟩⟩⟩⟩⟩⟩⟩⟩⟩⟩⟩
theorem lw_p16 : lw_okq (⟨"AddressedToYou", "pairingScore", "(III)I"⟩, 15) := ⟨⟨by decide +kernel, by decide +kernel⟩, List.mem_of_getElem? (i := 17) (by decide +kernel), List.mem_of_getElem? (i := 712) (by decide +kernel), List.mem_of_getElem? (i := 713) (by decide +kernel)⟩
theorem lw_p17 : lw_okq (⟨"AddressedToYou", "partnerOf", "(I)I"⟩, 15) := ⟨⟨by decide +kernel, by decide +kernel⟩, List.mem_of_getElem? (i := 17) (by decide +kernel), List.mem_of_getElem? (i := 717) (by decide +kernel), List.mem_of_getElem? (i := 718) (by decide +kernel)⟩
theorem lw_p18 : lw_okq (⟨"AddressedToYou", "endsBy", "(LAddressedToYou$Bottle;II)I"⟩, 15) := ⟨⟨by decide +kernel, by decide +kernel⟩, List.mem_of_getElem? (i := 17) (by decide +kernel), List.mem_of_getElem? (i := 734) (by decide +kernel), List.mem_of_getElem? (i := 735) (by decide +kernel)⟩
theorem lw_p19 : lw_okq (⟨"AddressedToYou", "fillVisited", "()V"⟩, 15) := ⟨⟨by decide +kernel, by decide +kernel⟩, List.mem_of_getElem? (i := 17) (by decide +kernel), List.mem_of_getElem? (i := 777) (by decide +kernel), List.mem_of_getElem? (i := 778) (by decide +kernel)⟩
theorem lw_p20 : lw_okq (⟨"AddressedToYou$World", "draw", "(I)I"⟩, 12) := ⟨⟨by decide +kernel, by decide +kernel⟩, List.mem_of_getElem? (i := 25) (by decide +kernel), List.mem_of_getElem? (i := 839) (by decide +kernel), List.mem_of_getElem? (i := 840) (by decide +kernel)⟩
theorem lw_p21 : lw_okq (⟨"AddressedToYou", "shelvesInUse", "()I"⟩, 15) := ⟨⟨by decide +kernel, by decide +kernel⟩, List.mem_of_getElem? (i := 17) (by decide +kernel), List.mem_of_getElem? (i := 868) (by decide +kernel), List.mem_of_getElem? (i := 869) (by decide +kernel)⟩
theorem lw_p22 : lw_okq (⟨"AddressedToYouModel", "no", "(I)I"⟩, 33) := ⟨⟨by decide +kernel, by decide +kernel⟩, List.mem_of_getElem? (i := 873) (by decide +kernel), List.mem_of_getElem? (i := 989) (by decide +kernel), List.mem_of_getElem? (i := 990) (by decide +kernel)⟩
theorem lw_p23 : lw_okq (⟨"AddressedToYouModel", "isRow", "(I)Z"⟩, 33) := ⟨⟨by decide +kernel, by decide +kernel⟩, List.mem_of_getElem? (i := 873) (by decide +kernel), List.mem_of_getElem? (i := 997) (by decide +kernel), List.mem_of_getElem? (i := 998) (by decide +kernel)⟩
theorem lw_p24 : lw_okq (⟨"AddressedToYouModel", "noRow", "(I)I"⟩, 33) := ⟨⟨by decide +kernel, by decide +kernel⟩, List.mem_of_getElem? (i := 873) (by decide +kernel), List.mem_of_getElem? (i := 1001) (by decide +kernel), List.mem_of_getElem? (i := 1002) (by decide +kernel)⟩
theorem lw_p25 : lw_okq (⟨"AddressedToYouModel", "isBottle", "(I)Z"⟩, 33) := ⟨⟨by decide +kernel, by decide +kernel⟩, List.mem_of_getElem? (i := 873) (by decide +kernel), List.mem_of_getElem? (i := 1024) (by decide +kernel), List.mem_of_getElem? (i := 1025) (by decide +kernel)⟩
theorem lw_p26 : lw_okq (⟨"AddressedToYouModel", "drift", "(I)I"⟩, 33) := ⟨⟨by decide +kernel, by decide +kernel⟩, List.mem_of_getElem? (i := 873) (by decide +kernel), List.mem_of_getElem? (i := 1035) (by decide +kernel), List.mem_of_getElem? (i := 1036) (by decide +kernel)⟩
theorem lw_p27 : lw_okq (⟨"AddressedToYouModel", "isCell", "(I)Z"⟩, 33) := ⟨⟨by decide +kernel, by decide +kernel⟩, List.mem_of_getElem? (i := 873) (by decide +kernel), List.mem_of_getElem? (i := 1047) (by decide +kernel), List.mem_of_getElem? (i := 1048) (by decide +kernel)⟩
theorem lw_p28 : lw_okq (⟨"AddressedToYouModel", "newWalker", "(III)I"⟩, 33) := ⟨⟨by decide +kernel, by decide +kernel⟩, List.mem_of_getElem? (i := 873) (by decide +kernel), List.mem_of_getElem? (i := 1051) (by decide +kernel), List.mem_of_getElem? (i := 1052) (by decide +kernel)⟩
theorem lw_p29 : lw_okq (⟨"AddressedToYouModel", "isWalker", "(I)Z"⟩, 33) := ⟨⟨by decide +kernel, by decide +kernel⟩, List.mem_of_getElem? (i := 873) (by decide +kernel), List.mem_of_getElem? (i := 1059) (by decide +kernel), List.mem_of_getElem? (i := 1060) (by decide +kernel)⟩
theorem lw_p30 : lw_okq (⟨"AddressedToYouModel", "becomes", "(IIIII)V"⟩, 33) := ⟨⟨by decide +kernel, by decide +kernel⟩, List.mem_of_getElem? (i := 873) (by decide +kernel), List.mem_of_getElem? (i := 1078) (by decide +kernel), List.mem_of_getElem? (i := 1079) (by decide +kernel)⟩
theorem lw_p31 : lw_okq (⟨"AddressedToYouModel", "keep", "([I)V"⟩, 33) := ⟨⟨by decide +kernel, by decide +kernel⟩, List.mem_of_getElem? (i := 873) (by decide +kernel), List.mem_of_getElem? (i := 1094) (by decide +kernel), List.mem_of_getElem? (i := 1095) (by decide +kernel)⟩
def lw_privs_2 : List (MethodName × Nat) := [(⟨"AddressedToYou", "pairingScore", "(III)I"⟩, 15), (⟨"AddressedToYou", "partnerOf", "(I)I"⟩, 15), (⟨"AddressedToYou", "endsBy", "(LAddressedToYou$Bottle;II)I"⟩, 15), (⟨"AddressedToYou", "fillVisited", "()V"⟩, 15), (⟨"AddressedToYou$World", "draw", "(I)I"⟩, 12), (⟨"AddressedToYou", "shelvesInUse", "()I"⟩, 15), (⟨"AddressedToYouModel", "no", "(I)I"⟩, 33), (⟨"AddressedToYouModel", "isRow", "(I)Z"⟩, 33), (⟨"AddressedToYouModel", "noRow", "(I)I"⟩, 33), (⟨"AddressedToYouModel", "isBottle", "(I)Z"⟩, 33), (⟨"AddressedToYouModel", "drift", "(I)I"⟩, 33), (⟨"AddressedToYouModel", "isCell", "(I)Z"⟩, 33), (⟨"AddressedToYouModel", "newWalker", "(III)I"⟩, 33), (⟨"AddressedToYouModel", "isWalker", "(I)Z"⟩, 33), (⟨"AddressedToYouModel", "becomes", "(IIIII)V"⟩, 33), (⟨"AddressedToYouModel", "keep", "([I)V"⟩, 33)]
theorem lw_r2 : ∀ q ∈ lw_privs_2, lw_okq q := List.forall_mem_cons.mpr ⟨lw_p16, List.forall_mem_cons.mpr ⟨lw_p17, List.forall_mem_cons.mpr ⟨lw_p18, List.forall_mem_cons.mpr ⟨lw_p19, List.forall_mem_cons.mpr ⟨lw_p20, List.forall_mem_cons.mpr ⟨lw_p21, List.forall_mem_cons.mpr ⟨lw_p22, List.forall_mem_cons.mpr ⟨lw_p23, List.forall_mem_cons.mpr ⟨lw_p24, List.forall_mem_cons.mpr ⟨lw_p25, List.forall_mem_cons.mpr ⟨lw_p26, List.forall_mem_cons.mpr ⟨lw_p27, List.forall_mem_cons.mpr ⟨lw_p28, List.forall_mem_cons.mpr ⟨lw_p29, List.forall_mem_cons.mpr ⟨lw_p30, List.forall_mem_cons.mpr ⟨lw_p31, fun _ h => absurd h List.not_mem_nil⟩⟩⟩⟩⟩⟩⟩⟩⟩⟩⟩⟩⟩⟩⟩⟩
theorem lw_p32 : lw_okq (⟨"AddressedToYouModel", "next", "()V"⟩, 33) := ⟨⟨by decide +kernel, by decide +kernel⟩, List.mem_of_getElem? (i := 873) (by decide +kernel), List.mem_of_getElem? (i := 1098) (by decide +kernel), List.mem_of_getElem? (i := 1099) (by decide +kernel)⟩
theorem lw_p33 : lw_okq (⟨"AddressedToYouModel", "statement", "()Z"⟩, 33) := ⟨⟨by decide +kernel, by decide +kernel⟩, List.mem_of_getElem? (i := 873) (by decide +kernel), List.mem_of_getElem? (i := 1108) (by decide +kernel), List.mem_of_getElem? (i := 1109) (by decide +kernel)⟩
theorem lw_p34 : lw_okq (⟨"AddressedToYouModel", "isWord", "(Ljava/lang/String;)Z"⟩, 33) := ⟨⟨by decide +kernel, by decide +kernel⟩, List.mem_of_getElem? (i := 873) (by decide +kernel), List.mem_of_getElem? (i := 1113) (by decide +kernel), List.mem_of_getElem? (i := 1114) (by decide +kernel)⟩
theorem lw_p35 : lw_okq (⟨"AddressedToYouModel", "comesOne", "()Z"⟩, 33) := ⟨⟨by decide +kernel, by decide +kernel⟩, List.mem_of_getElem? (i := 873) (by decide +kernel), List.mem_of_getElem? (i := 1119) (by decide +kernel), List.mem_of_getElem? (i := 1120) (by decide +kernel)⟩
theorem lw_p36 : lw_okq (⟨"AddressedToYouModel", "cellTold", "()I"⟩, 33) := ⟨⟨by decide +kernel, by decide +kernel⟩, List.mem_of_getElem? (i := 873) (by decide +kernel), List.mem_of_getElem? (i := 1123) (by decide +kernel), List.mem_of_getElem? (i := 1124) (by decide +kernel)⟩
theorem lw_p37 : lw_okq (⟨"AddressedToYouModel", "number", "(II)I"⟩, 33) := ⟨⟨by decide +kernel, by decide +kernel⟩, List.mem_of_getElem? (i := 873) (by decide +kernel), List.mem_of_getElem? (i := 1127) (by decide +kernel), List.mem_of_getElem? (i := 1128) (by decide +kernel)⟩
theorem lw_p38 : lw_okq (⟨"AddressedToYouModel", "floats", "()Z"⟩, 33) := ⟨⟨by decide +kernel, by decide +kernel⟩, List.mem_of_getElem? (i := 873) (by decide +kernel), List.mem_of_getElem? (i := 1132) (by decide +kernel), List.mem_of_getElem? (i := 1133) (by decide +kernel)⟩
theorem lw_p39 : lw_okq (⟨"AddressedToYouModel", "again", "([I)V"⟩, 33) := ⟨⟨by decide +kernel, by decide +kernel⟩, List.mem_of_getElem? (i := 873) (by decide +kernel), List.mem_of_getElem? (i := 1140) (by decide +kernel), List.mem_of_getElem? (i := 1141) (by decide +kernel)⟩
theorem lw_p40 : lw_okq (⟨"AddressedToYouModel", "tough", "(I)I"⟩, 33) := ⟨⟨by decide +kernel, by decide +kernel⟩, List.mem_of_getElem? (i := 873) (by decide +kernel), List.mem_of_getElem? (i := 1148) (by decide +kernel), List.mem_of_getElem? (i := 1149) (by decide +kernel)⟩
theorem lw_p41 : lw_okq (⟨"AddressedToYouModel", "forHim", "(I)I"⟩, 33) := ⟨⟨by decide +kernel, by decide +kernel⟩, List.mem_of_getElem? (i := 873) (by decide +kernel), List.mem_of_getElem? (i := 1156) (by decide +kernel), List.mem_of_getElem? (i := 1157) (by decide +kernel)⟩
theorem lw_p42 : lw_okq (⟨"AddressedToYouModel", "goesOn", "(I)I"⟩, 33) := ⟨⟨by decide +kernel, by decide +kernel⟩, List.mem_of_getElem? (i := 873) (by decide +kernel), List.mem_of_getElem? (i := 1171) (by decide +kernel), List.mem_of_getElem? (i := 1172) (by decide +kernel)⟩
theorem lw_p43 : lw_okq (⟨"AddressedToYouModel", "passes", "(I)I"⟩, 33) := ⟨⟨by decide +kernel, by decide +kernel⟩, List.mem_of_getElem? (i := 873) (by decide +kernel), List.mem_of_getElem? (i := 1175) (by decide +kernel), List.mem_of_getElem? (i := 1176) (by decide +kernel)⟩
theorem lw_p44 : lw_okq (⟨"AddressedToYouModel", "drifts", "(I)V"⟩, 33) := ⟨⟨by decide +kernel, by decide +kernel⟩, List.mem_of_getElem? (i := 873) (by decide +kernel), List.mem_of_getElem? (i := 1179) (by decide +kernel), List.mem_of_getElem? (i := 1180) (by decide +kernel)⟩
theorem lw_p45 : lw_okq (⟨"AddressedToYouModel", "steps", "(I)V"⟩, 33) := ⟨⟨by decide +kernel, by decide +kernel⟩, List.mem_of_getElem? (i := 873) (by decide +kernel), List.mem_of_getElem? (i := 1186) (by decide +kernel), List.mem_of_getElem? (i := 1187) (by decide +kernel)⟩
theorem lw_p46 : lw_okq (⟨"AddressedToYouModel", "whenSo", "(III)I"⟩, 33) := ⟨⟨by decide +kernel, by decide +kernel⟩, List.mem_of_getElem? (i := 873) (by decide +kernel), List.mem_of_getElem? (i := 1202) (by decide +kernel), List.mem_of_getElem? (i := 1203) (by decide +kernel)⟩
theorem lw_p47 : lw_okq (⟨"AddressedToYouModel", "meet", "(II)I"⟩, 33) := ⟨⟨by decide +kernel, by decide +kernel⟩, List.mem_of_getElem? (i := 873) (by decide +kernel), List.mem_of_getElem? (i := 1214) (by decide +kernel), List.mem_of_getElem? (i := 1215) (by decide +kernel)⟩
def lw_privs_3 : List (MethodName × Nat) := [(⟨"AddressedToYouModel", "next", "()V"⟩, 33), (⟨"AddressedToYouModel", "statement", "()Z"⟩, 33), (⟨"AddressedToYouModel", "isWord", "(Ljava/lang/String;)Z"⟩, 33), (⟨"AddressedToYouModel", "comesOne", "()Z"⟩, 33), (⟨"AddressedToYouModel", "cellTold", "()I"⟩, 33), (⟨"AddressedToYouModel", "number", "(II)I"⟩, 33), (⟨"AddressedToYouModel", "floats", "()Z"⟩, 33), (⟨"AddressedToYouModel", "again", "([I)V"⟩, 33), (⟨"AddressedToYouModel", "tough", "(I)I"⟩, 33), (⟨"AddressedToYouModel", "forHim", "(I)I"⟩, 33), (⟨"AddressedToYouModel", "goesOn", "(I)I"⟩, 33), (⟨"AddressedToYouModel", "passes", "(I)I"⟩, 33), (⟨"AddressedToYouModel", "drifts", "(I)V"⟩, 33), (⟨"AddressedToYouModel", "steps", "(I)V"⟩, 33), (⟨"AddressedToYouModel", "whenSo", "(III)I"⟩, 33), (⟨"AddressedToYouModel", "meet", "(II)I"⟩, 33)]
theorem lw_r3 : ∀ q ∈ lw_privs_3, lw_okq q := List.forall_mem_cons.mpr ⟨lw_p32, List.forall_mem_cons.mpr ⟨lw_p33, List.forall_mem_cons.mpr ⟨lw_p34, List.forall_mem_cons.mpr ⟨lw_p35, List.forall_mem_cons.mpr ⟨lw_p36, List.forall_mem_cons.mpr ⟨lw_p37, List.forall_mem_cons.mpr ⟨lw_p38, List.forall_mem_cons.mpr ⟨lw_p39, List.forall_mem_cons.mpr ⟨lw_p40, List.forall_mem_cons.mpr ⟨lw_p41, List.forall_mem_cons.mpr ⟨lw_p42, List.forall_mem_cons.mpr ⟨lw_p43, List.forall_mem_cons.mpr ⟨lw_p44, List.forall_mem_cons.mpr ⟨lw_p45, List.forall_mem_cons.mpr ⟨lw_p46, List.forall_mem_cons.mpr ⟨lw_p47, fun _ h => absurd h List.not_mem_nil⟩⟩⟩⟩⟩⟩⟩⟩⟩⟩⟩⟩⟩⟩⟩⟩
theorem lw_p48 : lw_okq (⟨"AddressedToYouModel", "whenThrown", "(IIII)I"⟩, 33) := ⟨⟨by decide +kernel, by decide +kernel⟩, List.mem_of_getElem? (i := 873) (by decide +kernel), List.mem_of_getElem? (i := 1230) (by decide +kernel), List.mem_of_getElem? (i := 1231) (by decide +kernel)⟩
theorem lw_p49 : lw_okq (⟨"AddressedToYouModel", "foundFor", "(II)I"⟩, 33) := ⟨⟨by decide +kernel, by decide +kernel⟩, List.mem_of_getElem? (i := 873) (by decide +kernel), List.mem_of_getElem? (i := 1238) (by decide +kernel), List.mem_of_getElem? (i := 1239) (by decide +kernel)⟩
theorem lw_p50 : lw_okq (⟨"AddressedToYouModel", "noTold", "(II)I"⟩, 33) := ⟨⟨by decide +kernel, by decide +kernel⟩, List.mem_of_getElem? (i := 873) (by decide +kernel), List.mem_of_getElem? (i := 1246) (by decide +kernel), List.mem_of_getElem? (i := 1247) (by decide +kernel)⟩
theorem lw_p51 : lw_okq (⟨"AddressedToYouModel", "goesSo", "(III)Z"⟩, 33) := ⟨⟨by decide +kernel, by decide +kernel⟩, List.mem_of_getElem? (i := 873) (by decide +kernel), List.mem_of_getElem? (i := 1250) (by decide +kernel), List.mem_of_getElem? (i := 1251) (by decide +kernel)⟩
theorem lw_p52 : lw_okq (⟨"AddressedToYouModel", "toldAt", "(II)J"⟩, 33) := ⟨⟨by decide +kernel, by decide +kernel⟩, List.mem_of_getElem? (i := 873) (by decide +kernel), List.mem_of_getElem? (i := 1254) (by decide +kernel), List.mem_of_getElem? (i := 1255) (by decide +kernel)⟩
theorem lw_p53 : lw_okq (⟨"AddressedToYouModel", "tries", "(IIIII)V"⟩, 33) := ⟨⟨by decide +kernel, by decide +kernel⟩, List.mem_of_getElem? (i := 873) (by decide +kernel), List.mem_of_getElem? (i := 1266) (by decide +kernel), List.mem_of_getElem? (i := 1267) (by decide +kernel)⟩
theorem lw_p54 : lw_okq (⟨"AddressedToYouModel", "afloatThen", "(I)I"⟩, 33) := ⟨⟨by decide +kernel, by decide +kernel⟩, List.mem_of_getElem? (i := 873) (by decide +kernel), List.mem_of_getElem? (i := 1291) (by decide +kernel), List.mem_of_getElem? (i := 1292) (by decide +kernel)⟩
theorem lw_p55 : lw_okq (⟨"AddressedToYouModel", "areSo", "(I)I"⟩, 33) := ⟨⟨by decide +kernel, by decide +kernel⟩, List.mem_of_getElem? (i := 873) (by decide +kernel), List.mem_of_getElem? (i := 1295) (by decide +kernel), List.mem_of_getElem? (i := 1296) (by decide +kernel)⟩
theorem lw_p56 : lw_okq (⟨"AddressedToYouModel", "cellsOf", "(I)I"⟩, 33) := ⟨⟨by decide +kernel, by decide +kernel⟩, List.mem_of_getElem? (i := 873) (by decide +kernel), List.mem_of_getElem? (i := 1315) (by decide +kernel), List.mem_of_getElem? (i := 1316) (by decide +kernel)⟩
theorem lw_p57 : lw_okq (⟨"AddressedToYouModel", "draw", "(I)I"⟩, 33) := ⟨⟨by decide +kernel, by decide +kernel⟩, List.mem_of_getElem? (i := 873) (by decide +kernel), List.mem_of_getElem? (i := 1359) (by decide +kernel), List.mem_of_getElem? (i := 1360) (by decide +kernel)⟩
def lw_privs_4 : List (MethodName × Nat) := [(⟨"AddressedToYouModel", "whenThrown", "(IIII)I"⟩, 33), (⟨"AddressedToYouModel", "foundFor", "(II)I"⟩, 33), (⟨"AddressedToYouModel", "noTold", "(II)I"⟩, 33), (⟨"AddressedToYouModel", "goesSo", "(III)Z"⟩, 33), (⟨"AddressedToYouModel", "toldAt", "(II)J"⟩, 33), (⟨"AddressedToYouModel", "tries", "(IIIII)V"⟩, 33), (⟨"AddressedToYouModel", "afloatThen", "(I)I"⟩, 33), (⟨"AddressedToYouModel", "areSo", "(I)I"⟩, 33), (⟨"AddressedToYouModel", "cellsOf", "(I)I"⟩, 33), (⟨"AddressedToYouModel", "draw", "(I)I"⟩, 33)]
theorem lw_r4 : ∀ q ∈ lw_privs_4, lw_okq q := List.forall_mem_cons.mpr ⟨lw_p48, List.forall_mem_cons.mpr ⟨lw_p49, List.forall_mem_cons.mpr ⟨lw_p50, List.forall_mem_cons.mpr ⟨lw_p51, List.forall_mem_cons.mpr ⟨lw_p52, List.forall_mem_cons.mpr ⟨lw_p53, List.forall_mem_cons.mpr ⟨lw_p54, List.forall_mem_cons.mpr ⟨lw_p55, List.forall_mem_cons.mpr ⟨lw_p56, List.forall_mem_cons.mpr ⟨lw_p57, fun _ h => absurd h List.not_mem_nil⟩⟩⟩⟩⟩⟩⟩⟩⟩⟩
def lw_privs : List (MethodName × Nat) := lw_privs_1 ++ (lw_privs_2 ++ (lw_privs_3 ++ (lw_privs_4)))
def lw_tbl : List Cond := k2_sels lw_privs ++ tables_1
theorem lw_privs_ok : ∀ q ∈ lw_privs, lw_okq q := by
  show ∀ q ∈ lw_privs_1 ++ (lw_privs_2 ++ (lw_privs_3 ++ (lw_privs_4))), lw_okq q
  exact List.forall_mem_append.mpr ⟨lw_r1, List.forall_mem_append.mpr ⟨lw_r2, List.forall_mem_append.mpr ⟨lw_r3, lw_r4⟩⟩⟩
end
section
/-! ===== BEGIN words of one list among another's, by their places ===== -/
theorem goodIn_r {big : List Cond} (ws : List Cond) (ps : List Nat) (hp : ws = ps.filterMap (fun i => big[i]?)) (h : ws.all goodWord = true) : GoodIn big ws := by
  intro w hw
  have h1 := List.all_eq_true.mp h w hw
  rw [hp] at hw
  obtain ⟨i, -, hi⟩ := List.mem_filterMap.mp hw
  have hm : w ∈ big := by first | exact List.mem_of_getElem? hi | exact List.getElem?_mem hi
  exact ⟨hm, good_of_word h1⟩
theorem goodIn_app {big a b : List Cond} (ha : GoodIn big a) (hb : GoodIn big b) : GoodIn big (a ++ b) := fun w h => (List.mem_append.mp h).elim (ha w) (hb w)
theorem goodIn_ca {big a b : List Cond} {c : Cond} (ha : GoodIn big (c :: a)) (hb : GoodIn big b) : GoodIn big (c :: (a ++ b)) := fun w h => (List.mem_cons.mp h).elim (fun e => ha w (List.mem_cons.mpr (Or.inl e))) (fun h => (List.mem_append.mp h).elim (fun h => ha w (List.mem_cons.mpr (Or.inr h))) (hb w))
theorem goodIn_sub {big ws : List Cond} (hm : ∀ w ∈ ws, w ∈ big) (h : ws.all goodWord = true) : GoodIn big ws := fun w hw => ⟨hm w hw, good_of_word (List.all_eq_true.mp h w hw)⟩
/-! ===== END ===== -/

/-! ===== BEGIN new T[n][m]: the outer array a place, the inner ones among the pooled ===== -/
/-- f, but v at every address of l -/
def vr_up {α : Type} (f : Nat → α) (l : List Nat) (v : α) : Nat → α := fun a => if a ∈ l then v else f a
theorem vr_up_in {α : Type} {f : Nat → α} {l : List Nat} {v : α} {a : Nat} (h : a ∈ l) : vr_up f l v a = v := if_pos h
theorem vr_up_ne {α : Type} {f : Nat → α} {l : List Nat} {v : α} {a : Nat} (h : a ∉ l) : vr_up f l v a = f a := if_neg h
theorem vr_rows {L l : List Nat} {f : Nat → va_E} {e : va_E} (h : ∀ a, a ∈ l → a ∉ L) : va_pl L f ++ l.map (fun a => (a, e)) = va_pl (L ++ l) (vr_up f l e) := by
  unfold va_pl
  rw [List.map_append]
  congr 1
  · apply List.map_congr_left
    intro a ha
    rw [vr_up_ne (fun q => h a q ha)]
  · apply List.map_congr_left
    intro a ha
    rw [vr_up_in ha]
theorem vr_lay {X rows : va_W} {x : Nat × va_E} {pl : va_W} {D : va_G} {cl : List vw_C} {H : Heap} (hP : va_P D cl (((X ++ pl) ++ [x]) ++ rows) H) : va_P D cl ((X ++ [x]) ++ (pl ++ rows)) H := by
  rw [List.append_assoc (X ++ pl)] at hP
  have h := va_P.swap hP
  rw [← List.append_assoc X] at h
  have h2 := va_P.swap h
  rw [List.append_assoc (X ++ [x])] at h2
  exact h2
theorem vr_layD {X rows : va_W} {x : Nat × va_E} {pl : va_W} {A : Nat → Prop} (hD : va_D A (((X ++ pl) ++ [x]) ++ rows)) : va_D A ((X ++ [x]) ++ (pl ++ rows)) := by
  rw [List.append_assoc (X ++ pl)] at hD
  have h := va_D.swap hD
  rw [← List.append_assoc X] at h
  have h2 := va_D.swap h
  rw [List.append_assoc (X ++ [x])] at h2
  exact h2
theorem vr_outer (c : ClassId) (N h0 : Nat) : ∀ i : Nat, Jvm.Free.Multi.outerC c N h0 i = arrV c N (fun j => va_rf (if j < i then some (h0 + 1 + j) else none))
  | 0 => by
    show ({ cls := c, slots := Array.replicate N .null, vm := .none } : Cell) = _
    rw [arrV_new]
    refine congrArg (arrV c N) (funext fun j => ?_)
    simp [va_rf]
  | i + 1 => by
    show (Jvm.Free.Multi.outerC c N h0 i).setSlot i (.ref (h0 + 1 + i)) = _
    rw [vr_outer c N h0 i, arrV_store]
    refine congrArg (arrV c N) (funext fun j => ?_)
    by_cases e : j = i
    · subst e
      simp [updV, va_rf]
    · by_cases h : j < i
      · simp [updV, e, h, Nat.lt_succ_of_lt h]
      · simp [updV, e, h, show ¬ j < i + 1 by omega]
/-- arrays of arrays: what the tables say (its name is the printed names' own, which nothing else defines) -/
def va_AOA (ty : FieldType) (U : State) : Prop := (Cond.arrayOver (.array ty)).before #[] U = true
theorem va_AOA.of {ty : FieldType} {A : Array Value} {U : State} (h : (Cond.arrayOver (.array ty)).before A U = true) : va_AOA ty U := h
theorem va_AOA.use {ty : FieldType} {A : Array Value} {U : State} (h : va_AOA ty U) : (Cond.arrayOver (.array ty)).before A U = true := h
section VGM
variable {p : Program} {l : Launch} {e : Env} {R : Room} {s : State} {m : MethodId} {args : Array Value} {below : List Frame} {meth : Method} {c : Code} {H : Heap} {locs : List Loc} {cells slots : Nat} {Q : State → Prop}
variable {cc : ByteArray} {pc : Nat} {ls : Array Slot} {rest : List Value} {D : va_G} {cl : List vw_C} {A : Nat → Prop} {a : Nat} {tys : List (ClassId × FieldType)} {ws : va_W} {H0 : Heap}
theorem va_mna {X : va_W} {L : List Nat} {f : Nat → va_E} {cc : ByteArray} (hexec : p.tables.exec = Jvm.exec) (hb : c.code = cc) {own : String} {index : Nat} {ty : FieldType} {cy : ClassId} (hown : s.vm.findClass own = some m.cls) (hclink : (Cond.classLink own index ("[" ++ (FieldType.array ty).toString)).before args s = true) (hover : va_AOA ty s) (harr : (Cond.arrayClass ty).before args s = true) (hcy : s.vm.findClass (FieldType.array ty).toString = some cy)
    (hK : va_K D cl tys s) (hP : va_P D cl (X ++ va_pl L f) H) (hD : va_D A (X ++ va_pl L f)) (hS : va_S A H0 H locs) (hA : ∀ q, H0.size ≤ q → A q) {n k : Int32} {N' K' : Nat} {z : vp_A} (hn : ¬ n < 0) (hk : ¬ k < 0) (hN : n.toNatClampNeg = N') (hM : k.toNatClampNeg = K')
    (hb1 : N' * 4 ≤ 536870912) (hb2 : K' * componentBytes ty ≤ 536870912) (hb3 : K' ≤ 536870912) (hdf : fits ty (defaultValue ty) = true) (hdd : (defaultValue ty).isDefault = true) (hcells : cells + (1 + N') ≤ R.cells) (hslots : slots + (N' + N' * K') ≤ R.slots) (hz : ∀ c : ClassId, Jvm.Free.Multi.innerC c K' (defaultValue ty) = vp_cell c z) (hdg : decode cc pc = .ok (.multianewarray index 2, 4))
    (kk : ∀ (q : Nat) (r : Nat → Nat) (cA : ClassId) (H1 : Heap), (∀ i j : Nat, i < N' → j < N' → r i = r j → i = j) → (∀ i : Nat, i < N' → r i ∉ L) → va_K D cl (tys ++ [(cA, .array ty)]) s →
      va_P D cl ((X ++ [(q, .inl (cA, N', .inr (.inr (.inr (.inr (fun i => if i < N' then some (r i) else none))))))]) ++ va_pl (L ++ (List.range N').map r) (vr_up f ((List.range N').map r) (.inl (cy, z)))) H1 → va_D A ((X ++ [(q, .inl (cA, N', .inr (.inr (.inr (.inr (fun i => if i < N' then some (r i) else none))))))]) ++ va_pl (L ++ (List.range N').map r) (vr_up f ((List.range N').map r) (.inl (cy, z)))) → va_S A H0 H1 locs →
      W p l e R s m args below meth c H1 locs (cells + 1 + N') (slots + N' + N' * K') Q (F0 m (pc + 4) ls (.ref q :: rest))) : W p l e R s m args below meth c H locs cells slots Q (F0 m pc ls (.int k :: .int n :: rest)) := by
  subst hN
  subst hM
  intro T hT Xs
  obtain ⟨vm₁, cA, comp, -, fA, fC, hO, -, X', step⟩ := Xs.multianewarray2F hexec hown hclink (va_AOA.use hover) harr (g := F0 m pc ls (.int k :: .int n :: rest)) rfl (by rw [hb]; exact hdg) rfl hn hk hb1 hb2 hb3 hdf hdd hcells hslots
  have ec : some cy = some comp := hcy.symm.trans fC
  cases ec
  generalize hF : Jvm.Free.Multi.fill (T.setVm vm₁) cA cy n.toNatClampNeg k.toNatClampNeg (defaultValue ty) n.toNatClampNeg = F at X' step
  have hTh : (T.setVm vm₁).heap = H := hT
  obtain ⟨f1, f2, -, -⟩ := Jvm.Free.Multi.fill_facts (T.setVm vm₁) cA cy n.toNatClampNeg k.toNatClampNeg (defaultValue ty) n.toNatClampNeg
  rw [hF, hTh] at f1 f2
  have hold : ∀ x : Nat, x < H.size → F.heap[x]? = H[x]? := fun x hx => by
    have := Jvm.Free.Multi.fill_old (T.setVm vm₁) cA cy n.toNatClampNeg k.toNatClampNeg (defaultValue ty) (a := x) (by rw [hTh]; exact hx) n.toNatClampNeg
    rw [hF, hTh] at this
    exact this
  have hrow : ∀ j : Nat, j < n.toNatClampNeg → F.heap[H.size + 1 + j]? = some (vp_cell cy z) := fun j hj => by
    have := Jvm.Free.Multi.fill_inner (T.setVm vm₁) cA cy n.toNatClampNeg k.toNatClampNeg (defaultValue ty) n.toNatClampNeg j hj
    rw [hF, hTh, hz] at this
    exact this
  have hout : Jvm.Free.Multi.outerC cA n.toNatClampNeg H.size n.toNatClampNeg = vp_cell cA (n.toNatClampNeg, .inr (.inr (.inr (.inr (fun i => if i < n.toNatClampNeg then some (H.size + 1 + i) else none))))) := by
    rw [vp_cell_q]
    exact vr_outer cA n.toNatClampNeg H.size n.toNatClampNeg
  rw [hout] at f2
  have hlt : ∀ a, a ∈ L → a < H.size := fun a ha => by
    obtain ⟨k9, hk9⟩ := va_pl_get (X := X) (f := f) ha
    exact (hP k9 _ hk9).lt
  have hnl : ∀ i : Nat, i < n.toNatClampNeg → H.size + 1 + i ∉ L := fun i _ h => by
    have := hlt _ h
    omega
  have hnm : ∀ a, a ∈ (List.range n.toNatClampNeg).map (fun i => H.size + 1 + i) → a ∉ L := fun a ha h => by
    obtain ⟨i, -, rfl⟩ := List.mem_map.mp ha
    have := hlt _ h
    omega
  have hP0 : va_P D cl (X ++ va_pl L f) F.heap := hP.kept (fun k9 x hx => hold x.1 ((hP k9 x hx).lt))
  have hP1 : va_P D cl ((X ++ va_pl L f) ++ [(H.size, .inl (cA, n.toNatClampNeg, .inr (.inr (.inr (.inr (fun i => if i < n.toNatClampNeg then some (H.size + 1 + i) else none))))))]) F.heap := hP0.app (fun k9 x hx => by
    have h0 : k9 < 1 := (List.getElem?_eq_some_iff.mp hx).1
    rw [show k9 = 0 by omega] at hx
    cases hx
    exact f2)
  have hP2 : va_P D cl (((X ++ va_pl L f) ++ [(H.size, .inl (cA, n.toNatClampNeg, .inr (.inr (.inr (.inr (fun i => if i < n.toNatClampNeg then some (H.size + 1 + i) else none))))))]) ++ ((List.range n.toNatClampNeg).map (fun i => H.size + 1 + i)).map (fun a => (a, .inl (cy, z)))) F.heap := hP1.app (fun k9 x hx => by
    obtain ⟨a, ha, rfl⟩ := List.mem_map.mp (List.mem_of_getElem? hx)
    obtain ⟨i, hi, rfl⟩ := List.mem_map.mp ha
    exact hrow i (List.mem_range.mp hi))
  have hD2 : va_D A (((X ++ va_pl L f) ++ [(H.size, .inl (cA, n.toNatClampNeg, .inr (.inr (.inr (.inr (fun i => if i < n.toNatClampNeg then some (H.size + 1 + i) else none))))))]) ++ ((List.range n.toNatClampNeg).map (fun i => H.size + 1 + i)).map (fun a => (a, .inl (cy, z)))) := by
    have hD1 := hD.push (e := .inl (cA, n.toNatClampNeg, .inr (.inr (.inr (.inr (fun i => if i < n.toNatClampNeg then some (H.size + 1 + i) else none)))))) hP rfl (hA _ hS.1)
    generalize hW1 : (X ++ va_pl L f) ++ [(H.size, .inl (cA, n.toNatClampNeg, .inr (.inr (.inr (.inr (fun i => if i < n.toNatClampNeg then some (H.size + 1 + i) else none))))))] = W1 at hD1 hP1 ⊢
    have hle : ∀ (k9 : Nat) (x : Nat × va_E), W1[k9]? = some x → x.1 ≤ H.size := fun k9 x hx => by
      rw [← hW1] at hx
      by_cases hl : k9 < (X ++ va_pl L f).length
      · rw [List.getElem?_append_left hl] at hx
        exact Nat.le_of_lt ((hP k9 x hx).lt)
      · rw [List.getElem?_append_right (by omega)] at hx
        have h0 : k9 - (X ++ va_pl L f).length < 1 := (List.getElem?_eq_some_iff.mp hx).1
        rw [show k9 - (X ++ va_pl L f).length = 0 by omega] at hx
        cases hx
        exact Nat.le_refl _
    have hr : ∀ (k9 : Nat) (x : Nat × va_E), (((List.range n.toNatClampNeg).map (fun i => H.size + 1 + i)).map (fun a => ((a, .inl (cy, z)) : Nat × va_E)))[k9]? = some x → x.1 = H.size + 1 + k9 := fun k9 x hx => by
      rw [List.getElem?_map, List.getElem?_map] at hx
      by_cases h9 : k9 < n.toNatClampNeg
      · rw [List.getElem?_range h9] at hx
        cases hx
        rfl
      · have hn0 : (List.range n.toNatClampNeg)[k9]? = none := List.getElem?_eq_none (by rw [List.length_range]; omega)
        rw [hn0] at hx
        cases hx
    refine ⟨fun i j x y hi hj hxy => ?_, fun k9 x hx => ?_⟩
    · by_cases h1 : i < W1.length <;> by_cases h2 : j < W1.length
      · rw [List.getElem?_append_left h1] at hi
        rw [List.getElem?_append_left h2] at hj
        exact hD1.1 i j x y hi hj hxy
      · rw [List.getElem?_append_left h1] at hi
        rw [List.getElem?_append_right (by omega)] at hj
        have := hle _ _ hi
        have := hr _ _ hj
        omega
      · rw [List.getElem?_append_right (by omega)] at hi
        rw [List.getElem?_append_left h2] at hj
        have := hle _ _ hj
        have := hr _ _ hi
        omega
      · rw [List.getElem?_append_right (by omega)] at hi hj
        have := hr _ _ hi
        have := hr _ _ hj
        omega
    · by_cases h1 : k9 < W1.length
      · rw [List.getElem?_append_left h1] at hx
        exact hD1.2 k9 x hx
      · rw [List.getElem?_append_right (by omega)] at hx
        have := hr _ _ hx
        exact hA _ (by have := hS.1; omega)
  have hAr : ArrOfT s cA (.array ty) := fun N9 z9 => by
    obtain ⟨-, k9, hk9, cm9, hkk9⟩ := (hO 0 0 0).1
    exact ⟨(fun q hq => by cases hq), k9, hk9, cm9, hkk9⟩
  have hK2 : va_K D cl (tys ++ [(cA, .array ty)]) s := ⟨hK.1, fun k9 x hx => by
    by_cases hl : k9 < tys.length
    · rw [List.getElem?_append_left hl] at hx
      exact hK.2 k9 x hx
    · rw [List.getElem?_append_right (by omega)] at hx
      have h0 : k9 - tys.length < 1 := (List.getElem?_eq_some_iff.mp hx).1
      rw [show k9 - tys.length = 0 by omega] at hx
      cases hx
      exact ⟨hAr, fA⟩⟩
  obtain ⟨t, a1, b1⟩ := kk H.size (fun i => H.size + 1 + i) cA F.heap (fun i j _ _ h => by have h9 : H.size + 1 + i = H.size + 1 + j := h; omega) hnl hK2 (by rw [← vr_rows hnm]; exact vr_lay hP2) (by rw [← vr_rows hnm]; exact vr_layD hD2) ⟨by rw [f1]; have := hS.1; omega, fun x h1 h2 => (hold x (Nat.lt_of_lt_of_le h1 hS.1)).trans (hS.2.1 x h1 h2), hS.2.2⟩ F rfl X'
  refine ⟨t, step t ?_, b1⟩
  have e : T.heap.size = H.size := by rw [hT]
  rw [e]
  exact a1
end VGM
/-! ===== END ===== -/
def RX0 : String := "AddressedToYou$Bottle"
def TX0 : u_T := fun k => match k with
  | 0 => ("AddressedToYou$Bottle", "kind", "I", false)
  | 1 => ("AddressedToYou$Bottle", "a", "I", false)
  | 2 => ("AddressedToYou$Bottle", "cell", "I", false)
  | 3 => ("AddressedToYou$Bottle", "whose", "I", false)
  | _ => ("AddressedToYou$Bottle", "how", "I", false)
def tyX0 : Nat → FieldType := fun k => match k with
  | 0 => .int
  | 1 => .int
  | 2 => .int
  | 3 => .int
  | _ => .int
abbrev wsX00 : List Cond := u_ws RX0 TX0 5
theorem nmX0 : ∀ a, a < 5 → ∀ b, b < 5 → a ≠ b → (TX0 a).2.1 ≠ (TX0 b).2.1 := by decide +kernel
theorem tyX0_ok : ∀ k, k < 5 → parseFieldDescriptor (TX0 k).2.2.1 = some (tyX0 k) := by decide +kernel
abbrev cX0_init : ByteArray := prog_2_method_1_code
def yX0_init : MethodName := ⟨RX0, "<init>", "()V"⟩
abbrev cX0_start : ByteArray := prog_2_method_2_code
def yX0_start : MethodName := ⟨RX0, "start", "(IIII)V"⟩
abbrev cX0_become : ByteArray := prog_2_method_3_code
def yX0_become : MethodName := ⟨RX0, "become", "(LAddressedToYou$Bottle;)V"⟩
abbrev cX0_tellOf : ByteArray := prog_2_method_4_code
def yX0_tellOf : MethodName := ⟨RX0, "tellOf", "(I)I"⟩
def RX1 : String := "AddressedToYou$Shelf"
def TX1 : u_T := fun k => match k with
  | 0 => ("AddressedToYou$Shelf", "content", "I", false)
  | 1 => ("AddressedToYou$Shelf", "size", "I", false)
  | _ => ("AddressedToYou$Shelf", "items", "[J", true)
def tyX1 : Nat → FieldType := fun k => match k with
  | 0 => .int
  | 1 => .int
  | _ => .array .long
abbrev wsX10 : List Cond := u_ws RX1 TX1 3
theorem nmX1 : ∀ a, a < 3 → ∀ b, b < 3 → a ≠ b → (TX1 a).2.1 ≠ (TX1 b).2.1 := by decide +kernel
theorem tyX1_ok : ∀ k, k < 3 → parseFieldDescriptor (TX1 k).2.2.1 = some (tyX1 k) := by decide +kernel
abbrev cX1_init : ByteArray := prog_3_method_1_code
def yX1_init : MethodName := ⟨RX1, "<init>", "()V"⟩
abbrev cX1_isEmpty : ByteArray := prog_3_method_2_code
def yX1_isEmpty : MethodName := ⟨RX1, "isEmpty", "()Z"⟩
abbrev cX1_isRow : ByteArray := prog_3_method_3_code
def yX1_isRow : MethodName := ⟨RX1, "isRow", "()Z"⟩
abbrev cX1_isBottle : ByteArray := prog_3_method_4_code
def yX1_isBottle : MethodName := ⟨RX1, "isBottle", "()Z"⟩
abbrev cX1_whyNoRow : ByteArray := prog_3_method_5_code
def yX1_whyNoRow : MethodName := ⟨RX1, "whyNoRow", "()I"⟩
abbrev cX1_hasPlace : ByteArray := prog_3_method_6_code
def yX1_hasPlace : MethodName := ⟨RX1, "hasPlace", "(I)Z"⟩
abbrev cX1_hasSpan : ByteArray := prog_3_method_7_code
def yX1_hasSpan : MethodName := ⟨RX1, "hasSpan", "(II)Z"⟩
abbrev cX1_startRow : ByteArray := prog_3_method_8_code
def yX1_startRow : MethodName := ⟨RX1, "startRow", "(II)V"⟩
abbrev cX1_put : ByteArray := prog_3_method_9_code
def yX1_put : MethodName := ⟨RX1, "put", "(IJ)V"⟩
abbrev cX1_take : ByteArray := prog_3_method_10_code
def yX1_take : MethodName := ⟨RX1, "take", "(I)J"⟩
abbrev cX1_narrowed : ByteArray := prog_3_method_11_code
def yX1_narrowed : MethodName := ⟨RX1, "narrowed", "(J)J"⟩
def RX2 : String := "AddressedToYou$Tape"
def TX2 : u_T := fun k => match k with
  | 0 => ("AddressedToYou$Tape", "size", "I", false)
  | 1 => ("AddressedToYou$Tape", "start", "I", false)
  | 2 => ("AddressedToYou$Tape", "bytes", "[I", true)
  | 3 => ("AddressedToYou$Tape", "place", "I", false)
  | 4 => ("AddressedToYou$Tape", "token", "I", false)
  | 5 => ("AddressedToYou$Tape", "value", "I", false)
  | _ => ("AddressedToYou$Tape", "numbers", "[I", true)
def tyX2 : Nat → FieldType := fun k => match k with
  | 0 => .int
  | 1 => .int
  | 2 => .array .int
  | 3 => .int
  | 4 => .int
  | 5 => .int
  | _ => .array .int
abbrev wsX20 : List Cond := u_ws RX2 TX2 7
theorem nmX2 : ∀ a, a < 7 → ∀ b, b < 7 → a ≠ b → (TX2 a).2.1 ≠ (TX2 b).2.1 := by decide +kernel
theorem tyX2_ok : ∀ k, k < 7 → parseFieldDescriptor (TX2 k).2.2.1 = some (tyX2 k) := by decide +kernel
abbrev cX2_init : ByteArray := prog_4_method_1_code
def yX2_init : MethodName := ⟨RX2, "<init>", "()V"⟩
abbrev cX2_hasRoom : ByteArray := prog_4_method_2_code
def yX2_hasRoom : MethodName := ⟨RX2, "hasRoom", "()Z"⟩
abbrev cX2_append : ByteArray := prog_4_method_3_code
def yX2_append : MethodName := ⟨RX2, "append", "(I)I"⟩
abbrev cX2_readInto : ByteArray := prog_4_method_4_code
def yX2_readInto : MethodName := ⟨RX2, "readInto", "(LAddressedToYou$World;)I"⟩
abbrev cX2_readStatement : ByteArray := prog_4_method_5_code
def yX2_readStatement : MethodName := ⟨RX2, "readStatement", "(LAddressedToYou$World;)Z"⟩
abbrev cX2_perform : ByteArray := prog_4_method_6_code
def yX2_perform : MethodName := ⟨RX2, "perform", "(LAddressedToYou$World;I)V"⟩
abbrev cX2_numbersOf : ByteArray := prog_4_method_7_code
def yX2_numbersOf : MethodName := ⟨RX2, "numbersOf", "(I)I"⟩
abbrev cX2_mostOf : ByteArray := prog_4_method_8_code
def yX2_mostOf : MethodName := ⟨RX2, "mostOf", "(LAddressedToYou$World;II)I"⟩
abbrev cX2_wordNumber : ByteArray := prog_4_method_9_code
def yX2_wordNumber : MethodName := ⟨RX2, "wordNumber", "()I"⟩
abbrev cX2_spells : ByteArray := prog_4_method_10_code
def yX2_spells : MethodName := ⟨RX2, "spells", "(Ljava/lang/String;)Z"⟩
abbrev cX2_byteAt : ByteArray := prog_4_method_11_code
def yX2_byteAt : MethodName := ⟨RX2, "byteAt", "(I)I"⟩
abbrev cX2_isLetter : ByteArray := prog_4_method_12_code
def yX2_isLetter : MethodName := ⟨RX2, "isLetter", "(I)Z"⟩
abbrev cX2_isDigit : ByteArray := prog_4_method_13_code
def yX2_isDigit : MethodName := ⟨RX2, "isDigit", "(I)Z"⟩
abbrev cX2_scan : ByteArray := prog_4_method_14_code
def yX2_scan : MethodName := ⟨RX2, "scan", "()V"⟩
abbrev cX2_scanNumber : ByteArray := prog_4_method_15_code
def yX2_scanNumber : MethodName := ⟨RX2, "scanNumber", "()V"⟩
def RX3 : String := "AddressedToYou$Track"
def TX3 : u_T := fun k => match k with
  | 0 => ("AddressedToYou$Track", "cells", "[I", true)
  | _ => ("AddressedToYou$Track", "hows", "[I", true)
def tyX3 : Nat → FieldType := fun k => match k with
  | 0 => .array .int
  | _ => .array .int
abbrev wsX30 : List Cond := u_ws RX3 TX3 2
theorem nmX3 : ∀ a, a < 2 → ∀ b, b < 2 → a ≠ b → (TX3 a).2.1 ≠ (TX3 b).2.1 := by decide +kernel
theorem tyX3_ok : ∀ k, k < 2 → parseFieldDescriptor (TX3 k).2.2.1 = some (tyX3 k) := by decide +kernel
abbrev cX3_init : ByteArray := prog_5_method_1_code
def yX3_init : MethodName := ⟨RX3, "<init>", "()V"⟩
abbrev cX3_mark : ByteArray := prog_5_method_2_code
def yX3_mark : MethodName := ⟨RX3, "mark", "(ILAddressedToYou$Bottle;)V"⟩
abbrev cX3_cellAt : ByteArray := prog_5_method_3_code
def yX3_cellAt : MethodName := ⟨RX3, "cellAt", "(I)I"⟩
abbrev cX3_howAt : ByteArray := prog_5_method_4_code
def yX3_howAt : MethodName := ⟨RX3, "howAt", "(I)I"⟩
abbrev cX3_cellsVisited : ByteArray := prog_5_method_5_code
def yX3_cellsVisited : MethodName := ⟨RX3, "cellsVisited", "(I)I"⟩
def RX4 : String := "AddressedToYou$Walker"
def TX4 : u_T := fun k => match k with
  | 0 => ("AddressedToYou$Walker", "at", "I", false)
  | 1 => ("AddressedToYou$Walker", "pace", "I", false)
  | _ => ("AddressedToYou$Walker", "way", "I", false)
def tyX4 : Nat → FieldType := fun k => match k with
  | 0 => .int
  | 1 => .int
  | _ => .int
abbrev wsX40 : List Cond := u_ws RX4 TX4 3
theorem nmX4 : ∀ a, a < 3 → ∀ b, b < 3 → a ≠ b → (TX4 a).2.1 ≠ (TX4 b).2.1 := by decide +kernel
theorem tyX4_ok : ∀ k, k < 3 → parseFieldDescriptor (TX4 k).2.2.1 = some (tyX4 k) := by decide +kernel
abbrev cX4_init : ByteArray := prog_6_method_1_code
def yX4_init : MethodName := ⟨RX4, "<init>", "()V"⟩
abbrev cX4_start : ByteArray := prog_6_method_2_code
def yX4_start : MethodName := ⟨RX4, "start", "(III)V"⟩
abbrev cX4_become : ByteArray := prog_6_method_3_code
def yX4_become : MethodName := ⟨RX4, "become", "(LAddressedToYou$Walker;)V"⟩
abbrev cX4_tellOf : ByteArray := prog_6_method_4_code
def yX4_tellOf : MethodName := ⟨RX4, "tellOf", "(I)I"⟩
abbrev cX4_stroll : ByteArray := prog_6_method_5_code
def yX4_stroll : MethodName := ⟨RX4, "stroll", "(I)V"⟩
def RX5 : String := "AddressedToYou$World"
def TX5 : u_T := fun k => match k with
  | 0 => ("AddressedToYou$World", "cells", "I", false)
  | 1 => ("AddressedToYou$World", "wind", "I", false)
  | 2 => ("AddressedToYou$World", "day", "I", false)
  | 3 => ("AddressedToYou$World", "answered", "I", false)
  | 4 => ("AddressedToYou$World", "seed", "I", false)
  | 5 => ("AddressedToYou$World", "bottleCount", "I", false)
  | 6 => ("AddressedToYou$World", "walkerCount", "I", false)
  | 7 => ("AddressedToYou$World", "currents", "[I", true)
  | 8 => ("AddressedToYou$World", "bottles", "[LAddressedToYou$Bottle;", true)
  | 9 => ("AddressedToYou$World", "walkers", "[LAddressedToYou$Walker;", true)
  | 10 => ("AddressedToYou$World", "roamer", "LAddressedToYou$Bottle;", true)
  | _ => ("AddressedToYou$World", "pacer", "LAddressedToYou$Walker;", true)
def tyX5 : Nat → FieldType := fun k => match k with
  | 0 => .int
  | 1 => .int
  | 2 => .int
  | 3 => .int
  | 4 => .int
  | 5 => .int
  | 6 => .int
  | 7 => .array .int
  | 8 => .array (.object "AddressedToYou$Bottle")
  | 9 => .array (.object "AddressedToYou$Walker")
  | 10 => .object "AddressedToYou$Bottle"
  | _ => .object "AddressedToYou$Walker"
abbrev wsX50 : List Cond := u_ws RX5 TX5 12
theorem nmX5 : ∀ a, a < 12 → ∀ b, b < 12 → a ≠ b → (TX5 a).2.1 ≠ (TX5 b).2.1 := by decide +kernel
theorem tyX5_ok : ∀ k, k < 12 → parseFieldDescriptor (TX5 k).2.2.1 = some (tyX5 k) := by decide +kernel
abbrev cX5_init : ByteArray := prog_7_method_1_code
def yX5_init : MethodName := ⟨RX5, "<init>", "()V"⟩
abbrev cX5_become : ByteArray := prog_7_method_2_code
def yX5_become : MethodName := ⟨RX5, "become", "(LAddressedToYou$World;)V"⟩
abbrev cX5_bottleAt : ByteArray := prog_7_method_3_code
def yX5_bottleAt : MethodName := ⟨RX5, "bottleAt", "(I)LAddressedToYou$Bottle;"⟩
abbrev cX5_walkerAt : ByteArray := prog_7_method_4_code
def yX5_walkerAt : MethodName := ⟨RX5, "walkerAt", "(I)LAddressedToYou$Walker;"⟩
abbrev cX5_hasCell : ByteArray := prog_7_method_5_code
def yX5_hasCell : MethodName := ⟨RX5, "hasCell", "(I)Z"⟩
abbrev cX5_hasRoomForBottle : ByteArray := prog_7_method_6_code
def yX5_hasRoomForBottle : MethodName := ⟨RX5, "hasRoomForBottle", "()Z"⟩
abbrev cX5_hasRoomForWalker : ByteArray := prog_7_method_7_code
def yX5_hasRoomForWalker : MethodName := ⟨RX5, "hasRoomForWalker", "()Z"⟩
abbrev cX5_flow : ByteArray := prog_7_method_8_code
def yX5_flow : MethodName := ⟨RX5, "flow", "(I)I"⟩
abbrev cX5_setFlow : ByteArray := prog_7_method_9_code
def yX5_setFlow : MethodName := ⟨RX5, "setFlow", "(II)V"⟩
abbrev cX5_addBottle : ByteArray := prog_7_method_10_code
def yX5_addBottle : MethodName := ⟨RX5, "addBottle", "(IIII)I"⟩
abbrev cX5_addWalker : ByteArray := prog_7_method_11_code
def yX5_addWalker : MethodName := ⟨RX5, "addWalker", "(III)I"⟩
abbrev cX5_addressedTo : ByteArray := prog_7_method_12_code
def yX5_addressedTo : MethodName := ⟨RX5, "addressedTo", "(I)I"⟩
abbrev cX5_afloatIn : ByteArray := prog_7_method_13_code
def yX5_afloatIn : MethodName := ⟨RX5, "afloatIn", "(I)I"⟩
abbrev cX5_walkersAt : ByteArray := prog_7_method_14_code
def yX5_walkersAt : MethodName := ⟨RX5, "walkersAt", "(I)I"⟩
abbrev cX5_dayBehind : ByteArray := prog_7_method_15_code
def yX5_dayBehind : MethodName := ⟨RX5, "dayBehind", "(I)I"⟩
abbrev cX5_push : ByteArray := prog_7_method_16_code
def yX5_push : MethodName := ⟨RX5, "push", "(LAddressedToYou$Bottle;I)I"⟩
abbrev cX5_spend : ByteArray := prog_7_method_17_code
def yX5_spend : MethodName := ⟨RX5, "spend", "(LAddressedToYou$Bottle;II)V"⟩
abbrev cX5_follow : ByteArray := prog_7_method_18_code
def yX5_follow : MethodName := ⟨RX5, "follow", "(LAddressedToYou$Track;LAddressedToYou$Bottle;LAddressedToYou$Walker;I)V"⟩
abbrev cX5_soonest : ByteArray := prog_7_method_19_code
def yX5_soonest : MethodName := ⟨RX5, "soonest", "(LAddressedToYou$Bottle;LAddressedToYou$Walker;I)I"⟩
abbrev cX5_daysTillFound : ByteArray := prog_7_method_20_code
def yX5_daysTillFound : MethodName := ⟨RX5, "daysTillFound", "(LAddressedToYou$Bottle;)I"⟩
abbrev cX5_countFound : ByteArray := prog_7_method_21_code
def yX5_countFound : MethodName := ⟨RX5, "countFound", "(I)I"⟩
abbrev cX5_passDay : ByteArray := prog_7_method_22_code
def yX5_passDay : MethodName := ⟨RX5, "passDay", "()I"⟩
abbrev cX5_passDrawnDay : ByteArray := prog_7_method_23_code
def yX5_passDrawnDay : MethodName := ⟨RX5, "passDrawnDay", "()I"⟩
abbrev cX5_draw : ByteArray := prog_7_method_24_code
def yX5_draw : MethodName := ⟨RX5, "draw", "(I)I"⟩
def RX6 : String := "AddressedToYou"
def TX6 : u_T := fun k => match k with
  | 0 => ("AddressedToYou", "now", "LAddressedToYou$World;", true)
  | 1 => ("AddressedToYou", "kept", "LAddressedToYou$World;", true)
  | 2 => ("AddressedToYou", "trial", "LAddressedToYou$World;", true)
  | 3 => ("AddressedToYou", "hasImage", "Z", false)
  | 4 => ("AddressedToYou", "shelves", "[LAddressedToYou$Shelf;", true)
  | 5 => ("AddressedToYou", "tape", "LAddressedToYou$Tape;", true)
  | 6 => ("AddressedToYou", "refusals", "[I", true)
  | 7 => ("AddressedToYou", "track", "LAddressedToYou$Track;", true)
  | 8 => ("AddressedToYou", "otherTrack", "LAddressedToYou$Track;", true)
  | 9 => ("AddressedToYou", "thought", "LAddressedToYou$Bottle;", true)
  | 10 => ("AddressedToYou", "stroller", "LAddressedToYou$Walker;", true)
  | 11 => ("AddressedToYou", "otherStroller", "LAddressedToYou$Walker;", true)
  | 12 => ("AddressedToYou", "visited", "[I", true)
  | 13 => ("AddressedToYou", "meetings", "[[I", true)
  | _ => ("AddressedToYou", "bestPairs", "[[I", true)
def tyX6 : Nat → FieldType := fun k => match k with
  | 0 => .object "AddressedToYou$World"
  | 1 => .object "AddressedToYou$World"
  | 2 => .object "AddressedToYou$World"
  | 3 => .boolean
  | 4 => .array (.object "AddressedToYou$Shelf")
  | 5 => .object "AddressedToYou$Tape"
  | 6 => .array .int
  | 7 => .object "AddressedToYou$Track"
  | 8 => .object "AddressedToYou$Track"
  | 9 => .object "AddressedToYou$Bottle"
  | 10 => .object "AddressedToYou$Walker"
  | 11 => .object "AddressedToYou$Walker"
  | 12 => .array .int
  | 13 => .array (.array .int)
  | _ => .array (.array .int)
abbrev wsX60 : List Cond := u_ws RX6 TX6 15
theorem nmX6 : ∀ a, a < 15 → ∀ b, b < 15 → a ≠ b → (TX6 a).2.1 ≠ (TX6 b).2.1 := by decide +kernel
theorem tyX6_ok : ∀ k, k < 15 → parseFieldDescriptor (TX6 k).2.2.1 = some (tyX6 k) := by decide +kernel
abbrev cX6_init : ByteArray := prog_1_method_1_code
def yX6_init : MethodName := ⟨RX6, "<init>", "()V"⟩
abbrev cX6_row : ByteArray := prog_1_method_2_code
def yX6_row : MethodName := ⟨RX6, "row", "(III)I"⟩
abbrev cX6_set : ByteArray := prog_1_method_3_code
def yX6_set : MethodName := ⟨RX6, "set", "(IIJ)I"⟩
abbrev cX6_copy : ByteArray := prog_1_method_4_code
def yX6_copy : MethodName := ⟨RX6, "copy", "(IIIII)I"⟩
abbrev cX6_element : ByteArray := prog_1_method_5_code
def yX6_element : MethodName := ⟨RX6, "element", "(II)J"⟩
abbrev cX6_holds : ByteArray := prog_1_method_6_code
def yX6_holds : MethodName := ⟨RX6, "holds", "(I)I"⟩
abbrev cX6_show : ByteArray := prog_1_method_7_code
def yX6_show : MethodName := ⟨RX6, "show", "(II)I"⟩
abbrev cX6_says : ByteArray := prog_1_method_8_code
def yX6_says : MethodName := ⟨RX6, "says", "(II)I"⟩
abbrev cX6_paves : ByteArray := prog_1_method_9_code
def yX6_paves : MethodName := ⟨RX6, "paves", "(I)I"⟩
abbrev cX6_walker : ByteArray := prog_1_method_10_code
def yX6_walker : MethodName := ⟨RX6, "walker", "(III)I"⟩
abbrev cX6_sends : ByteArray := prog_1_method_11_code
def yX6_sends : MethodName := ⟨RX6, "sends", "(III)I"⟩
abbrev cX6_current : ByteArray := prog_1_method_12_code
def yX6_current : MethodName := ⟨RX6, "current", "(II)I"⟩
abbrev cX6_tell : ByteArray := prog_1_method_13_code
def yX6_tell : MethodName := ⟨RX6, "tell", "(II)I"⟩
abbrev cX6_feed : ByteArray := prog_1_method_14_code
def yX6_feed : MethodName := ⟨RX6, "feed", "(I)I"⟩
abbrev cX6_wipe : ByteArray := prog_1_method_15_code
def yX6_wipe : MethodName := ⟨RX6, "wipe", "()I"⟩
abbrev cX6_coast : ByteArray := prog_1_method_16_code
def yX6_coast : MethodName := ⟨RX6, "coast", "()I"⟩
abbrev cX6_bottleOf : ByteArray := prog_1_method_17_code
def yX6_bottleOf : MethodName := ⟨RX6, "bottleOf", "(II)I"⟩
abbrev cX6_walkerOf : ByteArray := prog_1_method_18_code
def yX6_walkerOf : MethodName := ⟨RX6, "walkerOf", "(II)I"⟩
abbrev cX6_currentAt : ByteArray := prog_1_method_19_code
def yX6_currentAt : MethodName := ⟨RX6, "currentAt", "(I)I"⟩
abbrev cX6_ahead : ByteArray := prog_1_method_20_code
def yX6_ahead : MethodName := ⟨RX6, "ahead", "(III)I"⟩
abbrev cX6_walks : ByteArray := prog_1_method_21_code
def yX6_walks : MethodName := ⟨RX6, "walks", "(II)I"⟩
abbrev cX6_found : ByteArray := prog_1_method_22_code
def yX6_found : MethodName := ⟨RX6, "found", "(I)I"⟩
abbrev cX6_when : ByteArray := prog_1_method_23_code
def yX6_when : MethodName := ⟨RX6, "when", "(I)I"⟩
abbrev cX6_meets : ByteArray := prog_1_method_24_code
def yX6_meets : MethodName := ⟨RX6, "meets", "(II)I"⟩
abbrev cX6_finder : ByteArray := prog_1_method_25_code
def yX6_finder : MethodName := ⟨RX6, "finder", "(I)I"⟩
abbrev cX6_two : ByteArray := prog_1_method_26_code
def yX6_two : MethodName := ⟨RX6, "two", "(II)I"⟩
abbrev cX6_aim : ByteArray := prog_1_method_27_code
def yX6_aim : MethodName := ⟨RX6, "aim", "(IIII)I"⟩
abbrev cX6_walk : ByteArray := prog_1_method_28_code
def yX6_walk : MethodName := ⟨RX6, "walk", "(III)I"⟩
abbrev cX6_fits : ByteArray := prog_1_method_29_code
def yX6_fits : MethodName := ⟨RX6, "fits", "(IIII)I"⟩
abbrev cX6_from : ByteArray := prog_1_method_30_code
def yX6_from : MethodName := ⟨RX6, "from", "(III)I"⟩
abbrev cX6_pairs : ByteArray := prog_1_method_31_code
def yX6_pairs : MethodName := ⟨RX6, "pairs", "(II)I"⟩
abbrev cX6_mended : ByteArray := prog_1_method_32_code
def yX6_mended : MethodName := ⟨RX6, "mended", "(II)I"⟩
abbrev cX6_odds : ByteArray := prog_1_method_33_code
def yX6_odds : MethodName := ⟨RX6, "odds", "(III)I"⟩
abbrev cX6_windFor : ByteArray := prog_1_method_34_code
def yX6_windFor : MethodName := ⟨RX6, "windFor", "(I)I"⟩
abbrev cX6_bestWind : ByteArray := prog_1_method_35_code
def yX6_bestWind : MethodName := ⟨RX6, "bestWind", "(II)I"⟩
abbrev cX6_who : ByteArray := prog_1_method_36_code
def yX6_who : MethodName := ⟨RX6, "who", "(I)I"⟩
abbrev cX6_there : ByteArray := prog_1_method_37_code
def yX6_there : MethodName := ⟨RX6, "there", "(II)I"⟩
abbrev cX6_settles : ByteArray := prog_1_method_38_code
def yX6_settles : MethodName := ⟨RX6, "settles", "(I)I"⟩
abbrev cX6_reach : ByteArray := prog_1_method_39_code
def yX6_reach : MethodName := ⟨RX6, "reach", "(II)I"⟩
abbrev cX6_busiest : ByteArray := prog_1_method_40_code
def yX6_busiest : MethodName := ⟨RX6, "busiest", "(I)I"⟩
abbrev cX6_round : ByteArray := prog_1_method_41_code
def yX6_round : MethodName := ⟨RX6, "round", "(I)I"⟩
abbrev cX6_join : ByteArray := prog_1_method_42_code
def yX6_join : MethodName := ⟨RX6, "join", "(II)I"⟩
abbrev cX6_breaks : ByteArray := prog_1_method_43_code
def yX6_breaks : MethodName := ⟨RX6, "breaks", "(I)I"⟩
abbrev cX6_first : ByteArray := prog_1_method_44_code
def yX6_first : MethodName := ⟨RX6, "first", "(I)I"⟩
abbrev cX6_next : ByteArray := prog_1_method_45_code
def yX6_next : MethodName := ⟨RX6, "next", "(III)I"⟩
abbrev cX6_stays : ByteArray := prog_1_method_46_code
def yX6_stays : MethodName := ⟨RX6, "stays", "(II)I"⟩
abbrev cX6_strays : ByteArray := prog_1_method_47_code
def yX6_strays : MethodName := ⟨RX6, "strays", "()I"⟩
abbrev cX6_ofKind : ByteArray := prog_1_method_48_code
def yX6_ofKind : MethodName := ⟨RX6, "ofKind", "(I)I"⟩
abbrev cX6_judge : ByteArray := prog_1_method_49_code
def yX6_judge : MethodName := ⟨RX6, "judge", "(III)I"⟩
abbrev cX6_thrown : ByteArray := prog_1_method_50_code
def yX6_thrown : MethodName := ⟨RX6, "thrown", "(IIII)I"⟩
abbrev cX6_days : ByteArray := prog_1_method_51_code
def yX6_days : MethodName := ⟨RX6, "days", "(I)I"⟩
abbrev cX6_drawn : ByteArray := prog_1_method_52_code
def yX6_drawn : MethodName := ⟨RX6, "drawn", "(I)I"⟩
abbrev cX6_seed : ByteArray := prog_1_method_53_code
def yX6_seed : MethodName := ⟨RX6, "seed", "(I)I"⟩
abbrev cX6_image : ByteArray := prog_1_method_54_code
def yX6_image : MethodName := ⟨RX6, "image", "()I"⟩
abbrev cX6_back : ByteArray := prog_1_method_55_code
def yX6_back : MethodName := ⟨RX6, "back", "()I"⟩
abbrev cX6_status : ByteArray := prog_1_method_56_code
def yX6_status : MethodName := ⟨RX6, "status", "(I)I"⟩
abbrev cX6_within : ByteArray := prog_1_method_57_code
def yX6_within : MethodName := ⟨RX6, "within", "(III)Z"⟩
abbrev cX6_isKind : ByteArray := prog_1_method_58_code
def yX6_isKind : MethodName := ⟨RX6, "isKind", "(I)Z"⟩
abbrev cX6_isOrIsUnder : ByteArray := prog_1_method_59_code
def yX6_isOrIsUnder : MethodName := ⟨RX6, "isOrIsUnder", "(II)Z"⟩
abbrev cX6_toughnessOf : ByteArray := prog_1_method_60_code
def yX6_toughnessOf : MethodName := ⟨RX6, "toughnessOf", "(II)I"⟩
abbrev cX6_refuse : ByteArray := prog_1_method_61_code
def yX6_refuse : MethodName := ⟨RX6, "refuse", "(I)I"⟩
abbrev cX6_shelfAt : ByteArray := prog_1_method_62_code
def yX6_shelfAt : MethodName := ⟨RX6, "shelfAt", "(I)LAddressedToYou$Shelf;"⟩
abbrev cX6_shelvesInUse : ByteArray := prog_1_method_63_code
def yX6_shelvesInUse : MethodName := ⟨RX6, "shelvesInUse", "()I"⟩
abbrev cX6_firstMeeting : ByteArray := prog_1_method_64_code
def yX6_firstMeeting : MethodName := ⟨RX6, "firstMeeting", "(LAddressedToYou$Walker;I)I"⟩
abbrev cX6_foundWalking : ByteArray := prog_1_method_65_code
def yX6_foundWalking : MethodName := ⟨RX6, "foundWalking", "(IIII)I"⟩
abbrev cX6_driftsAlong : ByteArray := prog_1_method_66_code
def yX6_driftsAlong : MethodName := ⟨RX6, "driftsAlong", "(LAddressedToYou$Shelf;III)Z"⟩
abbrev cX6_endsBy : ByteArray := prog_1_method_67_code
def yX6_endsBy : MethodName := ⟨RX6, "endsBy", "(LAddressedToYou$Bottle;II)I"⟩
abbrev cX6_fillVisited : ByteArray := prog_1_method_68_code
def yX6_fillVisited : MethodName := ⟨RX6, "fillVisited", "()V"⟩
abbrev cX6_fillMeetings : ByteArray := prog_1_method_69_code
def yX6_fillMeetings : MethodName := ⟨RX6, "fillMeetings", "(I)V"⟩
abbrev cX6_fillBestPairs : ByteArray := prog_1_method_70_code
def yX6_fillBestPairs : MethodName := ⟨RX6, "fillBestPairs", "()V"⟩
abbrev cX6_bestFrom : ByteArray := prog_1_method_71_code
def yX6_bestFrom : MethodName := ⟨RX6, "bestFrom", "(II)I"⟩
abbrev cX6_pairingScore : ByteArray := prog_1_method_72_code
def yX6_pairingScore : MethodName := ⟨RX6, "pairingScore", "(III)I"⟩
abbrev cX6_partnerOf : ByteArray := prog_1_method_73_code
def yX6_partnerOf : MethodName := ⟨RX6, "partnerOf", "(I)I"⟩
def RX7 : String := "AddressedToYouModel"
def TX7 : u_T := fun k => match k with
  | 0 => ("AddressedToYouModel", "n", "I", false)
  | 1 => ("AddressedToYouModel", "current", "[I", true)
  | 2 => ("AddressedToYouModel", "ways", "[I", true)
  | 3 => ("AddressedToYouModel", "answered", "I", false)
  | 4 => ("AddressedToYouModel", "bottles", "I", false)
  | 5 => ("AddressedToYouModel", "kind", "[I", true)
  | 6 => ("AddressedToYouModel", "own", "[I", true)
  | 7 => ("AddressedToYouModel", "cell", "[I", true)
  | 8 => ("AddressedToYouModel", "whose", "[I", true)
  | 9 => ("AddressedToYouModel", "how", "[I", true)
  | 10 => ("AddressedToYouModel", "walkers", "I", false)
  | 11 => ("AddressedToYouModel", "goer", "[I", true)
  | 12 => ("AddressedToYouModel", "seed", "I", false)
  | 13 => ("AddressedToYouModel", "taped", "I", false)
  | 14 => ("AddressedToYouModel", "tape", "[I", true)
  | 15 => ("AddressedToYouModel", "from", "I", false)
  | 16 => ("AddressedToYouModel", "to", "I", false)
  | 17 => ("AddressedToYouModel", "token", "I", false)
  | 18 => ("AddressedToYouModel", "value", "I", false)
  | 19 => ("AddressedToYouModel", "holding", "[I", true)
  | 20 => ("AddressedToYouModel", "rowLength", "[I", true)
  | 21 => ("AddressedToYouModel", "rowOf", "[J", true)
  | 22 => ("AddressedToYouModel", "refusals", "[I", true)
  | 23 => ("AddressedToYouModel", "imaged", "Z", false)
  | 24 => ("AddressedToYouModel", "old", "[I", true)
  | 25 => ("AddressedToYouModel", "before", "[I", true)
  | 26 => ("AddressedToYouModel", "was", "[I", true)
  | 27 => ("AddressedToYouModel", "meeting", "[I", true)
  | 28 => ("AddressedToYouModel", "tried", "[I", true)
  | 29 => ("AddressedToYouModel", "best", "[I", true)
  | 30 => ("AddressedToYouModel", "most", "I", false)
  | 31 => ("AddressedToYouModel", "fewest", "I", false)
  | _ => ("AddressedToYouModel", "came", "[I", true)
def tyX7 : Nat → FieldType := fun k => match k with
  | 0 => .int
  | 1 => .array .int
  | 2 => .array .int
  | 3 => .int
  | 4 => .int
  | 5 => .array .int
  | 6 => .array .int
  | 7 => .array .int
  | 8 => .array .int
  | 9 => .array .int
  | 10 => .int
  | 11 => .array .int
  | 12 => .int
  | 13 => .int
  | 14 => .array .int
  | 15 => .int
  | 16 => .int
  | 17 => .int
  | 18 => .int
  | 19 => .array .int
  | 20 => .array .int
  | 21 => .array .long
  | 22 => .array .int
  | 23 => .boolean
  | 24 => .array .int
  | 25 => .array .int
  | 26 => .array .int
  | 27 => .array .int
  | 28 => .array .int
  | 29 => .array .int
  | 30 => .int
  | 31 => .int
  | _ => .array .int
abbrev wsX70 : List Cond := u_ws RX7 TX7 33
theorem nmX7 : ∀ a, a < 33 → ∀ b, b < 33 → a ≠ b → (TX7 a).2.1 ≠ (TX7 b).2.1 := by decide +kernel
theorem tyX7_ok : ∀ k, k < 33 → parseFieldDescriptor (TX7 k).2.2.1 = some (tyX7 k) := by decide +kernel
abbrev cX7_init : ByteArray := prog_9_method_1_code
def yX7_init : MethodName := ⟨RX7, "<init>", "()V"⟩
abbrev cX7_no : ByteArray := prog_9_method_2_code
def yX7_no : MethodName := ⟨RX7, "no", "(I)I"⟩
abbrev cX7_within : ByteArray := prog_9_method_3_code
def yX7_within : MethodName := ⟨RX7, "within", "(III)Z"⟩
abbrev cX7_isCell : ByteArray := prog_9_method_4_code
def yX7_isCell : MethodName := ⟨RX7, "isCell", "(I)Z"⟩
abbrev cX7_isBottle : ByteArray := prog_9_method_5_code
def yX7_isBottle : MethodName := ⟨RX7, "isBottle", "(I)Z"⟩
abbrev cX7_isWalker : ByteArray := prog_9_method_6_code
def yX7_isWalker : MethodName := ⟨RX7, "isWalker", "(I)Z"⟩
abbrev cX7_isSuch : ByteArray := prog_9_method_7_code
def yX7_isSuch : MethodName := ⟨RX7, "isSuch", "(II)Z"⟩
abbrev cX7_isTime : ByteArray := prog_9_method_8_code
def yX7_isTime : MethodName := ⟨RX7, "isTime", "(I)Z"⟩
abbrev cX7_isShelf : ByteArray := prog_9_method_9_code
def yX7_isShelf : MethodName := ⟨RX7, "isShelf", "(I)Z"⟩
abbrev cX7_isRow : ByteArray := prog_9_method_10_code
def yX7_isRow : MethodName := ⟨RX7, "isRow", "(I)Z"⟩
abbrev cX7_row : ByteArray := prog_9_method_11_code
def yX7_row : MethodName := ⟨RX7, "row", "(III)I"⟩
abbrev cX7_noRow : ByteArray := prog_9_method_12_code
def yX7_noRow : MethodName := ⟨RX7, "noRow", "(I)I"⟩
abbrev cX7_kept : ByteArray := prog_9_method_13_code
def yX7_kept : MethodName := ⟨RX7, "kept", "(IJ)J"⟩
abbrev cX7_set : ByteArray := prog_9_method_14_code
def yX7_set : MethodName := ⟨RX7, "set", "(IIJ)I"⟩
abbrev cX7_copy : ByteArray := prog_9_method_15_code
def yX7_copy : MethodName := ⟨RX7, "copy", "(IIIII)I"⟩
abbrev cX7_element : ByteArray := prog_9_method_16_code
def yX7_element : MethodName := ⟨RX7, "element", "(II)J"⟩
abbrev cX7_holds : ByteArray := prog_9_method_17_code
def yX7_holds : MethodName := ⟨RX7, "holds", "(I)I"⟩
abbrev cX7_show : ByteArray := prog_9_method_18_code
def yX7_show : MethodName := ⟨RX7, "show", "(II)I"⟩
abbrev cX7_isUnder : ByteArray := prog_9_method_19_code
def yX7_isUnder : MethodName := ⟨RX7, "isUnder", "(II)Z"⟩
abbrev cX7_says : ByteArray := prog_9_method_20_code
def yX7_says : MethodName := ⟨RX7, "says", "(II)I"⟩
abbrev cX7_paves : ByteArray := prog_9_method_21_code
def yX7_paves : MethodName := ⟨RX7, "paves", "(I)I"⟩
abbrev cX7_newWalker : ByteArray := prog_9_method_22_code
def yX7_newWalker : MethodName := ⟨RX7, "newWalker", "(III)I"⟩
abbrev cX7_walker : ByteArray := prog_9_method_23_code
def yX7_walker : MethodName := ⟨RX7, "walker", "(III)I"⟩
abbrev cX7_sends : ByteArray := prog_9_method_24_code
def yX7_sends : MethodName := ⟨RX7, "sends", "(III)I"⟩
abbrev cX7_current : ByteArray := prog_9_method_25_code
def yX7_current : MethodName := ⟨RX7, "current", "(II)I"⟩
abbrev cX7_tell : ByteArray := prog_9_method_26_code
def yX7_tell : MethodName := ⟨RX7, "tell", "(II)I"⟩
abbrev cX7_becomes : ByteArray := prog_9_method_27_code
def yX7_becomes : MethodName := ⟨RX7, "becomes", "(IIIII)V"⟩
abbrev cX7_thrown : ByteArray := prog_9_method_28_code
def yX7_thrown : MethodName := ⟨RX7, "thrown", "(IIII)I"⟩
abbrev cX7_feed : ByteArray := prog_9_method_29_code
def yX7_feed : MethodName := ⟨RX7, "feed", "(I)I"⟩
abbrev cX7_wipe : ByteArray := prog_9_method_30_code
def yX7_wipe : MethodName := ⟨RX7, "wipe", "()I"⟩
abbrev cX7_isLetter : ByteArray := prog_9_method_31_code
def yX7_isLetter : MethodName := ⟨RX7, "isLetter", "(I)Z"⟩
abbrev cX7_isDigit : ByteArray := prog_9_method_32_code
def yX7_isDigit : MethodName := ⟨RX7, "isDigit", "(I)Z"⟩
abbrev cX7_next : ByteArray := prog_9_method_33_code
def yX7_next : MethodName := ⟨RX7, "next", "()V"⟩
abbrev cX7_isWord : ByteArray := prog_9_method_34_code
def yX7_isWord : MethodName := ⟨RX7, "isWord", "(Ljava/lang/String;)Z"⟩
abbrev cX7_number : ByteArray := prog_9_method_35_code
def yX7_number : MethodName := ⟨RX7, "number", "(II)I"⟩
abbrev cX7_cellTold : ByteArray := prog_9_method_36_code
def yX7_cellTold : MethodName := ⟨RX7, "cellTold", "()I"⟩
abbrev cX7_comesOne : ByteArray := prog_9_method_37_code
def yX7_comesOne : MethodName := ⟨RX7, "comesOne", "()Z"⟩
abbrev cX7_floats : ByteArray := prog_9_method_38_code
def yX7_floats : MethodName := ⟨RX7, "floats", "()Z"⟩
abbrev cX7_statement : ByteArray := prog_9_method_39_code
def yX7_statement : MethodName := ⟨RX7, "statement", "()Z"⟩
abbrev cX7_coast : ByteArray := prog_9_method_40_code
def yX7_coast : MethodName := ⟨RX7, "coast", "()I"⟩
abbrev cX7_tough : ByteArray := prog_9_method_41_code
def yX7_tough : MethodName := ⟨RX7, "tough", "(I)I"⟩
abbrev cX7_bottleOf : ByteArray := prog_9_method_42_code
def yX7_bottleOf : MethodName := ⟨RX7, "bottleOf", "(II)I"⟩
abbrev cX7_forHim : ByteArray := prog_9_method_43_code
def yX7_forHim : MethodName := ⟨RX7, "forHim", "(I)I"⟩
abbrev cX7_walkerOf : ByteArray := prog_9_method_44_code
def yX7_walkerOf : MethodName := ⟨RX7, "walkerOf", "(II)I"⟩
abbrev cX7_currentAt : ByteArray := prog_9_method_45_code
def yX7_currentAt : MethodName := ⟨RX7, "currentAt", "(I)I"⟩
abbrev cX7_drift : ByteArray := prog_9_method_46_code
def yX7_drift : MethodName := ⟨RX7, "drift", "(I)I"⟩
abbrev cX7_drifts : ByteArray := prog_9_method_47_code
def yX7_drifts : MethodName := ⟨RX7, "drifts", "(I)V"⟩
abbrev cX7_steps : ByteArray := prog_9_method_48_code
def yX7_steps : MethodName := ⟨RX7, "steps", "(I)V"⟩
abbrev cX7_passes : ByteArray := prog_9_method_49_code
def yX7_passes : MethodName := ⟨RX7, "passes", "(I)I"⟩
abbrev cX7_goesOn : ByteArray := prog_9_method_50_code
def yX7_goesOn : MethodName := ⟨RX7, "goesOn", "(I)I"⟩
abbrev cX7_ahead : ByteArray := prog_9_method_51_code
def yX7_ahead : MethodName := ⟨RX7, "ahead", "(III)I"⟩
abbrev cX7_walks : ByteArray := prog_9_method_52_code
def yX7_walks : MethodName := ⟨RX7, "walks", "(II)I"⟩
abbrev cX7_found : ByteArray := prog_9_method_53_code
def yX7_found : MethodName := ⟨RX7, "found", "(I)I"⟩
abbrev cX7_whenSo : ByteArray := prog_9_method_54_code
def yX7_whenSo : MethodName := ⟨RX7, "whenSo", "(III)I"⟩
abbrev cX7_when : ByteArray := prog_9_method_55_code
def yX7_when : MethodName := ⟨RX7, "when", "(I)I"⟩
abbrev cX7_breaks : ByteArray := prog_9_method_56_code
def yX7_breaks : MethodName := ⟨RX7, "breaks", "(I)I"⟩
abbrev cX7_meet : ByteArray := prog_9_method_57_code
def yX7_meet : MethodName := ⟨RX7, "meet", "(II)I"⟩
abbrev cX7_meets : ByteArray := prog_9_method_58_code
def yX7_meets : MethodName := ⟨RX7, "meets", "(II)I"⟩
abbrev cX7_finder : ByteArray := prog_9_method_59_code
def yX7_finder : MethodName := ⟨RX7, "finder", "(I)I"⟩
abbrev cX7_two : ByteArray := prog_9_method_60_code
def yX7_two : MethodName := ⟨RX7, "two", "(II)I"⟩
abbrev cX7_whenThrown : ByteArray := prog_9_method_61_code
def yX7_whenThrown : MethodName := ⟨RX7, "whenThrown", "(IIII)I"⟩
abbrev cX7_aim : ByteArray := prog_9_method_62_code
def yX7_aim : MethodName := ⟨RX7, "aim", "(IIII)I"⟩
abbrev cX7_foundFor : ByteArray := prog_9_method_63_code
def yX7_foundFor : MethodName := ⟨RX7, "foundFor", "(II)I"⟩
abbrev cX7_walk : ByteArray := prog_9_method_64_code
def yX7_walk : MethodName := ⟨RX7, "walk", "(III)I"⟩
abbrev cX7_toldAt : ByteArray := prog_9_method_65_code
def yX7_toldAt : MethodName := ⟨RX7, "toldAt", "(II)J"⟩
abbrev cX7_noTold : ByteArray := prog_9_method_66_code
def yX7_noTold : MethodName := ⟨RX7, "noTold", "(II)I"⟩
abbrev cX7_goesSo : ByteArray := prog_9_method_67_code
def yX7_goesSo : MethodName := ⟨RX7, "goesSo", "(III)Z"⟩
abbrev cX7_fits : ByteArray := prog_9_method_68_code
def yX7_fits : MethodName := ⟨RX7, "fits", "(IIII)I"⟩
abbrev cX7_from : ByteArray := prog_9_method_69_code
def yX7_from : MethodName := ⟨RX7, "from", "(III)I"⟩
abbrev cX7_tries : ByteArray := prog_9_method_70_code
def yX7_tries : MethodName := ⟨RX7, "tries", "(IIIII)V"⟩
abbrev cX7_pairs : ByteArray := prog_9_method_71_code
def yX7_pairs : MethodName := ⟨RX7, "pairs", "(II)I"⟩
abbrev cX7_mended : ByteArray := prog_9_method_72_code
def yX7_mended : MethodName := ⟨RX7, "mended", "(II)I"⟩
abbrev cX7_odds : ByteArray := prog_9_method_73_code
def yX7_odds : MethodName := ⟨RX7, "odds", "(III)I"⟩
abbrev cX7_windFor : ByteArray := prog_9_method_74_code
def yX7_windFor : MethodName := ⟨RX7, "windFor", "(I)I"⟩
abbrev cX7_bestWind : ByteArray := prog_9_method_75_code
def yX7_bestWind : MethodName := ⟨RX7, "bestWind", "(II)I"⟩
abbrev cX7_areSo : ByteArray := prog_9_method_76_code
def yX7_areSo : MethodName := ⟨RX7, "areSo", "(I)I"⟩
abbrev cX7_afloatThen : ByteArray := prog_9_method_77_code
def yX7_afloatThen : MethodName := ⟨RX7, "afloatThen", "(I)I"⟩
abbrev cX7_who : ByteArray := prog_9_method_78_code
def yX7_who : MethodName := ⟨RX7, "who", "(I)I"⟩
abbrev cX7_strays : ByteArray := prog_9_method_79_code
def yX7_strays : MethodName := ⟨RX7, "strays", "()I"⟩
abbrev cX7_there : ByteArray := prog_9_method_80_code
def yX7_there : MethodName := ⟨RX7, "there", "(II)I"⟩
abbrev cX7_settles : ByteArray := prog_9_method_81_code
def yX7_settles : MethodName := ⟨RX7, "settles", "(I)I"⟩
abbrev cX7_cellsOf : ByteArray := prog_9_method_82_code
def yX7_cellsOf : MethodName := ⟨RX7, "cellsOf", "(I)I"⟩
abbrev cX7_reach : ByteArray := prog_9_method_83_code
def yX7_reach : MethodName := ⟨RX7, "reach", "(II)I"⟩
abbrev cX7_busiest : ByteArray := prog_9_method_84_code
def yX7_busiest : MethodName := ⟨RX7, "busiest", "(I)I"⟩
abbrev cX7_round : ByteArray := prog_9_method_85_code
def yX7_round : MethodName := ⟨RX7, "round", "(I)I"⟩
abbrev cX7_join : ByteArray := prog_9_method_86_code
def yX7_join : MethodName := ⟨RX7, "join", "(II)I"⟩
abbrev cX7_first : ByteArray := prog_9_method_87_code
def yX7_first : MethodName := ⟨RX7, "first", "(I)I"⟩
abbrev cX7_next_ : ByteArray := prog_9_method_88_code
def yX7_next_ : MethodName := ⟨RX7, "next", "(III)I"⟩
abbrev cX7_stays : ByteArray := prog_9_method_89_code
def yX7_stays : MethodName := ⟨RX7, "stays", "(II)I"⟩
abbrev cX7_ofKind : ByteArray := prog_9_method_90_code
def yX7_ofKind : MethodName := ⟨RX7, "ofKind", "(I)I"⟩
abbrev cX7_judge : ByteArray := prog_9_method_91_code
def yX7_judge : MethodName := ⟨RX7, "judge", "(III)I"⟩
abbrev cX7_days : ByteArray := prog_9_method_92_code
def yX7_days : MethodName := ⟨RX7, "days", "(I)I"⟩
abbrev cX7_draw : ByteArray := prog_9_method_93_code
def yX7_draw : MethodName := ⟨RX7, "draw", "(I)I"⟩
abbrev cX7_drawn : ByteArray := prog_9_method_94_code
def yX7_drawn : MethodName := ⟨RX7, "drawn", "(I)I"⟩
abbrev cX7_seed : ByteArray := prog_9_method_95_code
def yX7_seed : MethodName := ⟨RX7, "seed", "(I)I"⟩
abbrev cX7_keep : ByteArray := prog_9_method_96_code
def yX7_keep : MethodName := ⟨RX7, "keep", "([I)V"⟩
abbrev cX7_again : ByteArray := prog_9_method_97_code
def yX7_again : MethodName := ⟨RX7, "again", "([I)V"⟩
abbrev cX7_image : ByteArray := prog_9_method_98_code
def yX7_image : MethodName := ⟨RX7, "image", "()I"⟩
abbrev cX7_back : ByteArray := prog_9_method_99_code
def yX7_back : MethodName := ⟨RX7, "back", "()I"⟩
abbrev cX7_status : ByteArray := prog_9_method_100_code
def yX7_status : MethodName := ⟨RX7, "status", "(I)I"⟩
def RJ6 : String := "java/lang/Integer"
abbrev cJ6_bitCount_0f7a4 : ByteArray := prog_10_method_49_code
def yJ6_bitCount_0f7a4 : MethodName := ⟨RJ6, "bitCount", "(I)I"⟩
def RJ9 : String := "java/lang/Math"
abbrev cJ9_abs_0f7a4 : ByteArray := prog_11_method_59_code
def yJ9_abs_0f7a4 : MethodName := ⟨RJ9, "abs", "(I)I"⟩
abbrev cJ9_max_7cf53 : ByteArray := prog_11_method_65_code
def yJ9_max_7cf53 : MethodName := ⟨RJ9, "max", "(II)I"⟩
abbrev cJ9_min_7cf53 : ByteArray := prog_11_method_69_code
def yJ9_min_7cf53 : MethodName := ⟨RJ9, "min", "(II)I"⟩
def RJ0 : String := "java/lang/String"
abbrev cJ0_length_8abf5 : ByteArray := prog_12_method_54_code
def yJ0_length_8abf5 : MethodName := ⟨RJ0, "length", "()I"⟩
abbrev cJ0_charAt_5068e : ByteArray := prog_12_method_56_code
def yJ0_charAt_5068e : MethodName := ⟨RJ0, "charAt", "(I)C"⟩
abbrev cJ0_coder_7d493 : ByteArray := prog_12_method_152_code
def yJ0_coder_7d493 : MethodName := ⟨RJ0, "coder", "()B"⟩
abbrev cJ0_isLatin1_aae02 : ByteArray := prog_12_method_154_code
def yJ0_isLatin1_aae02 : MethodName := ⟨RJ0, "isLatin1", "()Z"⟩
abbrev cJ0_checkIndex_df160 : ByteArray := prog_12_method_155_code
def yJ0_checkIndex_df160 : MethodName := ⟨RJ0, "checkIndex", "(II)V"⟩
def RJ1 : String := "java/lang/StringLatin1"
abbrev cJ1_charAt_3b067 : ByteArray := prog_13_method_2_code
def yJ1_charAt_3b067 : MethodName := ⟨RJ1, "charAt", "([BI)C"⟩
def RJ2 : String := "java/lang/StringUTF16"
abbrev cJ2_getChar_3b067 : ByteArray := prog_14_method_5_code
def yJ2_getChar_3b067 : MethodName := ⟨RJ2, "getChar", "([BI)C"⟩
abbrev cJ2_length_9d52b : ByteArray := prog_14_method_6_code
def yJ2_length_9d52b : MethodName := ⟨RJ2, "length", "([B)I"⟩
abbrev cJ2_charAt_3b067 : ByteArray := prog_14_method_83_code
def yJ2_charAt_3b067 : MethodName := ⟨RJ2, "charAt", "([BI)C"⟩
abbrev cJ2_checkIndex_2214a : ByteArray := prog_14_method_91_code
def yJ2_checkIndex_2214a : MethodName := ⟨RJ2, "checkIndex", "(I[B)V"⟩
def RJ10 : String := "java/lang/System"
def RJ3 : String := "jdk/internal/util/Preconditions"
abbrev cJ3_checkIndex_8e157 : ByteArray := prog_16_method_11_code
def yJ3_checkIndex_8e157 : MethodName := ⟨RJ3, "checkIndex", "(IILjava/util/function/BiFunction;)I"⟩
def RL : String := "AddressedToYouLaw"
abbrev cL_law : ByteArray := code
def yL_law : MethodName := ⟨RL, "law", "([I)Z"⟩
abbrev vwCl : List vw_C := [(RX0, TX0, 5), (RX1, TX1, 3), (RX2, TX2, 7), (RX3, TX3, 2), (RX4, TX4, 3), (RX5, TX5, 12), (RX6, TX6, 15), (RX7, TX7, 33)]
end
section
/-! THE ABSTRACT MACHINE: values, memory, one instruction, runs. A value is an int, a long, null or a reference (kind, number). -/
abbrev AV : Type := (Int32 ⊕ Int64) ⊕ Option (Nat × Nat)
abbrev aI (x : Int32) : AV := Sum.inl (Sum.inl x)
abbrev aL (x : Int64) : AV := Sum.inl (Sum.inr x)
abbrev aN : AV := Sum.inr none
abbrev aR (c i : Nat) : AV := Sum.inr (some (c, i))
abbrev LV : Type := List (Option AV)
/-- the memory: ints and longs by kind, number and place; what is static behind the making: how many of a kind, how long, which references, cells and places made -/
abbrev MI : Type := Nat → Nat → Nat → Int32
abbrev MLg : Type := Nat → Nat → Nat → Int64
abbrev MM : Type := MI × MLg
abbrev ST : Type := (Nat → Nat) × (Nat → Nat → Nat) × (Nat → Nat → Nat → Option (Nat × Nat)) × Nat × Nat
abbrev Mem : Type := ST × MM
abbrev Out : Type := Option AV × Mem
def gL : LV → Nat → Option AV
  | [], _ => none
  | x :: _, 0 => x
  | _ :: l, n + 1 => gL l n
def sL : LV → Nat → Option AV → LV
  | [], _, _ => []
  | _ :: l, 0, v => v :: l
  | x :: l, n + 1, v => x :: sL l n v
/-- a value of one word is stored: a long that it cuts is gone -/
def st1 (L : LV) (i : Nat) (v : AV) : LV := match i with
  | 0 => sL L 0 (some v)
  | j + 1 => match gL L j with
    | some (.inl (.inr _)) => sL (sL L j none) (j + 1) (some v)
    | _ => sL L (j + 1) (some v)
def st2 (L : LV) (i : Nat) (v : AV) : LV := sL (st1 L i v) (i + 1) none
def cat (v : AV) : Nat := match v with
  | .inl (.inr _) => 2
  | _ => 1
def inB (i : Int32) (n : Nat) : Bool := decide (0 ≤ i) && decide (i.toNatClampNeg < n)
def upI (m : MI) (c i k : Nat) (x : Int32) : MI := fun c' i' k' => if c' = c ∧ i' = i ∧ k' = k then x else m c' i' k'
def upL (m : MLg) (c i k : Nat) (x : Int64) : MLg := fun c' i' k' => if c' = c ∧ i' = i ∧ k' = k then x else m c' i' k'
def upR (m : Nat → Nat → Nat → Option (Nat × Nat)) (c i k : Nat) (x : Option (Nat × Nat)) : Nat → Nat → Nat → Option (Nat × Nat) := fun c' i' k' => if c' = c ∧ i' = i ∧ k' = k then x else m c' i' k'
def cpL (m : MLg) (c i : Nat) (sp : Nat) (d j : Nat) (dp n : Nat) : MLg := fun c' i' k' => if c' = d ∧ i' = j ∧ dp ≤ k' ∧ k' < dp + n then m c i (sp + (k' - dp)) else m c' i' k'
def isIA (c : Nat) : Bool := Nat.ble 40 c && Nat.ble c 68
def isLA (c : Nat) : Bool := Nat.beq c 20 || Nat.beq c 21
def isRA (c : Nat) : Bool := Nat.ble 22 c && Nat.ble c 26
/-- one instruction as the tables of this proof have it: what it is, its length, three numbers, an int, a long, the places of a switch -/
abbrev XE : Type := Instr × Nat × (Nat × Nat × Nat) × Int32 × Int64 × List (Int32 × Nat)
/-- what a call does, with what comes behind it -/
abbrev CS : Type := Nat → List AV → Mem → (Option AV → Mem → Option Out) → Option Out
/-- the kind of a field: 0 int, 1 truth, 4 a reference -/
def skL : List (List Nat) := [[0, 0, 0, 0, 0], [0, 0, 4], [0, 0, 4, 0, 0, 0, 4], [4, 4], [0, 0, 0], [0, 0, 0, 0, 0, 0, 0, 4, 4, 4, 4, 4], [4, 4, 4, 1, 4, 4, 4, 4, 4, 4, 4, 4, 4, 4, 4], [0, 4, 4, 0, 0, 4, 4, 4, 4, 4, 0, 4, 0, 0, 4, 0, 0, 0, 0, 4, 4, 4, 4, 1, 4, 4, 4, 4, 4, 4, 0, 0, 4]]
def sk (c k : Nat) : Nat := match c with
  | 31 => (match k with
    | 0 => 4
    | _ => 0)
  | _ => (skL.getD c []).getD k 9
/-- one instruction; k: what comes behind it -/
def astep (al : Bool) (cs : CS) (xe : XE) (pc : Nat) (L : LV) (S : List AV) (m : Mem) (k : Nat → LV → List AV → Mem → Option Out) : Option Out :=
  match xe with
  | (i, len, (a, b, d), v, w, brs) =>
    match i with
    | .iconst _ => k (pc + len) L (aI v :: S) m
    | .lconst _ => k (pc + len) L (aL w :: S) m
    | .aconst_null => k (pc + len) L (aN :: S) m
    | .iload _ => match gL L a with
      | some (.inl (.inl x)) => k (pc + len) L (aI x :: S) m
      | _ => none
    | .lload _ => match gL L a with
      | some (.inl (.inr x)) => k (pc + len) L (aL x :: S) m
      | _ => none
    | .aload _ => match gL L a with
      | some (.inr x) => k (pc + len) L (.inr x :: S) m
      | _ => none
    | .istore _ => match S with
      | .inl (.inl x) :: S => k (pc + len) (st1 L a (aI x)) S m
      | _ => none
    | .lstore _ => match S with
      | .inl (.inr x) :: S => k (pc + len) (st2 L a (aL x)) S m
      | _ => none
    | .astore _ => match S with
      | .inr x :: S => k (pc + len) (st1 L a (.inr x)) S m
      | _ => none
    | .iinc _ _ => match gL L a with
      | some (.inl (.inl x)) => k (pc + len) (st1 L a (aI (x + v))) S m
      | _ => none
    | .iadd => match S with
      | .inl (.inl y) :: .inl (.inl x) :: S => k (pc + len) L (aI (x + y) :: S) m
      | _ => none
    | .isub => match S with
      | .inl (.inl y) :: .inl (.inl x) :: S => k (pc + len) L (aI (x - y) :: S) m
      | _ => none
    | .imul => match S with
      | .inl (.inl y) :: .inl (.inl x) :: S => k (pc + len) L (aI (x * y) :: S) m
      | _ => none
    | .idiv => match S with
      | .inl (.inl y) :: .inl (.inl x) :: S => if y = 0 then none else k (pc + len) L (aI (x / y) :: S) m
      | _ => none
    | .irem => match S with
      | .inl (.inl y) :: .inl (.inl x) :: S => if y = 0 then none else k (pc + len) L (aI (x - x / y * y) :: S) m
      | _ => none
    | .ineg => match S with
      | .inl (.inl x) :: S => k (pc + len) L (aI (-x) :: S) m
      | _ => none
    | .iand => match S with
      | .inl (.inl y) :: .inl (.inl x) :: S => k (pc + len) L (aI (x &&& y) :: S) m
      | _ => none
    | .ior => match S with
      | .inl (.inl y) :: .inl (.inl x) :: S => k (pc + len) L (aI (x ||| y) :: S) m
      | _ => none
    | .ishl => match S with
      | .inl (.inl y) :: .inl (.inl x) :: S => k (pc + len) L (aI (x <<< (y &&& 31)) :: S) m
      | _ => none
    | .ishr => match S with
      | .inl (.inl y) :: .inl (.inl x) :: S => k (pc + len) L (aI (x >>> (y &&& 31)) :: S) m
      | _ => none
    | .iushr => match S with
      | .inl (.inl y) :: .inl (.inl x) :: S => k (pc + len) L (aI (x.toUInt32 >>> (y.toUInt32 &&& Int32.toUInt32 31)).toInt32 :: S) m
      | _ => none
    | .ladd => match S with
      | .inl (.inr y) :: .inl (.inr x) :: S => k (pc + len) L (aL (x + y) :: S) m
      | _ => none
    | .land => match S with
      | .inl (.inr y) :: .inl (.inr x) :: S => k (pc + len) L (aL (x &&& y) :: S) m
      | _ => none
    | .lor => match S with
      | .inl (.inr y) :: .inl (.inr x) :: S => k (pc + len) L (aL (x ||| y) :: S) m
      | _ => none
    | .lshl => match S with
      | .inl (.inl y) :: .inl (.inr x) :: S => k (pc + len) L (aL (x <<< (y.toInt64 &&& 63)) :: S) m
      | _ => none
    | .lcmp => match S with
      | .inl (.inr y) :: .inl (.inr x) :: S => k (pc + len) L (aI (lg_cmp x y) :: S) m
      | _ => none
    | .i2l => match S with
      | .inl (.inl x) :: S => k (pc + len) L (aL x.toInt64 :: S) m
      | _ => none
    | .l2i => match S with
      | .inl (.inr x) :: S => k (pc + len) L (aI x.toInt32 :: S) m
      | _ => none
    | .i2b => match S with
      | .inl (.inl x) :: S => k (pc + len) L (aI x.toInt8.toInt32 :: S) m
      | _ => none
    | .i2s => match S with
      | .inl (.inl x) :: S => k (pc + len) L (aI x.toInt16.toInt32 :: S) m
      | _ => none
    | .i2c => match S with
      | .inl (.inl x) :: S => k (pc + len) L (aI (x.toUInt32 % 65536).toInt32 :: S) m
      | _ => none
    | .dup => match S with
      | .inl (.inl x) :: S => k (pc + len) L (aI x :: aI x :: S) m
      | .inr x :: S => k (pc + len) L (.inr x :: .inr x :: S) m
      | _ => none
    | .pop => match S with
      | .inl (.inl _) :: S => k (pc + len) L S m
      | .inr _ :: S => k (pc + len) L S m
      | _ => none
    | .dup_x1 => match S with
      | .inl (.inl x) :: .inr y :: S => k (pc + len) L (aI x :: .inr y :: aI x :: S) m
      | _ => none
    | .dup2 => match S with
      | .inl (.inl x) :: .inr y :: S => k (pc + len) L (aI x :: .inr y :: aI x :: .inr y :: S) m
      | _ => none
    | .goto _ => k a L S m
    | .ifCond q _ => match S with
      | .inl (.inl x) :: S => match q with
        | .eq => if x = 0 then k a L S m else k (pc + len) L S m
        | .ne => if ¬ x = 0 then k a L S m else k (pc + len) L S m
        | .lt => if x < 0 then k a L S m else k (pc + len) L S m
        | .ge => if 0 ≤ x then k a L S m else k (pc + len) L S m
        | .gt => if 0 < x then k a L S m else k (pc + len) L S m
        | .le => if x ≤ 0 then k a L S m else k (pc + len) L S m
      | _ => none
    | .if_icmp q _ => match S with
      | .inl (.inl y) :: .inl (.inl x) :: S => match q with
        | .eq => if x = y then k a L S m else k (pc + len) L S m
        | .ne => if ¬ x = y then k a L S m else k (pc + len) L S m
        | .lt => if x < y then k a L S m else k (pc + len) L S m
        | .ge => if y ≤ x then k a L S m else k (pc + len) L S m
        | .gt => if y < x then k a L S m else k (pc + len) L S m
        | .le => if x ≤ y then k a L S m else k (pc + len) L S m
      | _ => none
    | .ifnull _ => match S with
      | .inr none :: S => k a L S m
      | .inr (some (c, _)) :: S => bif Nat.beq c 34 then none else k (pc + len) L S m
      | _ => none
    | .ifnonnull _ => match S with
      | .inr none :: S => k (pc + len) L S m
      | .inr (some (c, _)) :: S => bif Nat.beq c 34 then none else k a L S m
      | _ => none
    | .dneg => match S with
      | .inl (.inl x) :: S => bif Nat.ble S.length 8 then k (pc + len) L (aI (if 0 ≤ x then x else 0 - x) :: S) m else none
      | _ => none
    | .dadd => match S with
      | .inl (.inl y) :: .inl (.inl x) :: S => bif Nat.ble S.length 8 then k (pc + len) L (aI (if x < y then y else x) :: S) m else none
      | _ => none
    | .dsub => match S with
      | .inl (.inl y) :: .inl (.inl x) :: S => bif Nat.ble S.length 8 then k (pc + len) L (aI (if y < x then y else x) :: S) m else none
      | _ => none
    | .dmul => match S with
      | .inl (.inl n) :: .inl (.inl dp) :: .inr (some (c', i')) :: .inl (.inl sp) :: .inr (some (c, i)) :: S =>
        bif isLA c && isLA c' && Nat.ble S.length 8 then
          if 0 ≤ sp ∧ 0 ≤ dp ∧ 0 ≤ n ∧ sp.toNatClampNeg + n.toNatClampNeg ≤ m.1.2.1 c i ∧ dp.toNatClampNeg + n.toNatClampNeg ≤ m.1.2.1 c' i' then
            k (pc + len) L S (m.1, (m.2.1, cpL m.2.2 c i sp.toNatClampNeg c' i' dp.toNatClampNeg n.toNatClampNeg))
          else none
        else none
      | _ => none
    | .nop => match S with
      | .inr (some (c, _)) :: S => bif al && Nat.blt c 8 && Nat.ble S.length 8 then k (pc + len) L S m else none
      | _ => none
    | .new _ => bif al && Nat.blt a 8 then k (pc + len) L (aR a (m.1.1 a) :: S) ((fun c => if c = a then m.1.1 a + 1 else m.1.1 c, m.1.2.1, (fun c i q => if c = a ∧ i = m.1.1 a then none else m.1.2.2.1 c i q), m.1.2.2.2.1 + 1, m.1.2.2.2.2 + (skL.getD a []).length), (fun c i q => if c = a ∧ i = m.1.1 a then 0 else m.2.1 c i q, m.2.2)) else none
    | .newarray _ => match S with
      | .inl (.inl n) :: S => bif al && (isIA a || isLA a) && inB n 1000 then k (pc + len) L (aR a (m.1.1 a) :: S) ((fun c => if c = a then m.1.1 a + 1 else m.1.1 c, (fun c i => if c = a ∧ i = m.1.1 a then n.toNatClampNeg else m.1.2.1 c i), (fun c i q => if c = a ∧ i = m.1.1 a then none else m.1.2.2.1 c i q), m.1.2.2.2.1 + 1, m.1.2.2.2.2 + n.toNatClampNeg), (fun c i q => if c = a ∧ i = m.1.1 a then 0 else m.2.1 c i q), (fun c i q => if c = a ∧ i = m.1.1 a then 0 else m.2.2 c i q)) else none
      | _ => none
    | .anewarray _ => match S with
      | .inl (.inl n) :: S => bif al && (Nat.ble 22 a && Nat.ble a 24) && inB n 1000 then k (pc + len) L (aR a (m.1.1 a) :: S) ((fun c => if c = a then m.1.1 a + 1 else m.1.1 c, (fun c i => if c = a ∧ i = m.1.1 a then n.toNatClampNeg else m.1.2.1 c i), (fun c i q => if c = a ∧ i = m.1.1 a then none else m.1.2.2.1 c i q), m.1.2.2.2.1 + 1, m.1.2.2.2.2 + n.toNatClampNeg), m.2) else none
      | _ => none
    | .multianewarray _ _ => match S with
      | .inl (.inl w) :: .inl (.inl n) :: S => bif al && (Nat.ble 25 a && Nat.ble a 26) && isIA b && inB n 1000 && inB w 1000 then k (pc + len) L (aR a (m.1.1 a) :: S) ((fun c => if c = a then m.1.1 a + 1 else if c = b then m.1.1 b + n.toNatClampNeg else m.1.1 c, (fun c i => if c = a ∧ i = m.1.1 a then n.toNatClampNeg else if c = b ∧ m.1.1 b ≤ i then w.toNatClampNeg else m.1.2.1 c i), (fun c i q => if c = a ∧ i = m.1.1 a then (if q < n.toNatClampNeg then some (b, m.1.1 b + q) else none) else if c = b ∧ m.1.1 b ≤ i then none else m.1.2.2.1 c i q), m.1.2.2.2.1 + 1 + n.toNatClampNeg, m.1.2.2.2.2 + n.toNatClampNeg + n.toNatClampNeg * w.toNatClampNeg), (fun c i q => if c = b ∧ m.1.1 b ≤ i then 0 else m.2.1 c i q), m.2.2) else none
      | _ => none
    | .aastore => match S with
      | .inr (some q) :: .inl (.inl j) :: .inr (some (c, i)) :: S => bif al && ((Nat.beq c 22 && Nat.beq q.1 0) || (Nat.beq c 23 && Nat.beq q.1 1) || (Nat.beq c 24 && Nat.beq q.1 4)) && inB j (m.1.2.1 c i) then k (pc + len) L S ((m.1.1, m.1.2.1, upR m.1.2.2.1 c i j.toNatClampNeg (some q), m.1.2.2.2.1, m.1.2.2.2.2), m.2) else none
      | _ => none
    | .tableswitch _ _ _ _ => match S with
      | .inl (.inl x) :: S => brs.foldr (fun q r => if x = q.1 then k q.2 L S m else r) (k a L S m)
      | _ => none
    | .getfield _ => match S with
      | .inr (some (c, i)) :: S => bif Nat.beq c a then (match sk a b with
          | 4 => k (pc + len) L (.inr (m.1.2.2.1 c i b) :: S) m
          | _ => k (pc + len) L (aI (m.2.1 c i b) :: S) m) else none
      | _ => none
    | .putfield _ => match sk a b with
      | 0 => match S with
        | .inl (.inl x) :: .inr (some (c, i)) :: S => bif Nat.beq c a then k (pc + len) L S (m.1, (upI m.2.1 c i b x, m.2.2)) else none
        | _ => none
      | 1 => match S with
        | .inl (.inl x) :: .inr (some (c, i)) :: S => bif Nat.beq c a && (x == 0 || x == 1) then k (pc + len) L S (m.1, (upI m.2.1 c i b x, m.2.2)) else none
        | _ => none
      | _ => match S with
        | .inr (some q) :: .inr (some (c, i)) :: S => bif al && Nat.beq c a && (Nat.blt q.1 8 || isIA q.1 || isLA q.1 || isRA q.1) then k (pc + len) L S ((m.1.1, m.1.2.1, upR m.1.2.2.1 c i b (some q), m.1.2.2.2.1, m.1.2.2.2.2), m.2) else none
        | _ => none
    | .getstatic _ => match a with
      | 0 => k (pc + len) L (aI 1 :: S) m
      | _ => k (pc + len) L (aR a 0 :: S) m
    | .ldc _ => k (pc + len) L (aR 31 a :: S) m
    | .iaload => match S with
      | .inl (.inl j) :: .inr (some (c, i)) :: S => bif (isIA c || Nat.beq c 32 || Nat.beq c 33) && inB j (m.1.2.1 c i) then k (pc + len) L (aI (m.2.1 c i j.toNatClampNeg) :: S) m else none
      | _ => none
    | .baload => match S with
      | .inl (.inl j) :: .inr (some (c, i)) :: S => bif Nat.beq c 30 && inB j (m.1.2.1 c i) then k (pc + len) L (aI (m.2.1 c i j.toNatClampNeg) :: S) m else none
      | _ => none
    | .laload => match S with
      | .inl (.inl j) :: .inr (some (c, i)) :: S => bif isLA c && inB j (m.1.2.1 c i) then k (pc + len) L (aL (m.2.2 c i j.toNatClampNeg) :: S) m else none
      | _ => none
    | .aaload => match S with
      | .inl (.inl j) :: .inr (some (c, i)) :: S => bif isRA c && inB j (m.1.2.1 c i) then k (pc + len) L (.inr (m.1.2.2.1 c i j.toNatClampNeg) :: S) m else none
      | _ => none
    | .iastore => match S with
      | .inl (.inl x) :: .inl (.inl j) :: .inr (some (c, i)) :: S => bif isIA c && inB j (m.1.2.1 c i) then k (pc + len) L S (m.1, (upI m.2.1 c i j.toNatClampNeg x, m.2.2)) else none
      | _ => none
    | .lastore => match S with
      | .inl (.inr x) :: .inl (.inl j) :: .inr (some (c, i)) :: S => bif isLA c && inB j (m.1.2.1 c i) then k (pc + len) L S (m.1, (m.2.1, upL m.2.2 c i j.toNatClampNeg x)) else none
      | _ => none
    | .arraylength => match S with
      | .inr (some (c, i)) :: S => bif isIA c || isLA c || isRA c || Nat.beq c 30 || Nat.beq c 32 || Nat.beq c 33 then k (pc + len) L (aI (nI (m.1.2.1 c i)) :: S) m else none
      | _ => none
    | .invokevirtual _ => bif Nat.ble a S.length && Nat.ble (S.drop a).length 4 then cs b (S.take a).reverse m (fun r m' => k (pc + len) L (r.toList ++ S.drop a) m') else none
    | _ => none
/-- a run, from an instruction to the method's end -/
def arun (al : Bool) (cs : CS) (T : Nat → Option XE) : Nat → Nat → LV → List AV → Mem → Option Out
  | 0, _, _, _, _ => none
  | n + 1, pc, L, S, m => match T pc with
    | none => none
    | some xe => match xe.1 with
      | .return_ => some (none, m)
      | .ireturn => match S with
        | [.inl (.inl x)] => some (some (aI x), m)
        | _ => none
      | .lreturn => match S with
        | [.inl (.inr x)] => some (some (aL x), m)
        | _ => none
      | .areturn => match S with
        | [.inr x] => some (some (.inr x), m)
        | _ => none
      | _ => astep al cs xe pc L S m (arun al cs T n)
def lk : List (Nat × XE) → Nat → Option XE
  | [], _ => none
  | (p, x) :: l, pc => bif Nat.beq p pc then some x else lk l pc
end
section
/-! THE CODE, by program: every method as a table (buckets of 32 places), one entry an instruction: what it is, its length, three numbers, an int, a long, the places of a switch -/
def gB : List (List (Nat × XE)) → Nat → List (Nat × XE)
  | [], _ => []
  | x :: _, 0 => x
  | _ :: l, n + 1 => gB l n
def lkb (t : List (List (Nat × XE))) (pc : Nat) : Option XE := lk (gB t (pc / 32)) pc
set_option maxRecDepth 20000 in
def tX0_init : List (List (Nat × XE)) := [[(0, (.aload 0, 1, (0, 0, 0), 0, 0, [])), (1, (.nop, 3, (0, 0, 3), 0, 0, [])), (4, (.aload 0, 1, (0, 0, 0), 0, 0, [])), (5, (.iconst 0, 1, (0, 0, 0), 0, 0, [])), (6, (.putfield 0, 3, (0, 0, 9), 0, 0, [])), (9, (.aload 0, 1, (0, 0, 0), 0, 0, [])), (10, (.iconst 0, 1, (0, 0, 0), 0, 0, [])), (11, (.putfield 0, 3, (0, 1, 15), 0, 0, [])), (14, (.aload 0, 1, (0, 0, 0), 0, 0, [])), (15, (.iconst 0, 1, (0, 0, 0), 0, 0, [])), (16, (.putfield 0, 3, (0, 2, 18), 0, 0, [])), (19, (.aload 0, 1, (0, 0, 0), 0, 0, [])), (20, (.iconst 0, 1, (0, 0, 0), (-1), 0, [])), (21, (.putfield 0, 3, (0, 3, 21), 0, 0, [])), (24, (.aload 0, 1, (0, 0, 0), 0, 0, [])), (25, (.iconst 0, 1, (0, 0, 0), 0, 0, [])), (26, (.putfield 0, 3, (0, 4, 24), 0, 0, [])), (29, (.return_, 1, (0, 0, 0), 0, 0, []))]]
set_option maxRecDepth 20000 in
def tX0_start : List (List (Nat × XE)) := [[(0, (.aload 0, 1, (0, 0, 0), 0, 0, [])), (1, (.iload 0, 1, (1, 0, 0), 0, 0, [])), (2, (.putfield 0, 3, (0, 0, 9), 0, 0, [])), (5, (.aload 0, 1, (0, 0, 0), 0, 0, [])), (6, (.iload 0, 1, (2, 0, 0), 0, 0, [])), (7, (.putfield 0, 3, (0, 1, 15), 0, 0, [])), (10, (.aload 0, 1, (0, 0, 0), 0, 0, [])), (11, (.iload 0, 1, (3, 0, 0), 0, 0, [])), (12, (.putfield 0, 3, (0, 2, 18), 0, 0, [])), (15, (.aload 0, 1, (0, 0, 0), 0, 0, [])), (16, (.iload 0, 2, (4, 0, 0), 0, 0, [])), (18, (.putfield 0, 3, (0, 3, 21), 0, 0, [])), (21, (.aload 0, 1, (0, 0, 0), 0, 0, [])), (22, (.iconst 0, 1, (0, 0, 0), 0, 0, [])), (23, (.putfield 0, 3, (0, 4, 24), 0, 0, [])), (26, (.return_, 1, (0, 0, 0), 0, 0, []))]]
set_option maxRecDepth 20000 in
def tX0_become : List (List (Nat × XE)) := [[(0, (.aload 0, 1, (0, 0, 0), 0, 0, [])), (1, (.aload 0, 1, (1, 0, 0), 0, 0, [])), (2, (.getfield 0, 3, (0, 0, 9), 0, 0, [])), (5, (.putfield 0, 3, (0, 0, 9), 0, 0, [])), (8, (.aload 0, 1, (0, 0, 0), 0, 0, [])), (9, (.aload 0, 1, (1, 0, 0), 0, 0, [])), (10, (.getfield 0, 3, (0, 1, 15), 0, 0, [])), (13, (.putfield 0, 3, (0, 1, 15), 0, 0, [])), (16, (.aload 0, 1, (0, 0, 0), 0, 0, [])), (17, (.aload 0, 1, (1, 0, 0), 0, 0, [])), (18, (.getfield 0, 3, (0, 2, 18), 0, 0, [])), (21, (.putfield 0, 3, (0, 2, 18), 0, 0, [])), (24, (.aload 0, 1, (0, 0, 0), 0, 0, [])), (25, (.aload 0, 1, (1, 0, 0), 0, 0, [])), (26, (.getfield 0, 3, (0, 3, 21), 0, 0, [])), (29, (.putfield 0, 3, (0, 3, 21), 0, 0, []))],
  [(32, (.aload 0, 1, (0, 0, 0), 0, 0, [])), (33, (.aload 0, 1, (1, 0, 0), 0, 0, [])), (34, (.getfield 0, 3, (0, 4, 24), 0, 0, [])), (37, (.putfield 0, 3, (0, 4, 24), 0, 0, [])), (40, (.return_, 1, (0, 0, 0), 0, 0, []))]]
set_option maxRecDepth 20000 in
def tX0_tellOf : List (List (Nat × XE)) := [[(0, (.iload 0, 1, (1, 0, 0), 0, 0, [])), (1, (.tableswitch 0 0 0 #[], 35, (61, 0, 0), 0, 0, [(0, 36), (1, 41), (2, 46), (3, 51), (4, 56)]))],
  [(36, (.aload 0, 1, (0, 0, 0), 0, 0, [])), (37, (.getfield 0, 3, (0, 0, 9), 0, 0, [])), (40, (.ireturn, 1, (0, 0, 0), 0, 0, [])), (41, (.aload 0, 1, (0, 0, 0), 0, 0, [])), (42, (.getfield 0, 3, (0, 1, 15), 0, 0, [])), (45, (.ireturn, 1, (0, 0, 0), 0, 0, [])), (46, (.aload 0, 1, (0, 0, 0), 0, 0, [])), (47, (.getfield 0, 3, (0, 2, 18), 0, 0, [])), (50, (.ireturn, 1, (0, 0, 0), 0, 0, [])), (51, (.aload 0, 1, (0, 0, 0), 0, 0, [])), (52, (.getfield 0, 3, (0, 3, 21), 0, 0, [])), (55, (.ireturn, 1, (0, 0, 0), 0, 0, [])), (56, (.aload 0, 1, (0, 0, 0), 0, 0, [])), (57, (.getfield 0, 3, (0, 4, 24), 0, 0, [])), (60, (.ireturn, 1, (0, 0, 0), 0, 0, [])), (61, (.aload 0, 1, (0, 0, 0), 0, 0, [])), (62, (.getfield 0, 3, (0, 0, 9), 0, 0, []))],
  [(65, (.aload 0, 1, (0, 0, 0), 0, 0, [])), (66, (.getfield 0, 3, (0, 1, 15), 0, 0, [])), (69, (.invokevirtual 0, 3, (2, 123, 27), 0, 0, [])), (72, (.ireturn, 1, (0, 0, 0), 0, 0, []))]]
set_option maxRecDepth 20000 in
def tX1_init : List (List (Nat × XE)) := [[(0, (.aload 0, 1, (0, 0, 0), 0, 0, [])), (1, (.nop, 3, (0, 0, 3), 0, 0, [])), (4, (.aload 0, 1, (0, 0, 0), 0, 0, [])), (5, (.iconst 0, 1, (0, 0, 0), (-1), 0, [])), (6, (.putfield 0, 3, (1, 0, 9), 0, 0, [])), (9, (.aload 0, 1, (0, 0, 0), 0, 0, [])), (10, (.iconst 0, 1, (0, 0, 0), 0, 0, [])), (11, (.putfield 0, 3, (1, 1, 15), 0, 0, [])), (14, (.aload 0, 1, (0, 0, 0), 0, 0, [])), (15, (.iconst 0, 2, (0, 0, 0), 40, 0, [])), (17, (.newarray .long, 2, (20, 0, 0), 0, 0, [])), (19, (.putfield 0, 3, (1, 2, 18), 0, 0, [])), (22, (.return_, 1, (0, 0, 0), 0, 0, []))]]
set_option maxRecDepth 20000 in
def tX1_isEmpty : List (List (Nat × XE)) := [[(0, (.aload 0, 1, (0, 0, 0), 0, 0, [])), (1, (.getfield 0, 3, (1, 0, 9), 0, 0, [])), (4, (.iconst 0, 1, (0, 0, 0), (-1), 0, [])), (5, (.if_icmp .ne 0, 3, (12, 0, 0), 0, 0, [])), (8, (.iconst 0, 1, (0, 0, 0), 1, 0, [])), (9, (.goto 0, 3, (13, 0, 0), 0, 0, [])), (12, (.iconst 0, 1, (0, 0, 0), 0, 0, [])), (13, (.ireturn, 1, (0, 0, 0), 0, 0, []))]]
set_option maxRecDepth 20000 in
def tX1_isRow : List (List (Nat × XE)) := [[(0, (.aload 0, 1, (0, 0, 0), 0, 0, [])), (1, (.getfield 0, 3, (1, 0, 9), 0, 0, [])), (4, (.ifCond .lt 0, 3, (19, 0, 0), 0, 0, [])), (7, (.aload 0, 1, (0, 0, 0), 0, 0, [])), (8, (.getfield 0, 3, (1, 0, 9), 0, 0, [])), (11, (.iconst 0, 1, (0, 0, 0), 4, 0, [])), (12, (.if_icmp .gt 0, 3, (19, 0, 0), 0, 0, [])), (15, (.iconst 0, 1, (0, 0, 0), 1, 0, [])), (16, (.goto 0, 3, (20, 0, 0), 0, 0, [])), (19, (.iconst 0, 1, (0, 0, 0), 0, 0, [])), (20, (.ireturn, 1, (0, 0, 0), 0, 0, []))]]
set_option maxRecDepth 20000 in
def tX1_isBottle : List (List (Nat × XE)) := [[(0, (.aload 0, 1, (0, 0, 0), 0, 0, [])), (1, (.getfield 0, 3, (1, 0, 9), 0, 0, [])), (4, (.iconst 0, 2, (0, 0, 0), 10, 0, [])), (6, (.if_icmp .lt 0, 3, (13, 0, 0), 0, 0, [])), (9, (.iconst 0, 1, (0, 0, 0), 1, 0, [])), (10, (.goto 0, 3, (14, 0, 0), 0, 0, [])), (13, (.iconst 0, 1, (0, 0, 0), 0, 0, [])), (14, (.ireturn, 1, (0, 0, 0), 0, 0, []))]]
set_option maxRecDepth 20000 in
def tX1_whyNoRow : List (List (Nat × XE)) := [[(0, (.aload 0, 1, (0, 0, 0), 0, 0, [])), (1, (.invokevirtual 0, 3, (1, 7, 22), 0, 0, [])), (4, (.ifCond .eq 0, 3, (13, 0, 0), 0, 0, [])), (7, (.iconst 0, 3, (0, 0, 0), (-1003), 0, [])), (10, (.goto 0, 3, (16, 0, 0), 0, 0, [])), (13, (.iconst 0, 3, (0, 0, 0), (-1004), 0, [])), (16, (.ireturn, 1, (0, 0, 0), 0, 0, []))]]
set_option maxRecDepth 20000 in
def tX1_hasPlace : List (List (Nat × XE)) := [[(0, (.iload 0, 1, (1, 0, 0), 0, 0, [])), (1, (.ifCond .lt 0, 3, (25, 0, 0), 0, 0, [])), (4, (.iload 0, 1, (1, 0, 0), 0, 0, [])), (5, (.aload 0, 1, (0, 0, 0), 0, 0, [])), (6, (.getfield 0, 3, (1, 1, 15), 0, 0, [])), (9, (.if_icmp .ge 0, 3, (25, 0, 0), 0, 0, [])), (12, (.iload 0, 1, (1, 0, 0), 0, 0, [])), (13, (.aload 0, 1, (0, 0, 0), 0, 0, [])), (14, (.getfield 0, 3, (1, 2, 18), 0, 0, [])), (17, (.arraylength, 1, (0, 0, 0), 0, 0, [])), (18, (.if_icmp .ge 0, 3, (25, 0, 0), 0, 0, [])), (21, (.iconst 0, 1, (0, 0, 0), 1, 0, [])), (22, (.goto 0, 3, (26, 0, 0), 0, 0, [])), (25, (.iconst 0, 1, (0, 0, 0), 0, 0, [])), (26, (.ireturn, 1, (0, 0, 0), 0, 0, []))]]
set_option maxRecDepth 20000 in
def tX1_hasSpan : List (List (Nat × XE)) := [[(0, (.iload 0, 1, (1, 0, 0), 0, 0, [])), (1, (.ifCond .lt 0, 3, (34, 0, 0), 0, 0, [])), (4, (.iload 0, 1, (2, 0, 0), 0, 0, [])), (5, (.ifCond .lt 0, 3, (34, 0, 0), 0, 0, [])), (8, (.aload 0, 1, (0, 0, 0), 0, 0, [])), (9, (.getfield 0, 3, (1, 1, 15), 0, 0, [])), (12, (.aload 0, 1, (0, 0, 0), 0, 0, [])), (13, (.getfield 0, 3, (1, 2, 18), 0, 0, [])), (16, (.arraylength, 1, (0, 0, 0), 0, 0, [])), (17, (.if_icmp .gt 0, 3, (34, 0, 0), 0, 0, [])), (20, (.iload 0, 1, (2, 0, 0), 0, 0, [])), (21, (.aload 0, 1, (0, 0, 0), 0, 0, [])), (22, (.getfield 0, 3, (1, 1, 15), 0, 0, [])), (25, (.iload 0, 1, (1, 0, 0), 0, 0, [])), (26, (.isub, 1, (0, 0, 0), 0, 0, [])), (27, (.if_icmp .gt 0, 3, (34, 0, 0), 0, 0, [])), (30, (.iconst 0, 1, (0, 0, 0), 1, 0, [])), (31, (.goto 0, 3, (35, 0, 0), 0, 0, []))],
  [(34, (.iconst 0, 1, (0, 0, 0), 0, 0, [])), (35, (.ireturn, 1, (0, 0, 0), 0, 0, []))]]
set_option maxRecDepth 20000 in
def tX1_startRow : List (List (Nat × XE)) := [[(0, (.aload 0, 1, (0, 0, 0), 0, 0, [])), (1, (.iload 0, 1, (1, 0, 0), 0, 0, [])), (2, (.putfield 0, 3, (1, 0, 9), 0, 0, [])), (5, (.aload 0, 1, (0, 0, 0), 0, 0, [])), (6, (.iconst 0, 1, (0, 0, 0), 0, 0, [])), (7, (.iload 0, 1, (2, 0, 0), 0, 0, [])), (8, (.aload 0, 1, (0, 0, 0), 0, 0, [])), (9, (.getfield 0, 3, (1, 2, 18), 0, 0, [])), (12, (.arraylength, 1, (0, 0, 0), 0, 0, [])), (13, (.dsub, 3, (0, 0, 26), 0, 0, [])), (16, (.dadd, 3, (0, 0, 32), 0, 0, [])), (19, (.putfield 0, 3, (1, 1, 15), 0, 0, [])), (22, (.iconst 0, 1, (0, 0, 0), 0, 0, [])), (23, (.istore 0, 1, (3, 0, 0), 0, 0, [])), (24, (.iload 0, 1, (3, 0, 0), 0, 0, [])), (25, (.aload 0, 1, (0, 0, 0), 0, 0, [])), (26, (.getfield 0, 3, (1, 2, 18), 0, 0, [])), (29, (.arraylength, 1, (0, 0, 0), 0, 0, [])), (30, (.if_icmp .ge 0, 3, (46, 0, 0), 0, 0, []))],
  [(33, (.aload 0, 1, (0, 0, 0), 0, 0, [])), (34, (.getfield 0, 3, (1, 2, 18), 0, 0, [])), (37, (.iload 0, 1, (3, 0, 0), 0, 0, [])), (38, (.lconst 0, 1, (0, 0, 0), 0, 0, [])), (39, (.lastore, 1, (0, 0, 0), 0, 0, [])), (40, (.iinc 0 0, 3, (3, 0, 0), 1, 0, [])), (43, (.goto 0, 3, (24, 0, 0), 0, 0, [])), (46, (.return_, 1, (0, 0, 0), 0, 0, []))]]
set_option maxRecDepth 20000 in
def tX1_put : List (List (Nat × XE)) := [[(0, (.aload 0, 1, (0, 0, 0), 0, 0, [])), (1, (.invokevirtual 0, 3, (1, 6, 35), 0, 0, [])), (4, (.ifCond .eq 0, 3, (26, 0, 0), 0, 0, [])), (7, (.aload 0, 1, (0, 0, 0), 0, 0, [])), (8, (.iload 0, 1, (1, 0, 0), 0, 0, [])), (9, (.invokevirtual 0, 3, (2, 9, 38), 0, 0, [])), (12, (.ifCond .eq 0, 3, (26, 0, 0), 0, 0, [])), (15, (.aload 0, 1, (0, 0, 0), 0, 0, [])), (16, (.getfield 0, 3, (1, 2, 18), 0, 0, [])), (19, (.iload 0, 1, (1, 0, 0), 0, 0, [])), (20, (.aload 0, 1, (0, 0, 0), 0, 0, [])), (21, (.lload 0, 1, (2, 0, 0), 0, 0, [])), (22, (.invokevirtual 0, 3, (2, 14, 42), 0, 0, [])), (25, (.lastore, 1, (0, 0, 0), 0, 0, [])), (26, (.return_, 1, (0, 0, 0), 0, 0, []))]]
set_option maxRecDepth 20000 in
def tX1_take : List (List (Nat × XE)) := [[(0, (.aload 0, 1, (0, 0, 0), 0, 0, [])), (1, (.invokevirtual 0, 3, (1, 6, 35), 0, 0, [])), (4, (.ifCond .eq 0, 3, (24, 0, 0), 0, 0, [])), (7, (.aload 0, 1, (0, 0, 0), 0, 0, [])), (8, (.iload 0, 1, (1, 0, 0), 0, 0, [])), (9, (.invokevirtual 0, 3, (2, 9, 38), 0, 0, [])), (12, (.ifCond .eq 0, 3, (24, 0, 0), 0, 0, [])), (15, (.aload 0, 1, (0, 0, 0), 0, 0, [])), (16, (.getfield 0, 3, (1, 2, 18), 0, 0, [])), (19, (.iload 0, 1, (1, 0, 0), 0, 0, [])), (20, (.laload, 1, (0, 0, 0), 0, 0, [])), (21, (.goto 0, 3, (25, 0, 0), 0, 0, [])), (24, (.lconst 0, 1, (0, 0, 0), 0, 0, [])), (25, (.lreturn, 1, (0, 0, 0), 0, 0, []))]]
set_option maxRecDepth 20000 in
def tX1_narrowed : List (List (Nat × XE)) := [[(0, (.aload 0, 1, (0, 0, 0), 0, 0, [])), (1, (.getfield 0, 3, (1, 0, 9), 0, 0, [])), (4, (.tableswitch 0 0 0 #[], 36, (66, 0, 0), 0, 0, [(0, 40), (1, 45), (2, 50), (3, 66), (4, 54)]))],
  [(40, (.lload 0, 1, (1, 0, 0), 0, 0, [])), (41, (.l2i, 1, (0, 0, 0), 0, 0, [])), (42, (.i2b, 1, (0, 0, 0), 0, 0, [])), (43, (.i2l, 1, (0, 0, 0), 0, 0, [])), (44, (.lreturn, 1, (0, 0, 0), 0, 0, [])), (45, (.lload 0, 1, (1, 0, 0), 0, 0, [])), (46, (.l2i, 1, (0, 0, 0), 0, 0, [])), (47, (.i2s, 1, (0, 0, 0), 0, 0, [])), (48, (.i2l, 1, (0, 0, 0), 0, 0, [])), (49, (.lreturn, 1, (0, 0, 0), 0, 0, [])), (50, (.lload 0, 1, (1, 0, 0), 0, 0, [])), (51, (.l2i, 1, (0, 0, 0), 0, 0, [])), (52, (.i2l, 1, (0, 0, 0), 0, 0, [])), (53, (.lreturn, 1, (0, 0, 0), 0, 0, [])), (54, (.lload 0, 1, (1, 0, 0), 0, 0, [])), (55, (.lconst 0, 1, (0, 0, 0), 0, 0, [])), (56, (.lcmp, 1, (0, 0, 0), 0, 0, [])), (57, (.ifCond .eq 0, 3, (64, 0, 0), 0, 0, [])), (60, (.lconst 0, 1, (0, 0, 0), 0, 1, [])), (61, (.goto 0, 3, (65, 0, 0), 0, 0, []))],
  [(64, (.lconst 0, 1, (0, 0, 0), 0, 0, [])), (65, (.lreturn, 1, (0, 0, 0), 0, 0, [])), (66, (.lload 0, 1, (1, 0, 0), 0, 0, [])), (67, (.lreturn, 1, (0, 0, 0), 0, 0, []))]]
set_option maxRecDepth 20000 in
def tX2_init : List (List (Nat × XE)) := [[(0, (.aload 0, 1, (0, 0, 0), 0, 0, [])), (1, (.nop, 3, (0, 0, 3), 0, 0, [])), (4, (.aload 0, 1, (0, 0, 0), 0, 0, [])), (5, (.iconst 0, 1, (0, 0, 0), 0, 0, [])), (6, (.putfield 0, 3, (2, 0, 9), 0, 0, [])), (9, (.aload 0, 1, (0, 0, 0), 0, 0, [])), (10, (.iconst 0, 1, (0, 0, 0), 0, 0, [])), (11, (.putfield 0, 3, (2, 1, 15), 0, 0, [])), (14, (.aload 0, 1, (0, 0, 0), 0, 0, [])), (15, (.iconst 0, 3, (0, 0, 0), 250, 0, [])), (18, (.newarray .int, 2, (45, 0, 0), 0, 0, [])), (20, (.putfield 0, 3, (2, 2, 18), 0, 0, [])), (23, (.aload 0, 1, (0, 0, 0), 0, 0, [])), (24, (.iconst 0, 1, (0, 0, 0), 0, 0, [])), (25, (.putfield 0, 3, (2, 3, 22), 0, 0, [])), (28, (.aload 0, 1, (0, 0, 0), 0, 0, [])), (29, (.iconst 0, 1, (0, 0, 0), 0, 0, [])), (30, (.putfield 0, 3, (2, 4, 25), 0, 0, []))],
  [(33, (.aload 0, 1, (0, 0, 0), 0, 0, [])), (34, (.iconst 0, 1, (0, 0, 0), (-1), 0, [])), (35, (.putfield 0, 3, (2, 5, 28), 0, 0, [])), (38, (.aload 0, 1, (0, 0, 0), 0, 0, [])), (39, (.iconst 0, 1, (0, 0, 0), 4, 0, [])), (40, (.newarray .int, 2, (46, 0, 0), 0, 0, [])), (42, (.putfield 0, 3, (2, 6, 31), 0, 0, [])), (45, (.return_, 1, (0, 0, 0), 0, 0, []))]]
set_option maxRecDepth 20000 in
def tX2_hasRoom : List (List (Nat × XE)) := [[(0, (.aload 0, 1, (0, 0, 0), 0, 0, [])), (1, (.getfield 0, 3, (2, 0, 9), 0, 0, [])), (4, (.aload 0, 1, (0, 0, 0), 0, 0, [])), (5, (.getfield 0, 3, (2, 2, 18), 0, 0, [])), (8, (.arraylength, 1, (0, 0, 0), 0, 0, [])), (9, (.if_icmp .ge 0, 3, (16, 0, 0), 0, 0, [])), (12, (.iconst 0, 1, (0, 0, 0), 1, 0, [])), (13, (.goto 0, 3, (17, 0, 0), 0, 0, [])), (16, (.iconst 0, 1, (0, 0, 0), 0, 0, [])), (17, (.ireturn, 1, (0, 0, 0), 0, 0, []))]]
set_option maxRecDepth 20000 in
def tX2_append : List (List (Nat × XE)) := [[(0, (.aload 0, 1, (0, 0, 0), 0, 0, [])), (1, (.getfield 0, 3, (2, 0, 9), 0, 0, [])), (4, (.ifCond .lt 0, 3, (39, 0, 0), 0, 0, [])), (7, (.aload 0, 1, (0, 0, 0), 0, 0, [])), (8, (.getfield 0, 3, (2, 0, 9), 0, 0, [])), (11, (.aload 0, 1, (0, 0, 0), 0, 0, [])), (12, (.getfield 0, 3, (2, 2, 18), 0, 0, [])), (15, (.arraylength, 1, (0, 0, 0), 0, 0, [])), (16, (.if_icmp .ge 0, 3, (39, 0, 0), 0, 0, [])), (19, (.aload 0, 1, (0, 0, 0), 0, 0, [])), (20, (.getfield 0, 3, (2, 2, 18), 0, 0, [])), (23, (.aload 0, 1, (0, 0, 0), 0, 0, [])), (24, (.getfield 0, 3, (2, 0, 9), 0, 0, [])), (27, (.iload 0, 1, (1, 0, 0), 0, 0, [])), (28, (.iastore, 1, (0, 0, 0), 0, 0, [])), (29, (.aload 0, 1, (0, 0, 0), 0, 0, [])), (30, (.dup, 1, (0, 0, 0), 0, 0, [])), (31, (.getfield 0, 3, (2, 0, 9), 0, 0, []))],
  [(34, (.iconst 0, 1, (0, 0, 0), 1, 0, [])), (35, (.iadd, 1, (0, 0, 0), 0, 0, [])), (36, (.putfield 0, 3, (2, 0, 9), 0, 0, [])), (39, (.aload 0, 1, (0, 0, 0), 0, 0, [])), (40, (.getfield 0, 3, (2, 0, 9), 0, 0, [])), (43, (.ireturn, 1, (0, 0, 0), 0, 0, []))]]
set_option maxRecDepth 20000 in
def tX2_readInto : List (List (Nat × XE)) := [[(0, (.aload 0, 1, (0, 0, 0), 0, 0, [])), (1, (.iconst 0, 1, (0, 0, 0), 0, 0, [])), (2, (.putfield 0, 3, (2, 3, 22), 0, 0, [])), (5, (.iconst 0, 1, (0, 0, 0), 0, 0, [])), (6, (.istore 0, 1, (2, 0, 0), 0, 0, [])), (7, (.iconst 0, 1, (0, 0, 0), 0, 0, [])), (8, (.istore 0, 1, (3, 0, 0), 0, 0, [])), (9, (.iload 0, 1, (3, 0, 0), 0, 0, [])), (10, (.aload 0, 1, (0, 0, 0), 0, 0, [])), (11, (.getfield 0, 3, (2, 2, 18), 0, 0, [])), (14, (.arraylength, 1, (0, 0, 0), 0, 0, [])), (15, (.if_icmp .gt 0, 3, (60, 0, 0), 0, 0, [])), (18, (.aload 0, 1, (0, 0, 0), 0, 0, [])), (19, (.aload 0, 1, (1, 0, 0), 0, 0, [])), (20, (.invokevirtual 0, 3, (2, 19, 34), 0, 0, [])), (23, (.ifCond .ne 0, 3, (28, 0, 0), 0, 0, [])), (26, (.iconst 0, 1, (0, 0, 0), (-1), 0, [])), (27, (.ireturn, 1, (0, 0, 0), 0, 0, [])), (28, (.iinc 0 0, 3, (2, 0, 0), 1, 0, [])), (31, (.aload 0, 1, (0, 0, 0), 0, 0, []))],
  [(32, (.invokevirtual 0, 3, (1, 28, 38), 0, 0, [])), (35, (.aload 0, 1, (0, 0, 0), 0, 0, [])), (36, (.getfield 0, 3, (2, 4, 25), 0, 0, [])), (39, (.ifCond .ne 0, 3, (44, 0, 0), 0, 0, [])), (42, (.iload 0, 1, (2, 0, 0), 0, 0, [])), (43, (.ireturn, 1, (0, 0, 0), 0, 0, [])), (44, (.aload 0, 1, (0, 0, 0), 0, 0, [])), (45, (.getfield 0, 3, (2, 4, 25), 0, 0, [])), (48, (.iconst 0, 1, (0, 0, 0), 3, 0, [])), (49, (.if_icmp .eq 0, 3, (54, 0, 0), 0, 0, [])), (52, (.iconst 0, 1, (0, 0, 0), (-1), 0, [])), (53, (.ireturn, 1, (0, 0, 0), 0, 0, [])), (54, (.iinc 0 0, 3, (3, 0, 0), 1, 0, [])), (57, (.goto 0, 3, (9, 0, 0), 0, 0, [])), (60, (.iconst 0, 1, (0, 0, 0), (-1), 0, [])), (61, (.ireturn, 1, (0, 0, 0), 0, 0, []))]]
set_option maxRecDepth 20000 in
def tX2_readStatement : List (List (Nat × XE)) := [[(0, (.aload 0, 1, (0, 0, 0), 0, 0, [])), (1, (.invokevirtual 0, 3, (1, 28, 38), 0, 0, [])), (4, (.aload 0, 1, (0, 0, 0), 0, 0, [])), (5, (.getfield 0, 3, (2, 4, 25), 0, 0, [])), (8, (.iconst 0, 1, (0, 0, 0), 1, 0, [])), (9, (.if_icmp .ne 0, 3, (19, 0, 0), 0, 0, [])), (12, (.aload 0, 1, (0, 0, 0), 0, 0, [])), (13, (.invokevirtual 0, 3, (1, 23, 41), 0, 0, [])), (16, (.goto 0, 3, (20, 0, 0), 0, 0, [])), (19, (.iconst 0, 1, (0, 0, 0), (-1), 0, [])), (20, (.istore 0, 1, (2, 0, 0), 0, 0, [])), (21, (.iload 0, 1, (2, 0, 0), 0, 0, [])), (22, (.iconst 0, 1, (0, 0, 0), (-1), 0, [])), (23, (.if_icmp .eq 0, 3, (50, 0, 0), 0, 0, [])), (26, (.iload 0, 1, (2, 0, 0), 0, 0, [])), (27, (.iconst 0, 1, (0, 0, 0), 1, 0, [])), (28, (.if_icmp .ne 0, 3, (38, 0, 0), 0, 0, [])), (31, (.aload 0, 1, (1, 0, 0), 0, 0, []))],
  [(32, (.invokevirtual 0, 3, (1, 46, 45), 0, 0, [])), (35, (.ifCond .eq 0, 3, (50, 0, 0), 0, 0, [])), (38, (.iload 0, 1, (2, 0, 0), 0, 0, [])), (39, (.iconst 0, 1, (0, 0, 0), 2, 0, [])), (40, (.if_icmp .ne 0, 3, (52, 0, 0), 0, 0, [])), (43, (.aload 0, 1, (1, 0, 0), 0, 0, [])), (44, (.invokevirtual 0, 3, (1, 45, 51), 0, 0, [])), (47, (.ifCond .ne 0, 3, (52, 0, 0), 0, 0, [])), (50, (.iconst 0, 1, (0, 0, 0), 0, 0, [])), (51, (.ireturn, 1, (0, 0, 0), 0, 0, [])), (52, (.iload 0, 1, (2, 0, 0), 0, 0, [])), (53, (.invokevirtual 0, 3, (1, 21, 54), 0, 0, [])), (56, (.istore 0, 1, (3, 0, 0), 0, 0, [])), (57, (.iconst 0, 1, (0, 0, 0), 0, 0, [])), (58, (.istore 0, 2, (4, 0, 0), 0, 0, [])), (60, (.iload 0, 2, (4, 0, 0), 0, 0, [])), (62, (.iload 0, 1, (3, 0, 0), 0, 0, [])), (63, (.if_icmp .ge 0, 3, (144, 0, 0), 0, 0, []))],
  [(66, (.iload 0, 2, (4, 0, 0), 0, 0, [])), (68, (.aload 0, 1, (0, 0, 0), 0, 0, [])), (69, (.getfield 0, 3, (2, 6, 31), 0, 0, [])), (72, (.arraylength, 1, (0, 0, 0), 0, 0, [])), (73, (.if_icmp .ge 0, 3, (144, 0, 0), 0, 0, [])), (76, (.aload 0, 1, (0, 0, 0), 0, 0, [])), (77, (.invokevirtual 0, 3, (1, 28, 38), 0, 0, [])), (80, (.iload 0, 1, (2, 0, 0), 0, 0, [])), (81, (.ifCond .ne 0, 3, (91, 0, 0), 0, 0, [])), (84, (.aload 0, 1, (1, 0, 0), 0, 0, [])), (85, (.getfield 0, 3, (5, 0, 58), 0, 0, [])), (88, (.goto 0, 3, (92, 0, 0), 0, 0, [])), (91, (.iconst 0, 1, (0, 0, 0), 0, 0, [])), (92, (.istore 0, 2, (5, 0, 0), 0, 0, [])), (94, (.aload 0, 1, (0, 0, 0), 0, 0, [])), (95, (.getfield 0, 3, (2, 4, 25), 0, 0, []))],
  [(98, (.iconst 0, 1, (0, 0, 0), 2, 0, [])), (99, (.if_icmp .ne 0, 3, (125, 0, 0), 0, 0, [])), (102, (.aload 0, 1, (0, 0, 0), 0, 0, [])), (103, (.getfield 0, 3, (2, 5, 28), 0, 0, [])), (106, (.iload 0, 2, (5, 0, 0), 0, 0, [])), (108, (.if_icmp .lt 0, 3, (125, 0, 0), 0, 0, [])), (111, (.aload 0, 1, (0, 0, 0), 0, 0, [])), (112, (.getfield 0, 3, (2, 5, 28), 0, 0, [])), (115, (.aload 0, 1, (1, 0, 0), 0, 0, [])), (116, (.iload 0, 1, (2, 0, 0), 0, 0, [])), (117, (.iload 0, 2, (4, 0, 0), 0, 0, [])), (119, (.invokevirtual 0, 3, (3, 22, 61), 0, 0, [])), (122, (.if_icmp .le 0, 3, (127, 0, 0), 0, 0, [])), (125, (.iconst 0, 1, (0, 0, 0), 0, 0, [])), (126, (.ireturn, 1, (0, 0, 0), 0, 0, [])), (127, (.aload 0, 1, (0, 0, 0), 0, 0, []))],
  [(128, (.getfield 0, 3, (2, 6, 31), 0, 0, [])), (131, (.iload 0, 2, (4, 0, 0), 0, 0, [])), (133, (.aload 0, 1, (0, 0, 0), 0, 0, [])), (134, (.getfield 0, 3, (2, 5, 28), 0, 0, [])), (137, (.iastore, 1, (0, 0, 0), 0, 0, [])), (138, (.iinc 0 0, 3, (4, 0, 0), 1, 0, [])), (141, (.goto 0, 3, (60, 0, 0), 0, 0, [])), (144, (.aload 0, 1, (0, 0, 0), 0, 0, [])), (145, (.aload 0, 1, (1, 0, 0), 0, 0, [])), (146, (.iload 0, 1, (2, 0, 0), 0, 0, [])), (147, (.invokevirtual 0, 3, (3, 20, 65), 0, 0, [])), (150, (.iconst 0, 1, (0, 0, 0), 1, 0, [])), (151, (.ireturn, 1, (0, 0, 0), 0, 0, []))]]
set_option maxRecDepth 20000 in
def tX2_perform : List (List (Nat × XE)) := [[(0, (.iload 0, 1, (2, 0, 0), 0, 0, [])), (1, (.tableswitch 0 0 0 #[], 35, (139, 0, 0), 0, 0, [(0, 36), (1, 49), (2, 75), (3, 107), (4, 126)]))],
  [(36, (.aload 0, 1, (1, 0, 0), 0, 0, [])), (37, (.aload 0, 1, (0, 0, 0), 0, 0, [])), (38, (.getfield 0, 3, (2, 6, 31), 0, 0, [])), (41, (.iconst 0, 1, (0, 0, 0), 0, 0, [])), (42, (.iaload, 1, (0, 0, 0), 0, 0, [])), (43, (.putfield 0, 3, (5, 0, 58), 0, 0, [])), (46, (.goto 0, 3, (149, 0, 0), 0, 0, [])), (49, (.aload 0, 1, (1, 0, 0), 0, 0, [])), (50, (.aload 0, 1, (0, 0, 0), 0, 0, [])), (51, (.getfield 0, 3, (2, 6, 31), 0, 0, [])), (54, (.iconst 0, 1, (0, 0, 0), 0, 0, [])), (55, (.iaload, 1, (0, 0, 0), 0, 0, [])), (56, (.aload 0, 1, (0, 0, 0), 0, 0, [])), (57, (.getfield 0, 3, (2, 6, 31), 0, 0, [])), (60, (.iconst 0, 1, (0, 0, 0), 1, 0, [])), (61, (.iaload, 1, (0, 0, 0), 0, 0, [])), (62, (.aload 0, 1, (0, 0, 0), 0, 0, [])), (63, (.getfield 0, 3, (2, 6, 31), 0, 0, []))],
  [(66, (.iconst 0, 1, (0, 0, 0), 2, 0, [])), (67, (.iaload, 1, (0, 0, 0), 0, 0, [])), (68, (.invokevirtual 0, 3, (4, 50, 69), 0, 0, [])), (71, (.pop, 1, (0, 0, 0), 0, 0, [])), (72, (.goto 0, 3, (149, 0, 0), 0, 0, [])), (75, (.aload 0, 1, (1, 0, 0), 0, 0, [])), (76, (.aload 0, 1, (0, 0, 0), 0, 0, [])), (77, (.getfield 0, 3, (2, 6, 31), 0, 0, [])), (80, (.iconst 0, 1, (0, 0, 0), 0, 0, [])), (81, (.iaload, 1, (0, 0, 0), 0, 0, [])), (82, (.aload 0, 1, (0, 0, 0), 0, 0, [])), (83, (.getfield 0, 3, (2, 6, 31), 0, 0, [])), (86, (.iconst 0, 1, (0, 0, 0), 1, 0, [])), (87, (.iaload, 1, (0, 0, 0), 0, 0, [])), (88, (.aload 0, 1, (0, 0, 0), 0, 0, [])), (89, (.getfield 0, 3, (2, 6, 31), 0, 0, [])), (92, (.iconst 0, 1, (0, 0, 0), 2, 0, [])), (93, (.iaload, 1, (0, 0, 0), 0, 0, [])), (94, (.aload 0, 1, (0, 0, 0), 0, 0, [])), (95, (.getfield 0, 3, (2, 6, 31), 0, 0, []))],
  [(98, (.iconst 0, 1, (0, 0, 0), 3, 0, [])), (99, (.iaload, 1, (0, 0, 0), 0, 0, [])), (100, (.invokevirtual 0, 3, (5, 49, 73), 0, 0, [])), (103, (.pop, 1, (0, 0, 0), 0, 0, [])), (104, (.goto 0, 3, (149, 0, 0), 0, 0, [])), (107, (.aload 0, 1, (1, 0, 0), 0, 0, [])), (108, (.aload 0, 1, (0, 0, 0), 0, 0, [])), (109, (.getfield 0, 3, (2, 6, 31), 0, 0, [])), (112, (.iconst 0, 1, (0, 0, 0), 0, 0, [])), (113, (.iaload, 1, (0, 0, 0), 0, 0, [])), (114, (.aload 0, 1, (0, 0, 0), 0, 0, [])), (115, (.getfield 0, 3, (2, 6, 31), 0, 0, [])), (118, (.iconst 0, 1, (0, 0, 0), 1, 0, [])), (119, (.iaload, 1, (0, 0, 0), 0, 0, [])), (120, (.invokevirtual 0, 3, (3, 48, 77), 0, 0, [])), (123, (.goto 0, 3, (149, 0, 0), 0, 0, [])), (126, (.aload 0, 1, (1, 0, 0), 0, 0, [])), (127, (.aload 0, 1, (0, 0, 0), 0, 0, []))],
  [(128, (.getfield 0, 3, (2, 6, 31), 0, 0, [])), (131, (.iconst 0, 1, (0, 0, 0), 0, 0, [])), (132, (.iaload, 1, (0, 0, 0), 0, 0, [])), (133, (.putfield 0, 3, (5, 1, 81), 0, 0, [])), (136, (.goto 0, 3, (149, 0, 0), 0, 0, [])), (139, (.aload 0, 1, (1, 0, 0), 0, 0, [])), (140, (.aload 0, 1, (0, 0, 0), 0, 0, [])), (141, (.getfield 0, 3, (2, 6, 31), 0, 0, [])), (144, (.iconst 0, 1, (0, 0, 0), 0, 0, [])), (145, (.iaload, 1, (0, 0, 0), 0, 0, [])), (146, (.putfield 0, 3, (5, 2, 84), 0, 0, [])), (149, (.return_, 1, (0, 0, 0), 0, 0, []))]]
set_option maxRecDepth 20000 in
def tX2_numbersOf : List (List (Nat × XE)) := [[(0, (.iload 0, 1, (0, 0, 0), 0, 0, [])), (1, (.tableswitch 0 0 0 #[], 27, (34, 0, 0), 0, 0, [(1, 28), (2, 30), (3, 32)])), (28, (.iconst 0, 1, (0, 0, 0), 3, 0, [])), (29, (.ireturn, 1, (0, 0, 0), 0, 0, [])), (30, (.iconst 0, 1, (0, 0, 0), 4, 0, [])), (31, (.ireturn, 1, (0, 0, 0), 0, 0, []))],
  [(32, (.iconst 0, 1, (0, 0, 0), 2, 0, [])), (33, (.ireturn, 1, (0, 0, 0), 0, 0, [])), (34, (.iconst 0, 1, (0, 0, 0), 1, 0, [])), (35, (.ireturn, 1, (0, 0, 0), 0, 0, []))]]
set_option maxRecDepth 20000 in
def tX2_mostOf : List (List (Nat × XE)) := [[(0, (.iload 0, 1, (1, 0, 0), 0, 0, [])), (1, (.tableswitch 0 0 0 #[], 35, (120, 0, 0), 0, 0, [(0, 36), (1, 39), (2, 63), (3, 102), (4, 118)]))],
  [(36, (.iconst 0, 2, (0, 0, 0), 30, 0, [])), (38, (.ireturn, 1, (0, 0, 0), 0, 0, [])), (39, (.iload 0, 1, (2, 0, 0), 0, 0, [])), (40, (.ifCond .ne 0, 3, (52, 0, 0), 0, 0, [])), (43, (.aload 0, 1, (0, 0, 0), 0, 0, [])), (44, (.getfield 0, 3, (5, 0, 58), 0, 0, [])), (47, (.iconst 0, 1, (0, 0, 0), 1, 0, [])), (48, (.isub, 1, (0, 0, 0), 0, 0, [])), (49, (.goto 0, 3, (62, 0, 0), 0, 0, [])), (52, (.iload 0, 1, (2, 0, 0), 0, 0, [])), (53, (.iconst 0, 1, (0, 0, 0), 1, 0, [])), (54, (.if_icmp .ne 0, 3, (61, 0, 0), 0, 0, [])), (57, (.iconst 0, 1, (0, 0, 0), 3, 0, [])), (58, (.goto 0, 3, (62, 0, 0), 0, 0, [])), (61, (.iconst 0, 1, (0, 0, 0), 1, 0, [])), (62, (.ireturn, 1, (0, 0, 0), 0, 0, [])), (63, (.iload 0, 1, (2, 0, 0), 0, 0, []))],
  [(64, (.ifCond .ne 0, 3, (71, 0, 0), 0, 0, [])), (67, (.iconst 0, 1, (0, 0, 0), 5, 0, [])), (68, (.goto 0, 3, (101, 0, 0), 0, 0, [])), (71, (.iload 0, 1, (2, 0, 0), 0, 0, [])), (72, (.iconst 0, 1, (0, 0, 0), 1, 0, [])), (73, (.if_icmp .ne 0, 3, (81, 0, 0), 0, 0, [])), (76, (.iconst 0, 2, (0, 0, 0), 9, 0, [])), (78, (.goto 0, 3, (101, 0, 0), 0, 0, [])), (81, (.iload 0, 1, (2, 0, 0), 0, 0, [])), (82, (.iconst 0, 1, (0, 0, 0), 2, 0, [])), (83, (.if_icmp .ne 0, 3, (95, 0, 0), 0, 0, [])), (86, (.aload 0, 1, (0, 0, 0), 0, 0, [])), (87, (.getfield 0, 3, (5, 0, 58), 0, 0, [])), (90, (.iconst 0, 1, (0, 0, 0), 1, 0, [])), (91, (.isub, 1, (0, 0, 0), 0, 0, [])), (92, (.goto 0, 3, (101, 0, 0), 0, 0, [])), (95, (.aload 0, 1, (0, 0, 0), 0, 0, []))],
  [(96, (.getfield 0, 3, (5, 6, 87), 0, 0, [])), (99, (.iconst 0, 1, (0, 0, 0), 1, 0, [])), (100, (.isub, 1, (0, 0, 0), 0, 0, [])), (101, (.ireturn, 1, (0, 0, 0), 0, 0, [])), (102, (.iload 0, 1, (2, 0, 0), 0, 0, [])), (103, (.ifCond .ne 0, 3, (115, 0, 0), 0, 0, [])), (106, (.aload 0, 1, (0, 0, 0), 0, 0, [])), (107, (.getfield 0, 3, (5, 0, 58), 0, 0, [])), (110, (.iconst 0, 1, (0, 0, 0), 1, 0, [])), (111, (.isub, 1, (0, 0, 0), 0, 0, [])), (112, (.goto 0, 3, (117, 0, 0), 0, 0, [])), (115, (.iconst 0, 2, (0, 0, 0), 6, 0, [])), (117, (.ireturn, 1, (0, 0, 0), 0, 0, [])), (118, (.iconst 0, 1, (0, 0, 0), 4, 0, [])), (119, (.ireturn, 1, (0, 0, 0), 0, 0, [])), (120, (.iconst 0, 3, (0, 0, 0), 999, 0, [])), (123, (.ireturn, 1, (0, 0, 0), 0, 0, []))]]
set_option maxRecDepth 20000 in
def tX2_wordNumber : List (List (Nat × XE)) := [[(0, (.aload 0, 1, (0, 0, 0), 0, 0, [])), (1, (.ldc 0, 2, (0, 90, 0), 0, 0, [])), (3, (.invokevirtual 0, 3, (2, 24, 91), 0, 0, [])), (6, (.ifCond .eq 0, 3, (13, 0, 0), 0, 0, [])), (9, (.iconst 0, 1, (0, 0, 0), 0, 0, [])), (10, (.goto 0, 3, (79, 0, 0), 0, 0, [])), (13, (.aload 0, 1, (0, 0, 0), 0, 0, [])), (14, (.ldc 0, 2, (1, 95, 0), 0, 0, [])), (16, (.invokevirtual 0, 3, (2, 24, 91), 0, 0, [])), (19, (.ifCond .eq 0, 3, (26, 0, 0), 0, 0, [])), (22, (.iconst 0, 1, (0, 0, 0), 1, 0, [])), (23, (.goto 0, 3, (79, 0, 0), 0, 0, [])), (26, (.aload 0, 1, (0, 0, 0), 0, 0, [])), (27, (.ldc 0, 2, (2, 97, 0), 0, 0, [])), (29, (.invokevirtual 0, 3, (2, 24, 91), 0, 0, []))],
  [(32, (.ifCond .eq 0, 3, (39, 0, 0), 0, 0, [])), (35, (.iconst 0, 1, (0, 0, 0), 2, 0, [])), (36, (.goto 0, 3, (79, 0, 0), 0, 0, [])), (39, (.aload 0, 1, (0, 0, 0), 0, 0, [])), (40, (.ldc 0, 2, (3, 99, 0), 0, 0, [])), (42, (.invokevirtual 0, 3, (2, 24, 91), 0, 0, [])), (45, (.ifCond .eq 0, 3, (52, 0, 0), 0, 0, [])), (48, (.iconst 0, 1, (0, 0, 0), 3, 0, [])), (49, (.goto 0, 3, (79, 0, 0), 0, 0, [])), (52, (.aload 0, 1, (0, 0, 0), 0, 0, [])), (53, (.ldc 0, 2, (4, 101, 0), 0, 0, [])), (55, (.invokevirtual 0, 3, (2, 24, 91), 0, 0, [])), (58, (.ifCond .eq 0, 3, (65, 0, 0), 0, 0, [])), (61, (.iconst 0, 1, (0, 0, 0), 4, 0, [])), (62, (.goto 0, 3, (79, 0, 0), 0, 0, []))],
  [(65, (.aload 0, 1, (0, 0, 0), 0, 0, [])), (66, (.ldc 0, 2, (5, 102, 0), 0, 0, [])), (68, (.invokevirtual 0, 3, (2, 24, 91), 0, 0, [])), (71, (.ifCond .eq 0, 3, (78, 0, 0), 0, 0, [])), (74, (.iconst 0, 1, (0, 0, 0), 5, 0, [])), (75, (.goto 0, 3, (79, 0, 0), 0, 0, [])), (78, (.iconst 0, 1, (0, 0, 0), (-1), 0, [])), (79, (.ireturn, 1, (0, 0, 0), 0, 0, []))]]
set_option maxRecDepth 20000 in
def tX2_spells : List (List (Nat × XE)) := [[(0, (.aload 0, 1, (0, 0, 0), 0, 0, [])), (1, (.getfield 0, 3, (2, 3, 22), 0, 0, [])), (4, (.aload 0, 1, (0, 0, 0), 0, 0, [])), (5, (.getfield 0, 3, (2, 1, 15), 0, 0, [])), (8, (.isub, 1, (0, 0, 0), 0, 0, [])), (9, (.aload 0, 1, (1, 0, 0), 0, 0, [])), (10, (.invokevirtual 0, 3, (1, 238, 103), 0, 0, [])), (13, (.if_icmp .eq 0, 3, (18, 0, 0), 0, 0, [])), (16, (.iconst 0, 1, (0, 0, 0), 0, 0, [])), (17, (.ireturn, 1, (0, 0, 0), 0, 0, [])), (18, (.iconst 0, 1, (0, 0, 0), 0, 0, [])), (19, (.istore 0, 1, (2, 0, 0), 0, 0, [])), (20, (.iload 0, 1, (2, 0, 0), 0, 0, [])), (21, (.aload 0, 1, (1, 0, 0), 0, 0, [])), (22, (.invokevirtual 0, 3, (1, 238, 103), 0, 0, [])), (25, (.if_icmp .ge 0, 3, (54, 0, 0), 0, 0, [])), (28, (.aload 0, 1, (0, 0, 0), 0, 0, [])), (29, (.aload 0, 1, (0, 0, 0), 0, 0, [])), (30, (.getfield 0, 3, (2, 1, 15), 0, 0, []))],
  [(33, (.iload 0, 1, (2, 0, 0), 0, 0, [])), (34, (.iadd, 1, (0, 0, 0), 0, 0, [])), (35, (.invokevirtual 0, 3, (2, 25, 108), 0, 0, [])), (38, (.aload 0, 1, (1, 0, 0), 0, 0, [])), (39, (.iload 0, 1, (2, 0, 0), 0, 0, [])), (40, (.invokevirtual 0, 3, (2, 239, 111), 0, 0, [])), (43, (.if_icmp .eq 0, 3, (48, 0, 0), 0, 0, [])), (46, (.iconst 0, 1, (0, 0, 0), 0, 0, [])), (47, (.ireturn, 1, (0, 0, 0), 0, 0, [])), (48, (.iinc 0 0, 3, (2, 0, 0), 1, 0, [])), (51, (.goto 0, 3, (20, 0, 0), 0, 0, [])), (54, (.iconst 0, 1, (0, 0, 0), 1, 0, [])), (55, (.ireturn, 1, (0, 0, 0), 0, 0, []))]]
set_option maxRecDepth 20000 in
def tX2_byteAt : List (List (Nat × XE)) := [[(0, (.iload 0, 1, (1, 0, 0), 0, 0, [])), (1, (.ifCond .lt 0, 3, (30, 0, 0), 0, 0, [])), (4, (.iload 0, 1, (1, 0, 0), 0, 0, [])), (5, (.aload 0, 1, (0, 0, 0), 0, 0, [])), (6, (.getfield 0, 3, (2, 0, 9), 0, 0, [])), (9, (.if_icmp .ge 0, 3, (30, 0, 0), 0, 0, [])), (12, (.iload 0, 1, (1, 0, 0), 0, 0, [])), (13, (.aload 0, 1, (0, 0, 0), 0, 0, [])), (14, (.getfield 0, 3, (2, 2, 18), 0, 0, [])), (17, (.arraylength, 1, (0, 0, 0), 0, 0, [])), (18, (.if_icmp .ge 0, 3, (30, 0, 0), 0, 0, [])), (21, (.aload 0, 1, (0, 0, 0), 0, 0, [])), (22, (.getfield 0, 3, (2, 2, 18), 0, 0, [])), (25, (.iload 0, 1, (1, 0, 0), 0, 0, [])), (26, (.iaload, 1, (0, 0, 0), 0, 0, [])), (27, (.goto 0, 3, (31, 0, 0), 0, 0, [])), (30, (.iconst 0, 1, (0, 0, 0), (-1), 0, [])), (31, (.ireturn, 1, (0, 0, 0), 0, 0, []))]]
set_option maxRecDepth 20000 in
def tX2_isLetter : List (List (Nat × XE)) := [[(0, (.iload 0, 1, (0, 0, 0), 0, 0, [])), (1, (.iconst 0, 2, (0, 0, 0), 97, 0, [])), (3, (.if_icmp .lt 0, 3, (16, 0, 0), 0, 0, [])), (6, (.iload 0, 1, (0, 0, 0), 0, 0, [])), (7, (.iconst 0, 2, (0, 0, 0), 122, 0, [])), (9, (.if_icmp .gt 0, 3, (16, 0, 0), 0, 0, [])), (12, (.iconst 0, 1, (0, 0, 0), 1, 0, [])), (13, (.goto 0, 3, (17, 0, 0), 0, 0, [])), (16, (.iconst 0, 1, (0, 0, 0), 0, 0, [])), (17, (.ireturn, 1, (0, 0, 0), 0, 0, []))]]
set_option maxRecDepth 20000 in
def tX2_isDigit : List (List (Nat × XE)) := [[(0, (.iload 0, 1, (0, 0, 0), 0, 0, [])), (1, (.iconst 0, 2, (0, 0, 0), 48, 0, [])), (3, (.if_icmp .lt 0, 3, (16, 0, 0), 0, 0, [])), (6, (.iload 0, 1, (0, 0, 0), 0, 0, [])), (7, (.iconst 0, 2, (0, 0, 0), 57, 0, [])), (9, (.if_icmp .gt 0, 3, (16, 0, 0), 0, 0, [])), (12, (.iconst 0, 1, (0, 0, 0), 1, 0, [])), (13, (.goto 0, 3, (17, 0, 0), 0, 0, [])), (16, (.iconst 0, 1, (0, 0, 0), 0, 0, [])), (17, (.ireturn, 1, (0, 0, 0), 0, 0, []))]]
set_option maxRecDepth 20000 in
def tX2_scan : List (List (Nat × XE)) := [[(0, (.aload 0, 1, (0, 0, 0), 0, 0, [])), (1, (.getfield 0, 3, (2, 3, 22), 0, 0, [])), (4, (.aload 0, 1, (0, 0, 0), 0, 0, [])), (5, (.getfield 0, 3, (2, 0, 9), 0, 0, [])), (8, (.if_icmp .ge 0, 3, (37, 0, 0), 0, 0, [])), (11, (.aload 0, 1, (0, 0, 0), 0, 0, [])), (12, (.aload 0, 1, (0, 0, 0), 0, 0, [])), (13, (.getfield 0, 3, (2, 3, 22), 0, 0, [])), (16, (.invokevirtual 0, 3, (2, 25, 108), 0, 0, [])), (19, (.iconst 0, 2, (0, 0, 0), 32, 0, [])), (21, (.if_icmp .ne 0, 3, (37, 0, 0), 0, 0, [])), (24, (.aload 0, 1, (0, 0, 0), 0, 0, [])), (25, (.dup, 1, (0, 0, 0), 0, 0, [])), (26, (.getfield 0, 3, (2, 3, 22), 0, 0, [])), (29, (.iconst 0, 1, (0, 0, 0), 1, 0, [])), (30, (.iadd, 1, (0, 0, 0), 0, 0, [])), (31, (.putfield 0, 3, (2, 3, 22), 0, 0, []))],
  [(34, (.goto 0, 3, (0, 0, 0), 0, 0, [])), (37, (.aload 0, 1, (0, 0, 0), 0, 0, [])), (38, (.aload 0, 1, (0, 0, 0), 0, 0, [])), (39, (.getfield 0, 3, (2, 3, 22), 0, 0, [])), (42, (.putfield 0, 3, (2, 1, 15), 0, 0, [])), (45, (.aload 0, 1, (0, 0, 0), 0, 0, [])), (46, (.aload 0, 1, (0, 0, 0), 0, 0, [])), (47, (.getfield 0, 3, (2, 3, 22), 0, 0, [])), (50, (.invokevirtual 0, 3, (2, 25, 108), 0, 0, [])), (53, (.istore 0, 1, (1, 0, 0), 0, 0, [])), (54, (.iload 0, 1, (1, 0, 0), 0, 0, [])), (55, (.iconst 0, 1, (0, 0, 0), (-1), 0, [])), (56, (.if_icmp .ne 0, 3, (67, 0, 0), 0, 0, [])), (59, (.aload 0, 1, (0, 0, 0), 0, 0, [])), (60, (.iconst 0, 1, (0, 0, 0), 0, 0, [])), (61, (.putfield 0, 3, (2, 4, 25), 0, 0, []))],
  [(64, (.goto 0, 3, (161, 0, 0), 0, 0, [])), (67, (.iload 0, 1, (1, 0, 0), 0, 0, [])), (68, (.invokevirtual 0, 3, (1, 26, 115), 0, 0, [])), (71, (.ifCond .eq 0, 3, (117, 0, 0), 0, 0, [])), (74, (.aload 0, 1, (0, 0, 0), 0, 0, [])), (75, (.iconst 0, 1, (0, 0, 0), 1, 0, [])), (76, (.putfield 0, 3, (2, 4, 25), 0, 0, [])), (79, (.aload 0, 1, (0, 0, 0), 0, 0, [])), (80, (.getfield 0, 3, (2, 3, 22), 0, 0, [])), (83, (.aload 0, 1, (0, 0, 0), 0, 0, [])), (84, (.getfield 0, 3, (2, 0, 9), 0, 0, [])), (87, (.if_icmp .ge 0, 3, (161, 0, 0), 0, 0, [])), (90, (.aload 0, 1, (0, 0, 0), 0, 0, [])), (91, (.aload 0, 1, (0, 0, 0), 0, 0, [])), (92, (.getfield 0, 3, (2, 3, 22), 0, 0, [])), (95, (.invokevirtual 0, 3, (2, 25, 108), 0, 0, []))],
  [(98, (.invokevirtual 0, 3, (1, 26, 115), 0, 0, [])), (101, (.ifCond .eq 0, 3, (161, 0, 0), 0, 0, [])), (104, (.aload 0, 1, (0, 0, 0), 0, 0, [])), (105, (.dup, 1, (0, 0, 0), 0, 0, [])), (106, (.getfield 0, 3, (2, 3, 22), 0, 0, [])), (109, (.iconst 0, 1, (0, 0, 0), 1, 0, [])), (110, (.iadd, 1, (0, 0, 0), 0, 0, [])), (111, (.putfield 0, 3, (2, 3, 22), 0, 0, [])), (114, (.goto 0, 3, (79, 0, 0), 0, 0, [])), (117, (.iload 0, 1, (1, 0, 0), 0, 0, [])), (118, (.invokevirtual 0, 3, (1, 27, 119), 0, 0, [])), (121, (.ifCond .eq 0, 3, (136, 0, 0), 0, 0, [])), (124, (.aload 0, 1, (0, 0, 0), 0, 0, [])), (125, (.iconst 0, 1, (0, 0, 0), 2, 0, [])), (126, (.putfield 0, 3, (2, 4, 25), 0, 0, []))],
  [(129, (.aload 0, 1, (0, 0, 0), 0, 0, [])), (130, (.invokevirtual 0, 3, (1, 29, 122), 0, 0, [])), (133, (.goto 0, 3, (161, 0, 0), 0, 0, [])), (136, (.aload 0, 1, (0, 0, 0), 0, 0, [])), (137, (.iload 0, 1, (1, 0, 0), 0, 0, [])), (138, (.iconst 0, 2, (0, 0, 0), 59, 0, [])), (140, (.if_icmp .ne 0, 3, (147, 0, 0), 0, 0, [])), (143, (.iconst 0, 1, (0, 0, 0), 3, 0, [])), (144, (.goto 0, 3, (148, 0, 0), 0, 0, [])), (147, (.iconst 0, 1, (0, 0, 0), 4, 0, [])), (148, (.putfield 0, 3, (2, 4, 25), 0, 0, [])), (151, (.aload 0, 1, (0, 0, 0), 0, 0, [])), (152, (.dup, 1, (0, 0, 0), 0, 0, [])), (153, (.getfield 0, 3, (2, 3, 22), 0, 0, [])), (156, (.iconst 0, 1, (0, 0, 0), 1, 0, [])), (157, (.iadd, 1, (0, 0, 0), 0, 0, [])), (158, (.putfield 0, 3, (2, 3, 22), 0, 0, []))],
  [(161, (.return_, 1, (0, 0, 0), 0, 0, []))]]
set_option maxRecDepth 20000 in
def tX2_scanNumber : List (List (Nat × XE)) := [[(0, (.aload 0, 1, (0, 0, 0), 0, 0, [])), (1, (.iconst 0, 1, (0, 0, 0), 0, 0, [])), (2, (.putfield 0, 3, (2, 5, 28), 0, 0, [])), (5, (.aload 0, 1, (0, 0, 0), 0, 0, [])), (6, (.getfield 0, 3, (2, 3, 22), 0, 0, [])), (9, (.aload 0, 1, (0, 0, 0), 0, 0, [])), (10, (.getfield 0, 3, (2, 0, 9), 0, 0, [])), (13, (.if_icmp .ge 0, 3, (83, 0, 0), 0, 0, [])), (16, (.aload 0, 1, (0, 0, 0), 0, 0, [])), (17, (.aload 0, 1, (0, 0, 0), 0, 0, [])), (18, (.getfield 0, 3, (2, 3, 22), 0, 0, [])), (21, (.invokevirtual 0, 3, (2, 25, 108), 0, 0, [])), (24, (.invokevirtual 0, 3, (1, 27, 119), 0, 0, [])), (27, (.ifCond .eq 0, 3, (83, 0, 0), 0, 0, [])), (30, (.aload 0, 1, (0, 0, 0), 0, 0, [])), (31, (.aload 0, 1, (0, 0, 0), 0, 0, []))],
  [(32, (.getfield 0, 3, (2, 3, 22), 0, 0, [])), (35, (.aload 0, 1, (0, 0, 0), 0, 0, [])), (36, (.getfield 0, 3, (2, 1, 15), 0, 0, [])), (39, (.isub, 1, (0, 0, 0), 0, 0, [])), (40, (.iconst 0, 1, (0, 0, 0), 3, 0, [])), (41, (.if_icmp .ge 0, 3, (66, 0, 0), 0, 0, [])), (44, (.iconst 0, 2, (0, 0, 0), 10, 0, [])), (46, (.aload 0, 1, (0, 0, 0), 0, 0, [])), (47, (.getfield 0, 3, (2, 5, 28), 0, 0, [])), (50, (.imul, 1, (0, 0, 0), 0, 0, [])), (51, (.aload 0, 1, (0, 0, 0), 0, 0, [])), (52, (.aload 0, 1, (0, 0, 0), 0, 0, [])), (53, (.getfield 0, 3, (2, 3, 22), 0, 0, [])), (56, (.invokevirtual 0, 3, (2, 25, 108), 0, 0, [])), (59, (.iadd, 1, (0, 0, 0), 0, 0, [])), (60, (.iconst 0, 2, (0, 0, 0), 48, 0, [])), (62, (.isub, 1, (0, 0, 0), 0, 0, [])), (63, (.goto 0, 3, (67, 0, 0), 0, 0, []))],
  [(66, (.iconst 0, 1, (0, 0, 0), (-1), 0, [])), (67, (.putfield 0, 3, (2, 5, 28), 0, 0, [])), (70, (.aload 0, 1, (0, 0, 0), 0, 0, [])), (71, (.dup, 1, (0, 0, 0), 0, 0, [])), (72, (.getfield 0, 3, (2, 3, 22), 0, 0, [])), (75, (.iconst 0, 1, (0, 0, 0), 1, 0, [])), (76, (.iadd, 1, (0, 0, 0), 0, 0, [])), (77, (.putfield 0, 3, (2, 3, 22), 0, 0, [])), (80, (.goto 0, 3, (5, 0, 0), 0, 0, [])), (83, (.return_, 1, (0, 0, 0), 0, 0, []))]]
set_option maxRecDepth 20000 in
def tX3_init : List (List (Nat × XE)) := [[(0, (.aload 0, 1, (0, 0, 0), 0, 0, [])), (1, (.nop, 3, (0, 0, 3), 0, 0, [])), (4, (.aload 0, 1, (0, 0, 0), 0, 0, [])), (5, (.iconst 0, 2, (0, 0, 0), 61, 0, [])), (7, (.newarray .int, 2, (41, 0, 0), 0, 0, [])), (9, (.putfield 0, 3, (3, 0, 9), 0, 0, [])), (12, (.aload 0, 1, (0, 0, 0), 0, 0, [])), (13, (.iconst 0, 2, (0, 0, 0), 61, 0, [])), (15, (.newarray .int, 2, (42, 0, 0), 0, 0, [])), (17, (.putfield 0, 3, (3, 1, 15), 0, 0, [])), (20, (.return_, 1, (0, 0, 0), 0, 0, []))]]
set_option maxRecDepth 20000 in
def tX3_mark : List (List (Nat × XE)) := [[(0, (.iload 0, 1, (1, 0, 0), 0, 0, [])), (1, (.ifCond .lt 0, 3, (42, 0, 0), 0, 0, [])), (4, (.iload 0, 1, (1, 0, 0), 0, 0, [])), (5, (.aload 0, 1, (0, 0, 0), 0, 0, [])), (6, (.getfield 0, 3, (3, 0, 9), 0, 0, [])), (9, (.arraylength, 1, (0, 0, 0), 0, 0, [])), (10, (.if_icmp .ge 0, 3, (42, 0, 0), 0, 0, [])), (13, (.iload 0, 1, (1, 0, 0), 0, 0, [])), (14, (.aload 0, 1, (0, 0, 0), 0, 0, [])), (15, (.getfield 0, 3, (3, 1, 15), 0, 0, [])), (18, (.arraylength, 1, (0, 0, 0), 0, 0, [])), (19, (.if_icmp .ge 0, 3, (42, 0, 0), 0, 0, [])), (22, (.aload 0, 1, (0, 0, 0), 0, 0, [])), (23, (.getfield 0, 3, (3, 0, 9), 0, 0, [])), (26, (.iload 0, 1, (1, 0, 0), 0, 0, [])), (27, (.aload 0, 1, (2, 0, 0), 0, 0, [])), (28, (.getfield 0, 3, (0, 2, 18), 0, 0, [])), (31, (.iastore, 1, (0, 0, 0), 0, 0, []))],
  [(32, (.aload 0, 1, (0, 0, 0), 0, 0, [])), (33, (.getfield 0, 3, (3, 1, 15), 0, 0, [])), (36, (.iload 0, 1, (1, 0, 0), 0, 0, [])), (37, (.aload 0, 1, (2, 0, 0), 0, 0, [])), (38, (.getfield 0, 3, (0, 4, 24), 0, 0, [])), (41, (.iastore, 1, (0, 0, 0), 0, 0, [])), (42, (.return_, 1, (0, 0, 0), 0, 0, []))]]
set_option maxRecDepth 20000 in
def tX3_cellAt : List (List (Nat × XE)) := [[(0, (.iload 0, 1, (1, 0, 0), 0, 0, [])), (1, (.ifCond .lt 0, 3, (22, 0, 0), 0, 0, [])), (4, (.iload 0, 1, (1, 0, 0), 0, 0, [])), (5, (.aload 0, 1, (0, 0, 0), 0, 0, [])), (6, (.getfield 0, 3, (3, 0, 9), 0, 0, [])), (9, (.arraylength, 1, (0, 0, 0), 0, 0, [])), (10, (.if_icmp .ge 0, 3, (22, 0, 0), 0, 0, [])), (13, (.aload 0, 1, (0, 0, 0), 0, 0, [])), (14, (.getfield 0, 3, (3, 0, 9), 0, 0, [])), (17, (.iload 0, 1, (1, 0, 0), 0, 0, [])), (18, (.iaload, 1, (0, 0, 0), 0, 0, [])), (19, (.goto 0, 3, (23, 0, 0), 0, 0, [])), (22, (.iconst 0, 1, (0, 0, 0), (-1), 0, [])), (23, (.ireturn, 1, (0, 0, 0), 0, 0, []))]]
set_option maxRecDepth 20000 in
def tX3_howAt : List (List (Nat × XE)) := [[(0, (.iload 0, 1, (1, 0, 0), 0, 0, [])), (1, (.ifCond .lt 0, 3, (22, 0, 0), 0, 0, [])), (4, (.iload 0, 1, (1, 0, 0), 0, 0, [])), (5, (.aload 0, 1, (0, 0, 0), 0, 0, [])), (6, (.getfield 0, 3, (3, 1, 15), 0, 0, [])), (9, (.arraylength, 1, (0, 0, 0), 0, 0, [])), (10, (.if_icmp .ge 0, 3, (22, 0, 0), 0, 0, [])), (13, (.aload 0, 1, (0, 0, 0), 0, 0, [])), (14, (.getfield 0, 3, (3, 1, 15), 0, 0, [])), (17, (.iload 0, 1, (1, 0, 0), 0, 0, [])), (18, (.iaload, 1, (0, 0, 0), 0, 0, [])), (19, (.goto 0, 3, (23, 0, 0), 0, 0, [])), (22, (.iconst 0, 1, (0, 0, 0), (-1), 0, [])), (23, (.ireturn, 1, (0, 0, 0), 0, 0, []))]]
set_option maxRecDepth 20000 in
def tX3_cellsVisited : List (List (Nat × XE)) := [[(0, (.iconst 0, 1, (0, 0, 0), 0, 0, [])), (1, (.istore 0, 1, (2, 0, 0), 0, 0, [])), (2, (.iconst 0, 1, (0, 0, 0), 0, 0, [])), (3, (.istore 0, 1, (3, 0, 0), 0, 0, [])), (4, (.iload 0, 1, (3, 0, 0), 0, 0, [])), (5, (.iload 0, 1, (1, 0, 0), 0, 0, [])), (6, (.if_icmp .gt 0, 3, (25, 0, 0), 0, 0, [])), (9, (.iload 0, 1, (2, 0, 0), 0, 0, [])), (10, (.iconst 0, 1, (0, 0, 0), 1, 0, [])), (11, (.aload 0, 1, (0, 0, 0), 0, 0, [])), (12, (.iload 0, 1, (3, 0, 0), 0, 0, [])), (13, (.invokevirtual 0, 3, (2, 32, 27), 0, 0, [])), (16, (.ishl, 1, (0, 0, 0), 0, 0, [])), (17, (.ior, 1, (0, 0, 0), 0, 0, [])), (18, (.istore 0, 1, (2, 0, 0), 0, 0, [])), (19, (.iinc 0 0, 3, (3, 0, 0), 1, 0, [])), (22, (.goto 0, 3, (4, 0, 0), 0, 0, [])), (25, (.iload 0, 1, (2, 0, 0), 0, 0, [])), (26, (.ireturn, 1, (0, 0, 0), 0, 0, []))]]
set_option maxRecDepth 20000 in
def tX4_init : List (List (Nat × XE)) := [[(0, (.aload 0, 1, (0, 0, 0), 0, 0, [])), (1, (.nop, 3, (0, 0, 1), 0, 0, [])), (4, (.aload 0, 1, (0, 0, 0), 0, 0, [])), (5, (.iconst 0, 1, (0, 0, 0), 0, 0, [])), (6, (.putfield 0, 3, (4, 0, 7), 0, 0, [])), (9, (.aload 0, 1, (0, 0, 0), 0, 0, [])), (10, (.iconst 0, 1, (0, 0, 0), 0, 0, [])), (11, (.putfield 0, 3, (4, 1, 13), 0, 0, [])), (14, (.aload 0, 1, (0, 0, 0), 0, 0, [])), (15, (.iconst 0, 1, (0, 0, 0), 0, 0, [])), (16, (.putfield 0, 3, (4, 2, 16), 0, 0, [])), (19, (.return_, 1, (0, 0, 0), 0, 0, []))]]
set_option maxRecDepth 20000 in
def tX4_start : List (List (Nat × XE)) := [[(0, (.aload 0, 1, (0, 0, 0), 0, 0, [])), (1, (.iload 0, 1, (1, 0, 0), 0, 0, [])), (2, (.putfield 0, 3, (4, 0, 7), 0, 0, [])), (5, (.aload 0, 1, (0, 0, 0), 0, 0, [])), (6, (.iload 0, 1, (2, 0, 0), 0, 0, [])), (7, (.putfield 0, 3, (4, 1, 13), 0, 0, [])), (10, (.aload 0, 1, (0, 0, 0), 0, 0, [])), (11, (.iload 0, 1, (3, 0, 0), 0, 0, [])), (12, (.putfield 0, 3, (4, 2, 16), 0, 0, [])), (15, (.return_, 1, (0, 0, 0), 0, 0, []))]]
set_option maxRecDepth 20000 in
def tX4_become : List (List (Nat × XE)) := [[(0, (.aload 0, 1, (0, 0, 0), 0, 0, [])), (1, (.aload 0, 1, (1, 0, 0), 0, 0, [])), (2, (.getfield 0, 3, (4, 0, 7), 0, 0, [])), (5, (.aload 0, 1, (1, 0, 0), 0, 0, [])), (6, (.getfield 0, 3, (4, 1, 13), 0, 0, [])), (9, (.aload 0, 1, (1, 0, 0), 0, 0, [])), (10, (.getfield 0, 3, (4, 2, 16), 0, 0, [])), (13, (.invokevirtual 0, 3, (4, 36, 19), 0, 0, [])), (16, (.return_, 1, (0, 0, 0), 0, 0, []))]]
set_option maxRecDepth 20000 in
def tX4_tellOf : List (List (Nat × XE)) := [[(0, (.iload 0, 1, (1, 0, 0), 0, 0, [])), (1, (.ifCond .ne 0, 3, (11, 0, 0), 0, 0, [])), (4, (.aload 0, 1, (0, 0, 0), 0, 0, [])), (5, (.getfield 0, 3, (4, 0, 7), 0, 0, [])), (8, (.goto 0, 3, (27, 0, 0), 0, 0, [])), (11, (.iload 0, 1, (1, 0, 0), 0, 0, [])), (12, (.iconst 0, 1, (0, 0, 0), 1, 0, [])), (13, (.if_icmp .ne 0, 3, (23, 0, 0), 0, 0, [])), (16, (.aload 0, 1, (0, 0, 0), 0, 0, [])), (17, (.getfield 0, 3, (4, 1, 13), 0, 0, [])), (20, (.goto 0, 3, (27, 0, 0), 0, 0, [])), (23, (.aload 0, 1, (0, 0, 0), 0, 0, [])), (24, (.getfield 0, 3, (4, 2, 16), 0, 0, [])), (27, (.ireturn, 1, (0, 0, 0), 0, 0, []))]]
set_option maxRecDepth 20000 in
def tX4_stroll : List (List (Nat × XE)) := [[(0, (.iconst 0, 1, (0, 0, 0), 0, 0, [])), (1, (.istore 0, 1, (2, 0, 0), 0, 0, [])), (2, (.iload 0, 1, (2, 0, 0), 0, 0, [])), (3, (.aload 0, 1, (0, 0, 0), 0, 0, [])), (4, (.getfield 0, 3, (4, 1, 13), 0, 0, [])), (7, (.if_icmp .ge 0, 3, (82, 0, 0), 0, 0, [])), (10, (.aload 0, 1, (0, 0, 0), 0, 0, [])), (11, (.getfield 0, 3, (4, 2, 16), 0, 0, [])), (14, (.ifCond .ne 0, 3, (35, 0, 0), 0, 0, [])), (17, (.aload 0, 1, (0, 0, 0), 0, 0, [])), (18, (.getfield 0, 3, (4, 0, 7), 0, 0, [])), (21, (.iload 0, 1, (1, 0, 0), 0, 0, [])), (22, (.iconst 0, 1, (0, 0, 0), 1, 0, [])), (23, (.isub, 1, (0, 0, 0), 0, 0, [])), (24, (.if_icmp .lt 0, 3, (35, 0, 0), 0, 0, [])), (27, (.aload 0, 1, (0, 0, 0), 0, 0, [])), (28, (.iconst 0, 1, (0, 0, 0), 1, 0, [])), (29, (.putfield 0, 3, (4, 2, 16), 0, 0, []))],
  [(32, (.goto 0, 3, (55, 0, 0), 0, 0, [])), (35, (.aload 0, 1, (0, 0, 0), 0, 0, [])), (36, (.getfield 0, 3, (4, 2, 16), 0, 0, [])), (39, (.iconst 0, 1, (0, 0, 0), 1, 0, [])), (40, (.if_icmp .ne 0, 3, (55, 0, 0), 0, 0, [])), (43, (.aload 0, 1, (0, 0, 0), 0, 0, [])), (44, (.getfield 0, 3, (4, 0, 7), 0, 0, [])), (47, (.ifCond .gt 0, 3, (55, 0, 0), 0, 0, [])), (50, (.aload 0, 1, (0, 0, 0), 0, 0, [])), (51, (.iconst 0, 1, (0, 0, 0), 0, 0, [])), (52, (.putfield 0, 3, (4, 2, 16), 0, 0, [])), (55, (.aload 0, 1, (0, 0, 0), 0, 0, [])), (56, (.dup, 1, (0, 0, 0), 0, 0, [])), (57, (.getfield 0, 3, (4, 0, 7), 0, 0, [])), (60, (.aload 0, 1, (0, 0, 0), 0, 0, [])), (61, (.getfield 0, 3, (4, 2, 16), 0, 0, []))],
  [(64, (.ifCond .ne 0, 3, (71, 0, 0), 0, 0, [])), (67, (.iconst 0, 1, (0, 0, 0), 1, 0, [])), (68, (.goto 0, 3, (72, 0, 0), 0, 0, [])), (71, (.iconst 0, 1, (0, 0, 0), (-1), 0, [])), (72, (.iadd, 1, (0, 0, 0), 0, 0, [])), (73, (.putfield 0, 3, (4, 0, 7), 0, 0, [])), (76, (.iinc 0 0, 3, (2, 0, 0), 1, 0, [])), (79, (.goto 0, 3, (2, 0, 0), 0, 0, [])), (82, (.return_, 1, (0, 0, 0), 0, 0, []))]]
set_option maxRecDepth 20000 in
def tX5_init : List (List (Nat × XE)) := [[(0, (.aload 0, 1, (0, 0, 0), 0, 0, [])), (1, (.nop, 3, (0, 0, 3), 0, 0, [])), (4, (.aload 0, 1, (0, 0, 0), 0, 0, [])), (5, (.iconst 0, 2, (0, 0, 0), 16, 0, [])), (7, (.putfield 0, 3, (5, 0, 9), 0, 0, [])), (10, (.aload 0, 1, (0, 0, 0), 0, 0, [])), (11, (.iconst 0, 1, (0, 0, 0), 2, 0, [])), (12, (.putfield 0, 3, (5, 1, 15), 0, 0, [])), (15, (.aload 0, 1, (0, 0, 0), 0, 0, [])), (16, (.iconst 0, 1, (0, 0, 0), 0, 0, [])), (17, (.putfield 0, 3, (5, 2, 18), 0, 0, [])), (20, (.aload 0, 1, (0, 0, 0), 0, 0, [])), (21, (.iconst 0, 1, (0, 0, 0), 0, 0, [])), (22, (.putfield 0, 3, (5, 3, 21), 0, 0, [])), (25, (.aload 0, 1, (0, 0, 0), 0, 0, [])), (26, (.iconst 0, 1, (0, 0, 0), 1, 0, [])), (27, (.putfield 0, 3, (5, 4, 24), 0, 0, [])), (30, (.aload 0, 1, (0, 0, 0), 0, 0, [])), (31, (.iconst 0, 1, (0, 0, 0), 0, 0, []))],
  [(32, (.putfield 0, 3, (5, 5, 27), 0, 0, [])), (35, (.aload 0, 1, (0, 0, 0), 0, 0, [])), (36, (.iconst 0, 1, (0, 0, 0), 0, 0, [])), (37, (.putfield 0, 3, (5, 6, 30), 0, 0, [])), (40, (.aload 0, 1, (0, 0, 0), 0, 0, [])), (41, (.iconst 0, 2, (0, 0, 0), 30, 0, [])), (43, (.newarray .int, 2, (40, 0, 0), 0, 0, [])), (45, (.putfield 0, 3, (5, 7, 33), 0, 0, [])), (48, (.aload 0, 1, (0, 0, 0), 0, 0, [])), (49, (.iconst 0, 2, (0, 0, 0), 8, 0, [])), (51, (.anewarray 0, 3, (22, 0, 37), 0, 0, [])), (54, (.putfield 0, 3, (5, 8, 39), 0, 0, [])), (57, (.aload 0, 1, (0, 0, 0), 0, 0, [])), (58, (.iconst 0, 2, (0, 0, 0), 6, 0, [])), (60, (.anewarray 0, 3, (24, 0, 43), 0, 0, [])), (63, (.putfield 0, 3, (5, 9, 45), 0, 0, []))],
  [(66, (.aload 0, 1, (0, 0, 0), 0, 0, [])), (67, (.new 0, 3, (0, 0, 37), 0, 0, [])), (70, (.dup, 1, (0, 0, 0), 0, 0, [])), (71, (.invokevirtual 0, 3, (1, 0, 49), 0, 0, [])), (74, (.putfield 0, 3, (5, 10, 50), 0, 0, [])), (77, (.aload 0, 1, (0, 0, 0), 0, 0, [])), (78, (.new 0, 3, (4, 0, 43), 0, 0, [])), (81, (.dup, 1, (0, 0, 0), 0, 0, [])), (82, (.invokevirtual 0, 3, (1, 35, 54), 0, 0, [])), (85, (.putfield 0, 3, (5, 11, 55), 0, 0, [])), (88, (.iconst 0, 1, (0, 0, 0), 0, 0, [])), (89, (.istore 0, 1, (1, 0, 0), 0, 0, [])), (90, (.iload 0, 1, (1, 0, 0), 0, 0, [])), (91, (.aload 0, 1, (0, 0, 0), 0, 0, [])), (92, (.getfield 0, 3, (5, 7, 33), 0, 0, [])), (95, (.arraylength, 1, (0, 0, 0), 0, 0, []))],
  [(96, (.if_icmp .ge 0, 3, (112, 0, 0), 0, 0, [])), (99, (.aload 0, 1, (0, 0, 0), 0, 0, [])), (100, (.getfield 0, 3, (5, 7, 33), 0, 0, [])), (103, (.iload 0, 1, (1, 0, 0), 0, 0, [])), (104, (.iconst 0, 1, (0, 0, 0), 3, 0, [])), (105, (.iastore, 1, (0, 0, 0), 0, 0, [])), (106, (.iinc 0 0, 3, (1, 0, 0), 1, 0, [])), (109, (.goto 0, 3, (90, 0, 0), 0, 0, [])), (112, (.iconst 0, 1, (0, 0, 0), 0, 0, [])), (113, (.istore 0, 1, (1, 0, 0), 0, 0, [])), (114, (.iload 0, 1, (1, 0, 0), 0, 0, [])), (115, (.aload 0, 1, (0, 0, 0), 0, 0, [])), (116, (.getfield 0, 3, (5, 8, 39), 0, 0, [])), (119, (.arraylength, 1, (0, 0, 0), 0, 0, [])), (120, (.if_icmp .ge 0, 3, (142, 0, 0), 0, 0, [])), (123, (.aload 0, 1, (0, 0, 0), 0, 0, [])), (124, (.getfield 0, 3, (5, 8, 39), 0, 0, [])), (127, (.iload 0, 1, (1, 0, 0), 0, 0, []))],
  [(128, (.new 0, 3, (0, 0, 37), 0, 0, [])), (131, (.dup, 1, (0, 0, 0), 0, 0, [])), (132, (.invokevirtual 0, 3, (1, 0, 49), 0, 0, [])), (135, (.aastore, 1, (0, 0, 0), 0, 0, [])), (136, (.iinc 0 0, 3, (1, 0, 0), 1, 0, [])), (139, (.goto 0, 3, (114, 0, 0), 0, 0, [])), (142, (.iconst 0, 1, (0, 0, 0), 0, 0, [])), (143, (.istore 0, 1, (1, 0, 0), 0, 0, [])), (144, (.iload 0, 1, (1, 0, 0), 0, 0, [])), (145, (.aload 0, 1, (0, 0, 0), 0, 0, [])), (146, (.getfield 0, 3, (5, 9, 45), 0, 0, [])), (149, (.arraylength, 1, (0, 0, 0), 0, 0, [])), (150, (.if_icmp .ge 0, 3, (172, 0, 0), 0, 0, [])), (153, (.aload 0, 1, (0, 0, 0), 0, 0, [])), (154, (.getfield 0, 3, (5, 9, 45), 0, 0, [])), (157, (.iload 0, 1, (1, 0, 0), 0, 0, [])), (158, (.new 0, 3, (4, 0, 43), 0, 0, []))],
  [(161, (.dup, 1, (0, 0, 0), 0, 0, [])), (162, (.invokevirtual 0, 3, (1, 35, 54), 0, 0, [])), (165, (.aastore, 1, (0, 0, 0), 0, 0, [])), (166, (.iinc 0 0, 3, (1, 0, 0), 1, 0, [])), (169, (.goto 0, 3, (144, 0, 0), 0, 0, [])), (172, (.return_, 1, (0, 0, 0), 0, 0, []))]]
set_option maxRecDepth 20000 in
def tX5_become : List (List (Nat × XE)) := [[(0, (.aload 0, 1, (0, 0, 0), 0, 0, [])), (1, (.aload 0, 1, (1, 0, 0), 0, 0, [])), (2, (.getfield 0, 3, (5, 0, 9), 0, 0, [])), (5, (.putfield 0, 3, (5, 0, 9), 0, 0, [])), (8, (.aload 0, 1, (0, 0, 0), 0, 0, [])), (9, (.aload 0, 1, (1, 0, 0), 0, 0, [])), (10, (.getfield 0, 3, (5, 1, 15), 0, 0, [])), (13, (.putfield 0, 3, (5, 1, 15), 0, 0, [])), (16, (.aload 0, 1, (0, 0, 0), 0, 0, [])), (17, (.aload 0, 1, (1, 0, 0), 0, 0, [])), (18, (.getfield 0, 3, (5, 2, 18), 0, 0, [])), (21, (.putfield 0, 3, (5, 2, 18), 0, 0, [])), (24, (.aload 0, 1, (0, 0, 0), 0, 0, [])), (25, (.aload 0, 1, (1, 0, 0), 0, 0, [])), (26, (.getfield 0, 3, (5, 3, 21), 0, 0, [])), (29, (.putfield 0, 3, (5, 3, 21), 0, 0, []))],
  [(32, (.aload 0, 1, (0, 0, 0), 0, 0, [])), (33, (.aload 0, 1, (1, 0, 0), 0, 0, [])), (34, (.getfield 0, 3, (5, 4, 24), 0, 0, [])), (37, (.putfield 0, 3, (5, 4, 24), 0, 0, [])), (40, (.aload 0, 1, (0, 0, 0), 0, 0, [])), (41, (.aload 0, 1, (1, 0, 0), 0, 0, [])), (42, (.getfield 0, 3, (5, 5, 27), 0, 0, [])), (45, (.putfield 0, 3, (5, 5, 27), 0, 0, [])), (48, (.aload 0, 1, (0, 0, 0), 0, 0, [])), (49, (.aload 0, 1, (1, 0, 0), 0, 0, [])), (50, (.getfield 0, 3, (5, 6, 30), 0, 0, [])), (53, (.putfield 0, 3, (5, 6, 30), 0, 0, [])), (56, (.iconst 0, 1, (0, 0, 0), 0, 0, [])), (57, (.istore 0, 1, (2, 0, 0), 0, 0, [])), (58, (.iload 0, 1, (2, 0, 0), 0, 0, [])), (59, (.aload 0, 1, (0, 0, 0), 0, 0, [])), (60, (.getfield 0, 3, (5, 7, 33), 0, 0, [])), (63, (.arraylength, 1, (0, 0, 0), 0, 0, []))],
  [(64, (.if_icmp .ge 0, 3, (84, 0, 0), 0, 0, [])), (67, (.aload 0, 1, (0, 0, 0), 0, 0, [])), (68, (.getfield 0, 3, (5, 7, 33), 0, 0, [])), (71, (.iload 0, 1, (2, 0, 0), 0, 0, [])), (72, (.aload 0, 1, (1, 0, 0), 0, 0, [])), (73, (.iload 0, 1, (2, 0, 0), 0, 0, [])), (74, (.invokevirtual 0, 3, (2, 47, 59), 0, 0, [])), (77, (.iastore, 1, (0, 0, 0), 0, 0, [])), (78, (.iinc 0 0, 3, (2, 0, 0), 1, 0, [])), (81, (.goto 0, 3, (58, 0, 0), 0, 0, [])), (84, (.iconst 0, 1, (0, 0, 0), 0, 0, [])), (85, (.istore 0, 1, (2, 0, 0), 0, 0, [])), (86, (.iload 0, 1, (2, 0, 0), 0, 0, [])), (87, (.aload 0, 1, (0, 0, 0), 0, 0, [])), (88, (.getfield 0, 3, (5, 5, 27), 0, 0, [])), (91, (.if_icmp .ge 0, 3, (128, 0, 0), 0, 0, [])), (94, (.aload 0, 1, (0, 0, 0), 0, 0, [])), (95, (.iload 0, 1, (2, 0, 0), 0, 0, []))],
  [(96, (.invokevirtual 0, 3, (2, 42, 63), 0, 0, [])), (99, (.astore 0, 1, (3, 0, 0), 0, 0, [])), (100, (.aload 0, 1, (1, 0, 0), 0, 0, [])), (101, (.iload 0, 1, (2, 0, 0), 0, 0, [])), (102, (.invokevirtual 0, 3, (2, 42, 63), 0, 0, [])), (105, (.astore 0, 2, (4, 0, 0), 0, 0, [])), (107, (.aload 0, 1, (3, 0, 0), 0, 0, [])), (108, (.ifnull 0, 3, (122, 0, 0), 0, 0, [])), (111, (.aload 0, 2, (4, 0, 0), 0, 0, [])), (113, (.ifnull 0, 3, (122, 0, 0), 0, 0, [])), (116, (.aload 0, 1, (3, 0, 0), 0, 0, [])), (117, (.aload 0, 2, (4, 0, 0), 0, 0, [])), (119, (.invokevirtual 0, 3, (2, 2, 67), 0, 0, [])), (122, (.iinc 0 0, 3, (2, 0, 0), 1, 0, [])), (125, (.goto 0, 3, (86, 0, 0), 0, 0, []))],
  [(128, (.iconst 0, 1, (0, 0, 0), 0, 0, [])), (129, (.istore 0, 1, (2, 0, 0), 0, 0, [])), (130, (.iload 0, 1, (2, 0, 0), 0, 0, [])), (131, (.aload 0, 1, (0, 0, 0), 0, 0, [])), (132, (.getfield 0, 3, (5, 6, 30), 0, 0, [])), (135, (.if_icmp .ge 0, 3, (172, 0, 0), 0, 0, [])), (138, (.aload 0, 1, (0, 0, 0), 0, 0, [])), (139, (.iload 0, 1, (2, 0, 0), 0, 0, [])), (140, (.invokevirtual 0, 3, (2, 43, 71), 0, 0, [])), (143, (.astore 0, 1, (3, 0, 0), 0, 0, [])), (144, (.aload 0, 1, (1, 0, 0), 0, 0, [])), (145, (.iload 0, 1, (2, 0, 0), 0, 0, [])), (146, (.invokevirtual 0, 3, (2, 43, 71), 0, 0, [])), (149, (.astore 0, 2, (4, 0, 0), 0, 0, [])), (151, (.aload 0, 1, (3, 0, 0), 0, 0, [])), (152, (.ifnull 0, 3, (166, 0, 0), 0, 0, [])), (155, (.aload 0, 2, (4, 0, 0), 0, 0, [])), (157, (.ifnull 0, 3, (166, 0, 0), 0, 0, []))],
  [(160, (.aload 0, 1, (3, 0, 0), 0, 0, [])), (161, (.aload 0, 2, (4, 0, 0), 0, 0, [])), (163, (.invokevirtual 0, 3, (2, 37, 75), 0, 0, [])), (166, (.iinc 0 0, 3, (2, 0, 0), 1, 0, [])), (169, (.goto 0, 3, (130, 0, 0), 0, 0, [])), (172, (.return_, 1, (0, 0, 0), 0, 0, []))]]
set_option maxRecDepth 20000 in
def tX5_bottleAt : List (List (Nat × XE)) := [[(0, (.iload 0, 1, (1, 0, 0), 0, 0, [])), (1, (.ifCond .lt 0, 3, (30, 0, 0), 0, 0, [])), (4, (.iload 0, 1, (1, 0, 0), 0, 0, [])), (5, (.aload 0, 1, (0, 0, 0), 0, 0, [])), (6, (.getfield 0, 3, (5, 5, 27), 0, 0, [])), (9, (.if_icmp .ge 0, 3, (30, 0, 0), 0, 0, [])), (12, (.iload 0, 1, (1, 0, 0), 0, 0, [])), (13, (.aload 0, 1, (0, 0, 0), 0, 0, [])), (14, (.getfield 0, 3, (5, 8, 39), 0, 0, [])), (17, (.arraylength, 1, (0, 0, 0), 0, 0, [])), (18, (.if_icmp .ge 0, 3, (30, 0, 0), 0, 0, [])), (21, (.aload 0, 1, (0, 0, 0), 0, 0, [])), (22, (.getfield 0, 3, (5, 8, 39), 0, 0, [])), (25, (.iload 0, 1, (1, 0, 0), 0, 0, [])), (26, (.aaload, 1, (0, 0, 0), 0, 0, [])), (27, (.goto 0, 3, (31, 0, 0), 0, 0, [])), (30, (.aconst_null, 1, (0, 0, 0), 0, 0, [])), (31, (.areturn, 1, (0, 0, 0), 0, 0, []))]]
set_option maxRecDepth 20000 in
def tX5_walkerAt : List (List (Nat × XE)) := [[(0, (.iload 0, 1, (1, 0, 0), 0, 0, [])), (1, (.ifCond .lt 0, 3, (30, 0, 0), 0, 0, [])), (4, (.iload 0, 1, (1, 0, 0), 0, 0, [])), (5, (.aload 0, 1, (0, 0, 0), 0, 0, [])), (6, (.getfield 0, 3, (5, 6, 30), 0, 0, [])), (9, (.if_icmp .ge 0, 3, (30, 0, 0), 0, 0, [])), (12, (.iload 0, 1, (1, 0, 0), 0, 0, [])), (13, (.aload 0, 1, (0, 0, 0), 0, 0, [])), (14, (.getfield 0, 3, (5, 9, 45), 0, 0, [])), (17, (.arraylength, 1, (0, 0, 0), 0, 0, [])), (18, (.if_icmp .ge 0, 3, (30, 0, 0), 0, 0, [])), (21, (.aload 0, 1, (0, 0, 0), 0, 0, [])), (22, (.getfield 0, 3, (5, 9, 45), 0, 0, [])), (25, (.iload 0, 1, (1, 0, 0), 0, 0, [])), (26, (.aaload, 1, (0, 0, 0), 0, 0, [])), (27, (.goto 0, 3, (31, 0, 0), 0, 0, [])), (30, (.aconst_null, 1, (0, 0, 0), 0, 0, [])), (31, (.areturn, 1, (0, 0, 0), 0, 0, []))]]
set_option maxRecDepth 20000 in
def tX5_hasCell : List (List (Nat × XE)) := [[(0, (.iload 0, 1, (1, 0, 0), 0, 0, [])), (1, (.ifCond .lt 0, 3, (16, 0, 0), 0, 0, [])), (4, (.iload 0, 1, (1, 0, 0), 0, 0, [])), (5, (.aload 0, 1, (0, 0, 0), 0, 0, [])), (6, (.getfield 0, 3, (5, 0, 9), 0, 0, [])), (9, (.if_icmp .ge 0, 3, (16, 0, 0), 0, 0, [])), (12, (.iconst 0, 1, (0, 0, 0), 1, 0, [])), (13, (.goto 0, 3, (17, 0, 0), 0, 0, [])), (16, (.iconst 0, 1, (0, 0, 0), 0, 0, [])), (17, (.ireturn, 1, (0, 0, 0), 0, 0, []))]]
set_option maxRecDepth 20000 in
def tX5_hasRoomForBottle : List (List (Nat × XE)) := [[(0, (.aload 0, 1, (0, 0, 0), 0, 0, [])), (1, (.getfield 0, 3, (5, 5, 27), 0, 0, [])), (4, (.aload 0, 1, (0, 0, 0), 0, 0, [])), (5, (.getfield 0, 3, (5, 8, 39), 0, 0, [])), (8, (.arraylength, 1, (0, 0, 0), 0, 0, [])), (9, (.if_icmp .ge 0, 3, (16, 0, 0), 0, 0, [])), (12, (.iconst 0, 1, (0, 0, 0), 1, 0, [])), (13, (.goto 0, 3, (17, 0, 0), 0, 0, [])), (16, (.iconst 0, 1, (0, 0, 0), 0, 0, [])), (17, (.ireturn, 1, (0, 0, 0), 0, 0, []))]]
set_option maxRecDepth 20000 in
def tX5_hasRoomForWalker : List (List (Nat × XE)) := [[(0, (.aload 0, 1, (0, 0, 0), 0, 0, [])), (1, (.getfield 0, 3, (5, 6, 30), 0, 0, [])), (4, (.aload 0, 1, (0, 0, 0), 0, 0, [])), (5, (.getfield 0, 3, (5, 9, 45), 0, 0, [])), (8, (.arraylength, 1, (0, 0, 0), 0, 0, [])), (9, (.if_icmp .ge 0, 3, (16, 0, 0), 0, 0, [])), (12, (.iconst 0, 1, (0, 0, 0), 1, 0, [])), (13, (.goto 0, 3, (17, 0, 0), 0, 0, [])), (16, (.iconst 0, 1, (0, 0, 0), 0, 0, [])), (17, (.ireturn, 1, (0, 0, 0), 0, 0, []))]]
set_option maxRecDepth 20000 in
def tX5_flow : List (List (Nat × XE)) := [[(0, (.iload 0, 1, (1, 0, 0), 0, 0, [])), (1, (.ifCond .lt 0, 3, (22, 0, 0), 0, 0, [])), (4, (.iload 0, 1, (1, 0, 0), 0, 0, [])), (5, (.aload 0, 1, (0, 0, 0), 0, 0, [])), (6, (.getfield 0, 3, (5, 7, 33), 0, 0, [])), (9, (.arraylength, 1, (0, 0, 0), 0, 0, [])), (10, (.if_icmp .ge 0, 3, (22, 0, 0), 0, 0, [])), (13, (.aload 0, 1, (0, 0, 0), 0, 0, [])), (14, (.getfield 0, 3, (5, 7, 33), 0, 0, [])), (17, (.iload 0, 1, (1, 0, 0), 0, 0, [])), (18, (.iaload, 1, (0, 0, 0), 0, 0, [])), (19, (.goto 0, 3, (23, 0, 0), 0, 0, [])), (22, (.iconst 0, 1, (0, 0, 0), 3, 0, [])), (23, (.ireturn, 1, (0, 0, 0), 0, 0, []))]]
set_option maxRecDepth 20000 in
def tX5_setFlow : List (List (Nat × XE)) := [[(0, (.iload 0, 1, (1, 0, 0), 0, 0, [])), (1, (.ifCond .lt 0, 3, (20, 0, 0), 0, 0, [])), (4, (.iload 0, 1, (1, 0, 0), 0, 0, [])), (5, (.aload 0, 1, (0, 0, 0), 0, 0, [])), (6, (.getfield 0, 3, (5, 7, 33), 0, 0, [])), (9, (.arraylength, 1, (0, 0, 0), 0, 0, [])), (10, (.if_icmp .ge 0, 3, (20, 0, 0), 0, 0, [])), (13, (.aload 0, 1, (0, 0, 0), 0, 0, [])), (14, (.getfield 0, 3, (5, 7, 33), 0, 0, [])), (17, (.iload 0, 1, (1, 0, 0), 0, 0, [])), (18, (.iload 0, 1, (2, 0, 0), 0, 0, [])), (19, (.iastore, 1, (0, 0, 0), 0, 0, [])), (20, (.return_, 1, (0, 0, 0), 0, 0, []))]]
set_option maxRecDepth 20000 in
def tX5_addBottle : List (List (Nat × XE)) := [[(0, (.aload 0, 1, (0, 0, 0), 0, 0, [])), (1, (.getfield 0, 3, (5, 5, 27), 0, 0, [])), (4, (.istore 0, 2, (5, 0, 0), 0, 0, [])), (6, (.aload 0, 1, (0, 0, 0), 0, 0, [])), (7, (.invokevirtual 0, 3, (1, 45, 78), 0, 0, [])), (10, (.ifCond .ne 0, 3, (15, 0, 0), 0, 0, [])), (13, (.iconst 0, 1, (0, 0, 0), (-1), 0, [])), (14, (.ireturn, 1, (0, 0, 0), 0, 0, [])), (15, (.aload 0, 1, (0, 0, 0), 0, 0, [])), (16, (.dup, 1, (0, 0, 0), 0, 0, [])), (17, (.getfield 0, 3, (5, 5, 27), 0, 0, [])), (20, (.iconst 0, 1, (0, 0, 0), 1, 0, [])), (21, (.iadd, 1, (0, 0, 0), 0, 0, [])), (22, (.putfield 0, 3, (5, 5, 27), 0, 0, [])), (25, (.aload 0, 1, (0, 0, 0), 0, 0, [])), (26, (.iload 0, 2, (5, 0, 0), 0, 0, [])), (28, (.invokevirtual 0, 3, (2, 42, 63), 0, 0, [])), (31, (.astore 0, 2, (6, 0, 0), 0, 0, []))],
  [(33, (.aload 0, 2, (6, 0, 0), 0, 0, [])), (35, (.ifnull 0, 3, (48, 0, 0), 0, 0, [])), (38, (.aload 0, 2, (6, 0, 0), 0, 0, [])), (40, (.iload 0, 1, (1, 0, 0), 0, 0, [])), (41, (.iload 0, 1, (2, 0, 0), 0, 0, [])), (42, (.iload 0, 1, (3, 0, 0), 0, 0, [])), (43, (.iload 0, 2, (4, 0, 0), 0, 0, [])), (45, (.invokevirtual 0, 3, (5, 1, 82), 0, 0, [])), (48, (.iload 0, 2, (5, 0, 0), 0, 0, [])), (50, (.ireturn, 1, (0, 0, 0), 0, 0, []))]]
set_option maxRecDepth 20000 in
def tX5_addWalker : List (List (Nat × XE)) := [[(0, (.aload 0, 1, (0, 0, 0), 0, 0, [])), (1, (.getfield 0, 3, (5, 6, 30), 0, 0, [])), (4, (.istore 0, 2, (4, 0, 0), 0, 0, [])), (6, (.aload 0, 1, (0, 0, 0), 0, 0, [])), (7, (.invokevirtual 0, 3, (1, 46, 86), 0, 0, [])), (10, (.ifCond .ne 0, 3, (15, 0, 0), 0, 0, [])), (13, (.iconst 0, 1, (0, 0, 0), (-1), 0, [])), (14, (.ireturn, 1, (0, 0, 0), 0, 0, [])), (15, (.aload 0, 1, (0, 0, 0), 0, 0, [])), (16, (.dup, 1, (0, 0, 0), 0, 0, [])), (17, (.getfield 0, 3, (5, 6, 30), 0, 0, [])), (20, (.iconst 0, 1, (0, 0, 0), 1, 0, [])), (21, (.iadd, 1, (0, 0, 0), 0, 0, [])), (22, (.putfield 0, 3, (5, 6, 30), 0, 0, [])), (25, (.aload 0, 1, (0, 0, 0), 0, 0, [])), (26, (.iload 0, 2, (4, 0, 0), 0, 0, [])), (28, (.invokevirtual 0, 3, (2, 43, 71), 0, 0, [])), (31, (.astore 0, 2, (5, 0, 0), 0, 0, []))],
  [(33, (.aload 0, 2, (5, 0, 0), 0, 0, [])), (35, (.ifnull 0, 3, (46, 0, 0), 0, 0, [])), (38, (.aload 0, 2, (5, 0, 0), 0, 0, [])), (40, (.iload 0, 1, (1, 0, 0), 0, 0, [])), (41, (.iload 0, 1, (2, 0, 0), 0, 0, [])), (42, (.iload 0, 1, (3, 0, 0), 0, 0, [])), (43, (.invokevirtual 0, 3, (4, 36, 89), 0, 0, [])), (46, (.iload 0, 2, (4, 0, 0), 0, 0, [])), (48, (.ireturn, 1, (0, 0, 0), 0, 0, []))]]
set_option maxRecDepth 20000 in
def tX5_addressedTo : List (List (Nat × XE)) := [[(0, (.iconst 0, 1, (0, 0, 0), 0, 0, [])), (1, (.istore 0, 1, (2, 0, 0), 0, 0, [])), (2, (.iconst 0, 1, (0, 0, 0), 0, 0, [])), (3, (.istore 0, 1, (3, 0, 0), 0, 0, [])), (4, (.iload 0, 1, (3, 0, 0), 0, 0, [])), (5, (.aload 0, 1, (0, 0, 0), 0, 0, [])), (6, (.getfield 0, 3, (5, 5, 27), 0, 0, [])), (9, (.if_icmp .ge 0, 3, (45, 0, 0), 0, 0, [])), (12, (.aload 0, 1, (0, 0, 0), 0, 0, [])), (13, (.iload 0, 1, (3, 0, 0), 0, 0, [])), (14, (.invokevirtual 0, 3, (2, 42, 63), 0, 0, [])), (17, (.astore 0, 2, (4, 0, 0), 0, 0, [])), (19, (.aload 0, 2, (4, 0, 0), 0, 0, [])), (21, (.ifnull 0, 3, (39, 0, 0), 0, 0, [])), (24, (.aload 0, 2, (4, 0, 0), 0, 0, [])), (26, (.getfield 0, 3, (0, 3, 92), 0, 0, [])), (29, (.iload 0, 1, (1, 0, 0), 0, 0, [])), (30, (.if_icmp .ne 0, 3, (39, 0, 0), 0, 0, []))],
  [(33, (.iload 0, 1, (2, 0, 0), 0, 0, [])), (34, (.iconst 0, 1, (0, 0, 0), 1, 0, [])), (35, (.iload 0, 1, (3, 0, 0), 0, 0, [])), (36, (.ishl, 1, (0, 0, 0), 0, 0, [])), (37, (.ior, 1, (0, 0, 0), 0, 0, [])), (38, (.istore 0, 1, (2, 0, 0), 0, 0, [])), (39, (.iinc 0 0, 3, (3, 0, 0), 1, 0, [])), (42, (.goto 0, 3, (4, 0, 0), 0, 0, [])), (45, (.iload 0, 1, (2, 0, 0), 0, 0, [])), (46, (.ireturn, 1, (0, 0, 0), 0, 0, []))]]
set_option maxRecDepth 20000 in
def tX5_afloatIn : List (List (Nat × XE)) := [[(0, (.iconst 0, 1, (0, 0, 0), 0, 0, [])), (1, (.istore 0, 1, (2, 0, 0), 0, 0, [])), (2, (.iconst 0, 1, (0, 0, 0), 0, 0, [])), (3, (.istore 0, 1, (3, 0, 0), 0, 0, [])), (4, (.iload 0, 1, (3, 0, 0), 0, 0, [])), (5, (.aload 0, 1, (0, 0, 0), 0, 0, [])), (6, (.getfield 0, 3, (5, 5, 27), 0, 0, [])), (9, (.if_icmp .ge 0, 3, (53, 0, 0), 0, 0, [])), (12, (.aload 0, 1, (0, 0, 0), 0, 0, [])), (13, (.iload 0, 1, (3, 0, 0), 0, 0, [])), (14, (.invokevirtual 0, 3, (2, 42, 63), 0, 0, [])), (17, (.astore 0, 2, (4, 0, 0), 0, 0, [])), (19, (.aload 0, 2, (4, 0, 0), 0, 0, [])), (21, (.ifnull 0, 3, (47, 0, 0), 0, 0, [])), (24, (.aload 0, 2, (4, 0, 0), 0, 0, [])), (26, (.getfield 0, 3, (0, 4, 95), 0, 0, [])), (29, (.ifCond .ne 0, 3, (47, 0, 0), 0, 0, []))],
  [(32, (.aload 0, 2, (4, 0, 0), 0, 0, [])), (34, (.getfield 0, 3, (0, 2, 98), 0, 0, [])), (37, (.iload 0, 1, (1, 0, 0), 0, 0, [])), (38, (.if_icmp .ne 0, 3, (47, 0, 0), 0, 0, [])), (41, (.iload 0, 1, (2, 0, 0), 0, 0, [])), (42, (.iconst 0, 1, (0, 0, 0), 1, 0, [])), (43, (.iload 0, 1, (3, 0, 0), 0, 0, [])), (44, (.ishl, 1, (0, 0, 0), 0, 0, [])), (45, (.ior, 1, (0, 0, 0), 0, 0, [])), (46, (.istore 0, 1, (2, 0, 0), 0, 0, [])), (47, (.iinc 0 0, 3, (3, 0, 0), 1, 0, [])), (50, (.goto 0, 3, (4, 0, 0), 0, 0, [])), (53, (.iload 0, 1, (2, 0, 0), 0, 0, [])), (54, (.ireturn, 1, (0, 0, 0), 0, 0, []))]]
set_option maxRecDepth 20000 in
def tX5_walkersAt : List (List (Nat × XE)) := [[(0, (.iconst 0, 1, (0, 0, 0), 0, 0, [])), (1, (.istore 0, 1, (2, 0, 0), 0, 0, [])), (2, (.iconst 0, 1, (0, 0, 0), 0, 0, [])), (3, (.istore 0, 1, (3, 0, 0), 0, 0, [])), (4, (.iload 0, 1, (3, 0, 0), 0, 0, [])), (5, (.aload 0, 1, (0, 0, 0), 0, 0, [])), (6, (.getfield 0, 3, (5, 6, 30), 0, 0, [])), (9, (.if_icmp .ge 0, 3, (45, 0, 0), 0, 0, [])), (12, (.aload 0, 1, (0, 0, 0), 0, 0, [])), (13, (.iload 0, 1, (3, 0, 0), 0, 0, [])), (14, (.invokevirtual 0, 3, (2, 43, 71), 0, 0, [])), (17, (.astore 0, 2, (4, 0, 0), 0, 0, [])), (19, (.aload 0, 2, (4, 0, 0), 0, 0, [])), (21, (.ifnull 0, 3, (39, 0, 0), 0, 0, [])), (24, (.aload 0, 2, (4, 0, 0), 0, 0, [])), (26, (.getfield 0, 3, (4, 0, 101), 0, 0, [])), (29, (.iload 0, 1, (1, 0, 0), 0, 0, [])), (30, (.if_icmp .ne 0, 3, (39, 0, 0), 0, 0, []))],
  [(33, (.iload 0, 1, (2, 0, 0), 0, 0, [])), (34, (.iconst 0, 1, (0, 0, 0), 1, 0, [])), (35, (.iload 0, 1, (3, 0, 0), 0, 0, [])), (36, (.ishl, 1, (0, 0, 0), 0, 0, [])), (37, (.ior, 1, (0, 0, 0), 0, 0, [])), (38, (.istore 0, 1, (2, 0, 0), 0, 0, [])), (39, (.iinc 0 0, 3, (3, 0, 0), 1, 0, [])), (42, (.goto 0, 3, (4, 0, 0), 0, 0, [])), (45, (.iload 0, 1, (2, 0, 0), 0, 0, [])), (46, (.ireturn, 1, (0, 0, 0), 0, 0, []))]]
set_option maxRecDepth 20000 in
def tX5_dayBehind : List (List (Nat × XE)) := [[(0, (.iconst 0, 3, (0, 0, 0), 999, 0, [])), (3, (.aload 0, 1, (0, 0, 0), 0, 0, [])), (4, (.getfield 0, 3, (5, 2, 18), 0, 0, [])), (7, (.iload 0, 1, (1, 0, 0), 0, 0, [])), (8, (.iadd, 1, (0, 0, 0), 0, 0, [])), (9, (.dsub, 3, (0, 0, 104), 0, 0, [])), (12, (.ireturn, 1, (0, 0, 0), 0, 0, []))]]
set_option maxRecDepth 20000 in
def tX5_push : List (List (Nat × XE)) := [[(0, (.aload 0, 1, (0, 0, 0), 0, 0, [])), (1, (.aload 0, 1, (1, 0, 0), 0, 0, [])), (2, (.getfield 0, 3, (0, 2, 98), 0, 0, [])), (5, (.invokevirtual 0, 3, (2, 47, 59), 0, 0, [])), (8, (.iconst 0, 1, (0, 0, 0), 3, 0, [])), (9, (.isub, 1, (0, 0, 0), 0, 0, [])), (10, (.istore 0, 1, (3, 0, 0), 0, 0, [])), (11, (.aload 0, 1, (0, 0, 0), 0, 0, [])), (12, (.getfield 0, 3, (5, 1, 15), 0, 0, [])), (15, (.iconst 0, 1, (0, 0, 0), 2, 0, [])), (16, (.isub, 1, (0, 0, 0), 0, 0, [])), (17, (.istore 0, 2, (4, 0, 0), 0, 0, [])), (19, (.aload 0, 1, (1, 0, 0), 0, 0, [])), (20, (.getfield 0, 3, (0, 0, 110), 0, 0, [])), (23, (.tableswitch 0 0 0 #[], 29, (89, 0, 0), 0, 0, [(1, 52), (2, 66), (3, 54), (4, 73)]))],
  [(52, (.iload 0, 1, (3, 0, 0), 0, 0, [])), (53, (.ireturn, 1, (0, 0, 0), 0, 0, [])), (54, (.iload 0, 1, (2, 0, 0), 0, 0, [])), (55, (.iconst 0, 1, (0, 0, 0), 2, 0, [])), (56, (.irem, 1, (0, 0, 0), 0, 0, [])), (57, (.ifCond .ne 0, 3, (64, 0, 0), 0, 0, [])), (60, (.iload 0, 1, (3, 0, 0), 0, 0, [])), (61, (.goto 0, 3, (65, 0, 0), 0, 0, []))],
  [(64, (.iconst 0, 1, (0, 0, 0), 0, 0, [])), (65, (.ireturn, 1, (0, 0, 0), 0, 0, [])), (66, (.iload 0, 1, (3, 0, 0), 0, 0, [])), (67, (.iconst 0, 1, (0, 0, 0), 2, 0, [])), (68, (.iload 0, 2, (4, 0, 0), 0, 0, [])), (70, (.imul, 1, (0, 0, 0), 0, 0, [])), (71, (.iadd, 1, (0, 0, 0), 0, 0, [])), (72, (.ireturn, 1, (0, 0, 0), 0, 0, [])), (73, (.iload 0, 1, (3, 0, 0), 0, 0, [])), (74, (.iconst 0, 1, (0, 0, 0), 2, 0, [])), (75, (.iload 0, 2, (4, 0, 0), 0, 0, [])), (77, (.imul, 1, (0, 0, 0), 0, 0, [])), (78, (.iadd, 1, (0, 0, 0), 0, 0, [])), (79, (.aload 0, 1, (1, 0, 0), 0, 0, [])), (80, (.getfield 0, 3, (0, 1, 113), 0, 0, [])), (83, (.iconst 0, 1, (0, 0, 0), 3, 0, [])), (84, (.irem, 1, (0, 0, 0), 0, 0, [])), (85, (.iadd, 1, (0, 0, 0), 0, 0, [])), (86, (.iconst 0, 1, (0, 0, 0), 1, 0, [])), (87, (.isub, 1, (0, 0, 0), 0, 0, [])), (88, (.ireturn, 1, (0, 0, 0), 0, 0, [])), (89, (.iload 0, 1, (3, 0, 0), 0, 0, [])), (90, (.iload 0, 2, (4, 0, 0), 0, 0, [])), (92, (.iadd, 1, (0, 0, 0), 0, 0, [])), (93, (.ireturn, 1, (0, 0, 0), 0, 0, []))]]
set_option maxRecDepth 20000 in
def tX5_spend : List (List (Nat × XE)) := [[(0, (.aload 0, 1, (1, 0, 0), 0, 0, [])), (1, (.getfield 0, 3, (0, 4, 95), 0, 0, [])), (4, (.ifCond .eq 0, 3, (8, 0, 0), 0, 0, [])), (7, (.return_, 1, (0, 0, 0), 0, 0, [])), (8, (.aload 0, 1, (0, 0, 0), 0, 0, [])), (9, (.aload 0, 1, (1, 0, 0), 0, 0, [])), (10, (.iload 0, 1, (2, 0, 0), 0, 0, [])), (11, (.invokevirtual 0, 3, (3, 55, 116), 0, 0, [])), (14, (.istore 0, 2, (4, 0, 0), 0, 0, [])), (16, (.iload 0, 2, (4, 0, 0), 0, 0, [])), (18, (.dneg, 3, (0, 0, 120), 0, 0, [])), (21, (.aload 0, 1, (1, 0, 0), 0, 0, [])), (22, (.getfield 0, 3, (0, 0, 110), 0, 0, [])), (25, (.aload 0, 1, (1, 0, 0), 0, 0, [])), (26, (.getfield 0, 3, (0, 1, 113), 0, 0, [])), (29, (.invokevirtual 0, 3, (2, 123, 123), 0, 0, []))],
  [(32, (.if_icmp .le 0, 3, (41, 0, 0), 0, 0, [])), (35, (.aload 0, 1, (1, 0, 0), 0, 0, [])), (36, (.iconst 0, 1, (0, 0, 0), 2, 0, [])), (37, (.putfield 0, 3, (0, 4, 95), 0, 0, [])), (40, (.return_, 1, (0, 0, 0), 0, 0, [])), (41, (.aload 0, 1, (1, 0, 0), 0, 0, [])), (42, (.iconst 0, 1, (0, 0, 0), 0, 0, [])), (43, (.aload 0, 1, (0, 0, 0), 0, 0, [])), (44, (.getfield 0, 3, (5, 0, 9), 0, 0, [])), (47, (.iconst 0, 1, (0, 0, 0), 1, 0, [])), (48, (.isub, 1, (0, 0, 0), 0, 0, [])), (49, (.aload 0, 1, (1, 0, 0), 0, 0, [])), (50, (.getfield 0, 3, (0, 2, 98), 0, 0, [])), (53, (.iload 0, 2, (4, 0, 0), 0, 0, [])), (55, (.iadd, 1, (0, 0, 0), 0, 0, [])), (56, (.dsub, 3, (0, 0, 104), 0, 0, [])), (59, (.dadd, 3, (0, 0, 126), 0, 0, [])), (62, (.putfield 0, 3, (0, 2, 98), 0, 0, []))],
  [(65, (.aload 0, 1, (1, 0, 0), 0, 0, [])), (66, (.getfield 0, 3, (0, 2, 98), 0, 0, [])), (69, (.iload 0, 1, (3, 0, 0), 0, 0, [])), (70, (.if_icmp .ne 0, 3, (78, 0, 0), 0, 0, [])), (73, (.aload 0, 1, (1, 0, 0), 0, 0, [])), (74, (.iconst 0, 1, (0, 0, 0), 1, 0, [])), (75, (.putfield 0, 3, (0, 4, 95), 0, 0, [])), (78, (.return_, 1, (0, 0, 0), 0, 0, []))]]
set_option maxRecDepth 20000 in
def tX5_follow : List (List (Nat × XE)) := [[(0, (.aload 0, 1, (0, 0, 0), 0, 0, [])), (1, (.getfield 0, 3, (5, 10, 50), 0, 0, [])), (4, (.aload 0, 1, (2, 0, 0), 0, 0, [])), (5, (.invokevirtual 0, 3, (2, 2, 67), 0, 0, [])), (8, (.aload 0, 1, (3, 0, 0), 0, 0, [])), (9, (.ifnull 0, 3, (20, 0, 0), 0, 0, [])), (12, (.aload 0, 1, (0, 0, 0), 0, 0, [])), (13, (.getfield 0, 3, (5, 11, 55), 0, 0, [])), (16, (.aload 0, 1, (3, 0, 0), 0, 0, [])), (17, (.invokevirtual 0, 3, (2, 37, 75), 0, 0, [])), (20, (.aload 0, 1, (1, 0, 0), 0, 0, [])), (21, (.iconst 0, 1, (0, 0, 0), 0, 0, [])), (22, (.aload 0, 1, (0, 0, 0), 0, 0, [])), (23, (.getfield 0, 3, (5, 10, 50), 0, 0, [])), (26, (.invokevirtual 0, 3, (3, 31, 129), 0, 0, [])), (29, (.iconst 0, 1, (0, 0, 0), 1, 0, [])), (30, (.istore 0, 2, (5, 0, 0), 0, 0, []))],
  [(32, (.iload 0, 2, (5, 0, 0), 0, 0, [])), (34, (.iload 0, 2, (4, 0, 0), 0, 0, [])), (36, (.if_icmp .gt 0, 3, (101, 0, 0), 0, 0, [])), (39, (.aload 0, 1, (3, 0, 0), 0, 0, [])), (40, (.ifnull 0, 3, (54, 0, 0), 0, 0, [])), (43, (.aload 0, 1, (0, 0, 0), 0, 0, [])), (44, (.getfield 0, 3, (5, 11, 55), 0, 0, [])), (47, (.aload 0, 1, (0, 0, 0), 0, 0, [])), (48, (.getfield 0, 3, (5, 0, 9), 0, 0, [])), (51, (.invokevirtual 0, 3, (2, 39, 135), 0, 0, [])), (54, (.aload 0, 1, (0, 0, 0), 0, 0, [])), (55, (.aload 0, 1, (0, 0, 0), 0, 0, [])), (56, (.getfield 0, 3, (5, 10, 50), 0, 0, [])), (59, (.aload 0, 1, (0, 0, 0), 0, 0, [])), (60, (.iload 0, 2, (5, 0, 0), 0, 0, [])), (62, (.iconst 0, 1, (0, 0, 0), 1, 0, [])), (63, (.isub, 1, (0, 0, 0), 0, 0, []))],
  [(64, (.invokevirtual 0, 3, (2, 54, 139), 0, 0, [])), (67, (.aload 0, 1, (3, 0, 0), 0, 0, [])), (68, (.ifnonnull 0, 3, (75, 0, 0), 0, 0, [])), (71, (.iconst 0, 1, (0, 0, 0), (-1), 0, [])), (72, (.goto 0, 3, (82, 0, 0), 0, 0, [])), (75, (.aload 0, 1, (0, 0, 0), 0, 0, [])), (76, (.getfield 0, 3, (5, 11, 55), 0, 0, [])), (79, (.getfield 0, 3, (4, 0, 101), 0, 0, [])), (82, (.invokevirtual 0, 3, (4, 56, 142), 0, 0, [])), (85, (.aload 0, 1, (1, 0, 0), 0, 0, [])), (86, (.iload 0, 2, (5, 0, 0), 0, 0, [])), (88, (.aload 0, 1, (0, 0, 0), 0, 0, [])), (89, (.getfield 0, 3, (5, 10, 50), 0, 0, [])), (92, (.invokevirtual 0, 3, (3, 31, 129), 0, 0, [])), (95, (.iinc 0 0, 3, (5, 0, 0), 1, 0, []))],
  [(98, (.goto 0, 3, (32, 0, 0), 0, 0, [])), (101, (.return_, 1, (0, 0, 0), 0, 0, []))]]
set_option maxRecDepth 20000 in
def tX5_soonest : List (List (Nat × XE)) := [[(0, (.aload 0, 1, (1, 0, 0), 0, 0, [])), (1, (.getfield 0, 3, (0, 4, 95), 0, 0, [])), (4, (.iconst 0, 1, (0, 0, 0), 1, 0, [])), (5, (.if_icmp .ne 0, 3, (10, 0, 0), 0, 0, [])), (8, (.iconst 0, 1, (0, 0, 0), 0, 0, [])), (9, (.ireturn, 1, (0, 0, 0), 0, 0, [])), (10, (.aload 0, 1, (2, 0, 0), 0, 0, [])), (11, (.ifnonnull 0, 3, (16, 0, 0), 0, 0, [])), (14, (.iconst 0, 1, (0, 0, 0), (-1), 0, [])), (15, (.ireturn, 1, (0, 0, 0), 0, 0, [])), (16, (.aload 0, 1, (0, 0, 0), 0, 0, [])), (17, (.getfield 0, 3, (5, 10, 50), 0, 0, [])), (20, (.aload 0, 1, (1, 0, 0), 0, 0, [])), (21, (.invokevirtual 0, 3, (2, 2, 67), 0, 0, [])), (24, (.aload 0, 1, (0, 0, 0), 0, 0, [])), (25, (.getfield 0, 3, (5, 11, 55), 0, 0, [])), (28, (.aload 0, 1, (2, 0, 0), 0, 0, [])), (29, (.invokevirtual 0, 3, (2, 37, 75), 0, 0, []))],
  [(32, (.iconst 0, 1, (0, 0, 0), 1, 0, [])), (33, (.istore 0, 2, (4, 0, 0), 0, 0, [])), (35, (.iload 0, 2, (4, 0, 0), 0, 0, [])), (37, (.iload 0, 1, (3, 0, 0), 0, 0, [])), (38, (.if_icmp .gt 0, 3, (105, 0, 0), 0, 0, [])), (41, (.aload 0, 1, (0, 0, 0), 0, 0, [])), (42, (.getfield 0, 3, (5, 10, 50), 0, 0, [])), (45, (.getfield 0, 3, (0, 4, 95), 0, 0, [])), (48, (.ifCond .ne 0, 3, (105, 0, 0), 0, 0, [])), (51, (.aload 0, 1, (0, 0, 0), 0, 0, [])), (52, (.getfield 0, 3, (5, 11, 55), 0, 0, [])), (55, (.aload 0, 1, (0, 0, 0), 0, 0, [])), (56, (.getfield 0, 3, (5, 0, 9), 0, 0, [])), (59, (.invokevirtual 0, 3, (2, 39, 135), 0, 0, [])), (62, (.aload 0, 1, (0, 0, 0), 0, 0, [])), (63, (.aload 0, 1, (0, 0, 0), 0, 0, []))],
  [(64, (.getfield 0, 3, (5, 10, 50), 0, 0, [])), (67, (.aload 0, 1, (0, 0, 0), 0, 0, [])), (68, (.iload 0, 2, (4, 0, 0), 0, 0, [])), (70, (.iconst 0, 1, (0, 0, 0), 1, 0, [])), (71, (.isub, 1, (0, 0, 0), 0, 0, [])), (72, (.invokevirtual 0, 3, (2, 54, 139), 0, 0, [])), (75, (.aload 0, 1, (0, 0, 0), 0, 0, [])), (76, (.getfield 0, 3, (5, 11, 55), 0, 0, [])), (79, (.getfield 0, 3, (4, 0, 101), 0, 0, [])), (82, (.invokevirtual 0, 3, (4, 56, 142), 0, 0, [])), (85, (.aload 0, 1, (0, 0, 0), 0, 0, [])), (86, (.getfield 0, 3, (5, 10, 50), 0, 0, [])), (89, (.getfield 0, 3, (0, 4, 95), 0, 0, [])), (92, (.iconst 0, 1, (0, 0, 0), 1, 0, [])), (93, (.if_icmp .ne 0, 3, (99, 0, 0), 0, 0, []))],
  [(96, (.iload 0, 2, (4, 0, 0), 0, 0, [])), (98, (.ireturn, 1, (0, 0, 0), 0, 0, [])), (99, (.iinc 0 0, 3, (4, 0, 0), 1, 0, [])), (102, (.goto 0, 3, (35, 0, 0), 0, 0, [])), (105, (.iconst 0, 1, (0, 0, 0), (-1), 0, [])), (106, (.ireturn, 1, (0, 0, 0), 0, 0, []))]]
set_option maxRecDepth 20000 in
def tX5_daysTillFound : List (List (Nat × XE)) := [[(0, (.aload 0, 1, (0, 0, 0), 0, 0, [])), (1, (.aload 0, 1, (1, 0, 0), 0, 0, [])), (2, (.aload 0, 1, (0, 0, 0), 0, 0, [])), (3, (.aload 0, 1, (1, 0, 0), 0, 0, [])), (4, (.getfield 0, 3, (0, 3, 92), 0, 0, [])), (7, (.invokevirtual 0, 3, (2, 43, 71), 0, 0, [])), (10, (.iconst 0, 2, (0, 0, 0), 60, 0, [])), (12, (.invokevirtual 0, 3, (4, 58, 146), 0, 0, [])), (15, (.ireturn, 1, (0, 0, 0), 0, 0, []))]]
set_option maxRecDepth 20000 in
def tX5_countFound : List (List (Nat × XE)) := [[(0, (.iconst 0, 1, (0, 0, 0), 0, 0, [])), (1, (.istore 0, 1, (2, 0, 0), 0, 0, [])), (2, (.iconst 0, 1, (0, 0, 0), 0, 0, [])), (3, (.istore 0, 1, (3, 0, 0), 0, 0, [])), (4, (.iload 0, 1, (3, 0, 0), 0, 0, [])), (5, (.aload 0, 1, (0, 0, 0), 0, 0, [])), (6, (.getfield 0, 3, (5, 5, 27), 0, 0, [])), (9, (.if_icmp .ge 0, 3, (61, 0, 0), 0, 0, [])), (12, (.aload 0, 1, (0, 0, 0), 0, 0, [])), (13, (.iload 0, 1, (3, 0, 0), 0, 0, [])), (14, (.invokevirtual 0, 3, (2, 42, 63), 0, 0, [])), (17, (.astore 0, 2, (4, 0, 0), 0, 0, [])), (19, (.aload 0, 2, (4, 0, 0), 0, 0, [])), (21, (.ifnull 0, 3, (55, 0, 0), 0, 0, [])), (24, (.aload 0, 2, (4, 0, 0), 0, 0, [])), (26, (.getfield 0, 3, (0, 4, 95), 0, 0, [])), (29, (.ifCond .ne 0, 3, (55, 0, 0), 0, 0, []))],
  [(32, (.aload 0, 1, (0, 0, 0), 0, 0, [])), (33, (.aload 0, 2, (4, 0, 0), 0, 0, [])), (35, (.aload 0, 1, (0, 0, 0), 0, 0, [])), (36, (.aload 0, 2, (4, 0, 0), 0, 0, [])), (38, (.getfield 0, 3, (0, 3, 92), 0, 0, [])), (41, (.invokevirtual 0, 3, (2, 43, 71), 0, 0, [])), (44, (.iload 0, 1, (1, 0, 0), 0, 0, [])), (45, (.invokevirtual 0, 3, (4, 58, 146), 0, 0, [])), (48, (.iconst 0, 1, (0, 0, 0), (-1), 0, [])), (49, (.if_icmp .eq 0, 3, (55, 0, 0), 0, 0, [])), (52, (.iinc 0 0, 3, (2, 0, 0), 1, 0, [])), (55, (.iinc 0 0, 3, (3, 0, 0), 1, 0, [])), (58, (.goto 0, 3, (4, 0, 0), 0, 0, [])), (61, (.iload 0, 1, (2, 0, 0), 0, 0, [])), (62, (.ireturn, 1, (0, 0, 0), 0, 0, []))]]
set_option maxRecDepth 20000 in
def tX5_passDay : List (List (Nat × XE)) := [[(0, (.iconst 0, 1, (0, 0, 0), 0, 0, [])), (1, (.istore 0, 1, (1, 0, 0), 0, 0, [])), (2, (.iload 0, 1, (1, 0, 0), 0, 0, [])), (3, (.aload 0, 1, (0, 0, 0), 0, 0, [])), (4, (.getfield 0, 3, (5, 6, 30), 0, 0, [])), (7, (.if_icmp .ge 0, 3, (34, 0, 0), 0, 0, [])), (10, (.aload 0, 1, (0, 0, 0), 0, 0, [])), (11, (.iload 0, 1, (1, 0, 0), 0, 0, [])), (12, (.invokevirtual 0, 3, (2, 43, 71), 0, 0, [])), (15, (.astore 0, 1, (2, 0, 0), 0, 0, [])), (16, (.aload 0, 1, (2, 0, 0), 0, 0, [])), (17, (.ifnull 0, 3, (28, 0, 0), 0, 0, [])), (20, (.aload 0, 1, (2, 0, 0), 0, 0, [])), (21, (.aload 0, 1, (0, 0, 0), 0, 0, [])), (22, (.getfield 0, 3, (5, 0, 9), 0, 0, [])), (25, (.invokevirtual 0, 3, (2, 39, 135), 0, 0, [])), (28, (.iinc 0 0, 3, (1, 0, 0), 1, 0, [])), (31, (.goto 0, 3, (2, 0, 0), 0, 0, []))],
  [(34, (.iconst 0, 1, (0, 0, 0), 0, 0, [])), (35, (.istore 0, 1, (1, 0, 0), 0, 0, [])), (36, (.iconst 0, 1, (0, 0, 0), 0, 0, [])), (37, (.istore 0, 1, (2, 0, 0), 0, 0, [])), (38, (.iload 0, 1, (2, 0, 0), 0, 0, [])), (39, (.aload 0, 1, (0, 0, 0), 0, 0, [])), (40, (.getfield 0, 3, (5, 5, 27), 0, 0, [])), (43, (.if_icmp .ge 0, 3, (116, 0, 0), 0, 0, [])), (46, (.aload 0, 1, (0, 0, 0), 0, 0, [])), (47, (.iload 0, 1, (2, 0, 0), 0, 0, [])), (48, (.invokevirtual 0, 3, (2, 42, 63), 0, 0, [])), (51, (.astore 0, 1, (3, 0, 0), 0, 0, [])), (52, (.aload 0, 1, (3, 0, 0), 0, 0, [])), (53, (.ifnull 0, 3, (110, 0, 0), 0, 0, [])), (56, (.aload 0, 1, (3, 0, 0), 0, 0, [])), (57, (.getfield 0, 3, (0, 4, 95), 0, 0, [])), (60, (.ifCond .eq 0, 3, (66, 0, 0), 0, 0, [])), (63, (.goto 0, 3, (110, 0, 0), 0, 0, []))],
  [(66, (.aload 0, 1, (0, 0, 0), 0, 0, [])), (67, (.aload 0, 1, (3, 0, 0), 0, 0, [])), (68, (.getfield 0, 3, (0, 3, 92), 0, 0, [])), (71, (.invokevirtual 0, 3, (2, 43, 71), 0, 0, [])), (74, (.astore 0, 2, (4, 0, 0), 0, 0, [])), (76, (.aload 0, 1, (0, 0, 0), 0, 0, [])), (77, (.aload 0, 1, (3, 0, 0), 0, 0, [])), (78, (.aload 0, 1, (0, 0, 0), 0, 0, [])), (79, (.getfield 0, 3, (5, 2, 18), 0, 0, [])), (82, (.aload 0, 2, (4, 0, 0), 0, 0, [])), (84, (.ifnonnull 0, 3, (91, 0, 0), 0, 0, [])), (87, (.iconst 0, 1, (0, 0, 0), (-1), 0, [])), (88, (.goto 0, 3, (96, 0, 0), 0, 0, [])), (91, (.aload 0, 2, (4, 0, 0), 0, 0, [])), (93, (.getfield 0, 3, (4, 0, 101), 0, 0, []))],
  [(96, (.invokevirtual 0, 3, (4, 56, 142), 0, 0, [])), (99, (.aload 0, 1, (3, 0, 0), 0, 0, [])), (100, (.getfield 0, 3, (0, 4, 95), 0, 0, [])), (103, (.iconst 0, 1, (0, 0, 0), 1, 0, [])), (104, (.if_icmp .ne 0, 3, (110, 0, 0), 0, 0, [])), (107, (.iinc 0 0, 3, (1, 0, 0), 1, 0, [])), (110, (.iinc 0 0, 3, (2, 0, 0), 1, 0, [])), (113, (.goto 0, 3, (38, 0, 0), 0, 0, [])), (116, (.aload 0, 1, (0, 0, 0), 0, 0, [])), (117, (.dup, 1, (0, 0, 0), 0, 0, [])), (118, (.getfield 0, 3, (5, 3, 21), 0, 0, [])), (121, (.iload 0, 1, (1, 0, 0), 0, 0, [])), (122, (.iadd, 1, (0, 0, 0), 0, 0, [])), (123, (.putfield 0, 3, (5, 3, 21), 0, 0, [])), (126, (.aload 0, 1, (0, 0, 0), 0, 0, [])), (127, (.aload 0, 1, (0, 0, 0), 0, 0, []))],
  [(128, (.iconst 0, 1, (0, 0, 0), 1, 0, [])), (129, (.invokevirtual 0, 3, (2, 54, 139), 0, 0, [])), (132, (.putfield 0, 3, (5, 2, 18), 0, 0, [])), (135, (.iload 0, 1, (1, 0, 0), 0, 0, [])), (136, (.ireturn, 1, (0, 0, 0), 0, 0, []))]]
set_option maxRecDepth 20000 in
def tX5_passDrawnDay : List (List (Nat × XE)) := [[(0, (.aload 0, 1, (0, 0, 0), 0, 0, [])), (1, (.aload 0, 1, (0, 0, 0), 0, 0, [])), (2, (.iconst 0, 1, (0, 0, 0), 5, 0, [])), (3, (.invokevirtual 0, 3, (2, 63, 150), 0, 0, [])), (6, (.putfield 0, 3, (5, 1, 15), 0, 0, [])), (9, (.aload 0, 1, (0, 0, 0), 0, 0, [])), (10, (.aload 0, 1, (0, 0, 0), 0, 0, [])), (11, (.aload 0, 1, (0, 0, 0), 0, 0, [])), (12, (.getfield 0, 3, (5, 5, 27), 0, 0, [])), (15, (.invokevirtual 0, 3, (2, 63, 150), 0, 0, [])), (18, (.invokevirtual 0, 3, (2, 42, 63), 0, 0, [])), (21, (.astore 0, 1, (1, 0, 0), 0, 0, [])), (22, (.aload 0, 1, (0, 0, 0), 0, 0, [])), (23, (.aload 0, 1, (0, 0, 0), 0, 0, [])), (24, (.getfield 0, 3, (5, 0, 9), 0, 0, [])), (27, (.invokevirtual 0, 3, (2, 63, 150), 0, 0, [])), (30, (.istore 0, 1, (2, 0, 0), 0, 0, [])), (31, (.aload 0, 1, (1, 0, 0), 0, 0, []))],
  [(32, (.ifnull 0, 3, (52, 0, 0), 0, 0, [])), (35, (.aload 0, 1, (1, 0, 0), 0, 0, [])), (36, (.getfield 0, 3, (0, 4, 95), 0, 0, [])), (39, (.ifCond .eq 0, 3, (52, 0, 0), 0, 0, [])), (42, (.aload 0, 1, (1, 0, 0), 0, 0, [])), (43, (.iconst 0, 1, (0, 0, 0), 0, 0, [])), (44, (.putfield 0, 3, (0, 4, 95), 0, 0, [])), (47, (.aload 0, 1, (1, 0, 0), 0, 0, [])), (48, (.iload 0, 1, (2, 0, 0), 0, 0, [])), (49, (.putfield 0, 3, (0, 2, 98), 0, 0, [])), (52, (.aload 0, 1, (0, 0, 0), 0, 0, [])), (53, (.invokevirtual 0, 3, (1, 61, 153), 0, 0, [])), (56, (.ireturn, 1, (0, 0, 0), 0, 0, []))]]
set_option maxRecDepth 20000 in
def tX5_draw : List (List (Nat × XE)) := [[(0, (.aload 0, 1, (0, 0, 0), 0, 0, [])), (1, (.aload 0, 1, (0, 0, 0), 0, 0, [])), (2, (.getfield 0, 3, (5, 4, 24), 0, 0, [])), (5, (.iconst 0, 2, (157, 1, 0), 1103515245, 0, [])), (7, (.imul, 1, (0, 0, 0), 0, 0, [])), (8, (.iconst 0, 3, (0, 0, 0), 12345, 0, [])), (11, (.iadd, 1, (0, 0, 0), 0, 0, [])), (12, (.putfield 0, 3, (5, 4, 24), 0, 0, [])), (15, (.iload 0, 1, (1, 0, 0), 0, 0, [])), (16, (.ifCond .gt 0, 3, (23, 0, 0), 0, 0, [])), (19, (.iconst 0, 1, (0, 0, 0), 0, 0, [])), (20, (.goto 0, 3, (32, 0, 0), 0, 0, [])), (23, (.aload 0, 1, (0, 0, 0), 0, 0, [])), (24, (.getfield 0, 3, (5, 4, 24), 0, 0, [])), (27, (.iconst 0, 2, (0, 0, 0), 16, 0, [])), (29, (.iushr, 1, (0, 0, 0), 0, 0, [])), (30, (.iload 0, 1, (1, 0, 0), 0, 0, [])), (31, (.irem, 1, (0, 0, 0), 0, 0, []))],
  [(32, (.ireturn, 1, (0, 0, 0), 0, 0, []))]]
set_option maxRecDepth 20000 in
def tX6_init : List (List (Nat × XE)) := [[(0, (.aload 0, 1, (0, 0, 0), 0, 0, [])), (1, (.nop, 3, (0, 0, 1), 0, 0, [])), (4, (.aload 0, 1, (0, 0, 0), 0, 0, [])), (5, (.new 0, 3, (5, 0, 7), 0, 0, [])), (8, (.dup, 1, (0, 0, 0), 0, 0, [])), (9, (.invokevirtual 0, 3, (1, 40, 9), 0, 0, [])), (12, (.putfield 0, 3, (6, 0, 10), 0, 0, [])), (15, (.aload 0, 1, (0, 0, 0), 0, 0, [])), (16, (.new 0, 3, (5, 0, 7), 0, 0, [])), (19, (.dup, 1, (0, 0, 0), 0, 0, [])), (20, (.invokevirtual 0, 3, (1, 40, 9), 0, 0, [])), (23, (.putfield 0, 3, (6, 1, 16), 0, 0, [])), (26, (.aload 0, 1, (0, 0, 0), 0, 0, [])), (27, (.new 0, 3, (5, 0, 7), 0, 0, [])), (30, (.dup, 1, (0, 0, 0), 0, 0, [])), (31, (.invokevirtual 0, 3, (1, 40, 9), 0, 0, []))],
  [(34, (.putfield 0, 3, (6, 2, 19), 0, 0, [])), (37, (.aload 0, 1, (0, 0, 0), 0, 0, [])), (38, (.iconst 0, 1, (0, 0, 0), 0, 0, [])), (39, (.putfield 0, 3, (6, 3, 22), 0, 0, [])), (42, (.aload 0, 1, (0, 0, 0), 0, 0, [])), (43, (.iconst 0, 2, (0, 0, 0), 8, 0, [])), (45, (.anewarray 0, 3, (23, 0, 26), 0, 0, [])), (48, (.putfield 0, 3, (6, 4, 28), 0, 0, [])), (51, (.aload 0, 1, (0, 0, 0), 0, 0, [])), (52, (.new 0, 3, (2, 0, 32), 0, 0, [])), (55, (.dup, 1, (0, 0, 0), 0, 0, [])), (56, (.invokevirtual 0, 3, (1, 15, 34), 0, 0, [])), (59, (.putfield 0, 3, (6, 5, 35), 0, 0, [])), (62, (.aload 0, 1, (0, 0, 0), 0, 0, [])), (63, (.iconst 0, 1, (0, 0, 0), 5, 0, []))],
  [(64, (.newarray .int, 2, (47, 0, 0), 0, 0, [])), (66, (.putfield 0, 3, (6, 6, 39), 0, 0, [])), (69, (.aload 0, 1, (0, 0, 0), 0, 0, [])), (70, (.new 0, 3, (3, 0, 43), 0, 0, [])), (73, (.dup, 1, (0, 0, 0), 0, 0, [])), (74, (.invokevirtual 0, 3, (1, 30, 45), 0, 0, [])), (77, (.putfield 0, 3, (6, 7, 46), 0, 0, [])), (80, (.aload 0, 1, (0, 0, 0), 0, 0, [])), (81, (.new 0, 3, (3, 0, 43), 0, 0, [])), (84, (.dup, 1, (0, 0, 0), 0, 0, [])), (85, (.invokevirtual 0, 3, (1, 30, 45), 0, 0, [])), (88, (.putfield 0, 3, (6, 8, 50), 0, 0, [])), (91, (.aload 0, 1, (0, 0, 0), 0, 0, [])), (92, (.new 0, 3, (0, 0, 53), 0, 0, [])), (95, (.dup, 1, (0, 0, 0), 0, 0, []))],
  [(96, (.invokevirtual 0, 3, (1, 0, 55), 0, 0, [])), (99, (.putfield 0, 3, (6, 9, 56), 0, 0, [])), (102, (.aload 0, 1, (0, 0, 0), 0, 0, [])), (103, (.new 0, 3, (4, 0, 60), 0, 0, [])), (106, (.dup, 1, (0, 0, 0), 0, 0, [])), (107, (.invokevirtual 0, 3, (1, 35, 62), 0, 0, [])), (110, (.putfield 0, 3, (6, 10, 63), 0, 0, [])), (113, (.aload 0, 1, (0, 0, 0), 0, 0, [])), (114, (.new 0, 3, (4, 0, 60), 0, 0, [])), (117, (.dup, 1, (0, 0, 0), 0, 0, [])), (118, (.invokevirtual 0, 3, (1, 35, 62), 0, 0, [])), (121, (.putfield 0, 3, (6, 11, 67), 0, 0, [])), (124, (.aload 0, 1, (0, 0, 0), 0, 0, [])), (125, (.iconst 0, 2, (0, 0, 0), 8, 0, [])), (127, (.newarray .int, 2, (48, 0, 0), 0, 0, []))],
  [(129, (.putfield 0, 3, (6, 12, 70), 0, 0, [])), (132, (.aload 0, 1, (0, 0, 0), 0, 0, [])), (133, (.iconst 0, 2, (0, 0, 0), 8, 0, [])), (135, (.iconst 0, 2, (0, 0, 0), 6, 0, [])), (137, (.multianewarray 0 2, 4, (25, 43, 73), 0, 0, [])), (141, (.putfield 0, 3, (6, 13, 75), 0, 0, [])), (144, (.aload 0, 1, (0, 0, 0), 0, 0, [])), (145, (.iconst 0, 2, (0, 0, 0), 9, 0, [])), (147, (.iconst 0, 2, (0, 0, 0), 64, 0, [])), (149, (.multianewarray 0 2, 4, (26, 44, 73), 0, 0, [])), (153, (.putfield 0, 3, (6, 14, 78), 0, 0, [])), (156, (.iconst 0, 1, (0, 0, 0), 0, 0, [])), (157, (.istore 0, 1, (1, 0, 0), 0, 0, [])), (158, (.iload 0, 1, (1, 0, 0), 0, 0, [])), (159, (.aload 0, 1, (0, 0, 0), 0, 0, []))],
  [(160, (.getfield 0, 3, (6, 4, 28), 0, 0, [])), (163, (.arraylength, 1, (0, 0, 0), 0, 0, [])), (164, (.if_icmp .ge 0, 3, (186, 0, 0), 0, 0, [])), (167, (.aload 0, 1, (0, 0, 0), 0, 0, [])), (168, (.getfield 0, 3, (6, 4, 28), 0, 0, [])), (171, (.iload 0, 1, (1, 0, 0), 0, 0, [])), (172, (.new 0, 3, (1, 0, 26), 0, 0, [])), (175, (.dup, 1, (0, 0, 0), 0, 0, [])), (176, (.invokevirtual 0, 3, (1, 4, 81), 0, 0, [])), (179, (.aastore, 1, (0, 0, 0), 0, 0, [])), (180, (.iinc 0 0, 3, (1, 0, 0), 1, 0, [])), (183, (.goto 0, 3, (158, 0, 0), 0, 0, [])), (186, (.return_, 1, (0, 0, 0), 0, 0, []))]]
set_option maxRecDepth 20000 in
def tX6_row : List (List (Nat × XE)) := [[(0, (.aload 0, 1, (0, 0, 0), 0, 0, [])), (1, (.iload 0, 1, (1, 0, 0), 0, 0, [])), (2, (.invokevirtual 0, 3, (2, 125, 82), 0, 0, [])), (5, (.astore 0, 2, (4, 0, 0), 0, 0, [])), (7, (.aload 0, 2, (4, 0, 0), 0, 0, [])), (9, (.ifnull 0, 3, (31, 0, 0), 0, 0, [])), (12, (.iload 0, 1, (2, 0, 0), 0, 0, [])), (13, (.iconst 0, 1, (0, 0, 0), 0, 0, [])), (14, (.iconst 0, 1, (0, 0, 0), 4, 0, [])), (15, (.invokevirtual 0, 3, (3, 120, 86), 0, 0, [])), (18, (.ifCond .eq 0, 3, (31, 0, 0), 0, 0, [])), (21, (.iload 0, 1, (3, 0, 0), 0, 0, [])), (22, (.iconst 0, 1, (0, 0, 0), 0, 0, [])), (23, (.iconst 0, 2, (0, 0, 0), 40, 0, [])), (25, (.invokevirtual 0, 3, (3, 120, 86), 0, 0, [])), (28, (.ifCond .ne 0, 3, (39, 0, 0), 0, 0, [])), (31, (.aload 0, 1, (0, 0, 0), 0, 0, []))],
  [(32, (.iconst 0, 3, (0, 0, 0), (-1002), 0, [])), (35, (.invokevirtual 0, 3, (2, 124, 90), 0, 0, [])), (38, (.ireturn, 1, (0, 0, 0), 0, 0, [])), (39, (.aload 0, 2, (4, 0, 0), 0, 0, [])), (41, (.iload 0, 1, (2, 0, 0), 0, 0, [])), (42, (.iload 0, 1, (3, 0, 0), 0, 0, [])), (43, (.invokevirtual 0, 3, (3, 11, 94), 0, 0, [])), (46, (.iconst 0, 1, (0, 0, 0), 1, 0, [])), (47, (.ireturn, 1, (0, 0, 0), 0, 0, []))]]
set_option maxRecDepth 20000 in
def tX6_set : List (List (Nat × XE)) := [[(0, (.aload 0, 1, (0, 0, 0), 0, 0, [])), (1, (.iload 0, 1, (1, 0, 0), 0, 0, [])), (2, (.invokevirtual 0, 3, (2, 125, 82), 0, 0, [])), (5, (.astore 0, 2, (5, 0, 0), 0, 0, [])), (7, (.aload 0, 2, (5, 0, 0), 0, 0, [])), (9, (.ifnonnull 0, 3, (20, 0, 0), 0, 0, [])), (12, (.aload 0, 1, (0, 0, 0), 0, 0, [])), (13, (.iconst 0, 3, (0, 0, 0), (-1002), 0, [])), (16, (.invokevirtual 0, 3, (2, 124, 90), 0, 0, [])), (19, (.ireturn, 1, (0, 0, 0), 0, 0, [])), (20, (.aload 0, 2, (5, 0, 0), 0, 0, [])), (22, (.invokevirtual 0, 3, (1, 6, 98), 0, 0, [])), (25, (.ifCond .ne 0, 3, (38, 0, 0), 0, 0, [])), (28, (.aload 0, 1, (0, 0, 0), 0, 0, [])), (29, (.aload 0, 2, (5, 0, 0), 0, 0, [])), (31, (.invokevirtual 0, 3, (1, 8, 102), 0, 0, []))],
  [(34, (.invokevirtual 0, 3, (2, 124, 90), 0, 0, [])), (37, (.ireturn, 1, (0, 0, 0), 0, 0, [])), (38, (.aload 0, 2, (5, 0, 0), 0, 0, [])), (40, (.iload 0, 1, (2, 0, 0), 0, 0, [])), (41, (.invokevirtual 0, 3, (2, 9, 106), 0, 0, [])), (44, (.ifCond .ne 0, 3, (55, 0, 0), 0, 0, [])), (47, (.aload 0, 1, (0, 0, 0), 0, 0, [])), (48, (.iconst 0, 3, (0, 0, 0), (-1002), 0, [])), (51, (.invokevirtual 0, 3, (2, 124, 90), 0, 0, [])), (54, (.ireturn, 1, (0, 0, 0), 0, 0, [])), (55, (.aload 0, 2, (5, 0, 0), 0, 0, [])), (57, (.iload 0, 1, (2, 0, 0), 0, 0, [])), (58, (.lload 0, 1, (3, 0, 0), 0, 0, [])), (59, (.invokevirtual 0, 3, (3, 12, 110), 0, 0, [])), (62, (.iconst 0, 1, (0, 0, 0), 1, 0, [])), (63, (.ireturn, 1, (0, 0, 0), 0, 0, []))]]
set_option maxRecDepth 20000 in
def tX6_copy : List (List (Nat × XE)) := [[(0, (.aload 0, 1, (0, 0, 0), 0, 0, [])), (1, (.iload 0, 1, (1, 0, 0), 0, 0, [])), (2, (.invokevirtual 0, 3, (2, 125, 82), 0, 0, [])), (5, (.astore 0, 2, (6, 0, 0), 0, 0, [])), (7, (.aload 0, 1, (0, 0, 0), 0, 0, [])), (8, (.iload 0, 1, (2, 0, 0), 0, 0, [])), (9, (.invokevirtual 0, 3, (2, 125, 82), 0, 0, [])), (12, (.astore 0, 2, (7, 0, 0), 0, 0, [])), (14, (.aload 0, 2, (6, 0, 0), 0, 0, [])), (16, (.ifnull 0, 3, (24, 0, 0), 0, 0, [])), (19, (.aload 0, 2, (7, 0, 0), 0, 0, [])), (21, (.ifnonnull 0, 3, (32, 0, 0), 0, 0, [])), (24, (.aload 0, 1, (0, 0, 0), 0, 0, [])), (25, (.iconst 0, 3, (0, 0, 0), (-1002), 0, [])), (28, (.invokevirtual 0, 3, (2, 124, 90), 0, 0, [])), (31, (.ireturn, 1, (0, 0, 0), 0, 0, []))],
  [(32, (.aload 0, 2, (6, 0, 0), 0, 0, [])), (34, (.invokevirtual 0, 3, (1, 7, 114), 0, 0, [])), (37, (.ifCond .ne 0, 3, (48, 0, 0), 0, 0, [])), (40, (.aload 0, 2, (7, 0, 0), 0, 0, [])), (42, (.invokevirtual 0, 3, (1, 7, 114), 0, 0, [])), (45, (.ifCond .eq 0, 3, (56, 0, 0), 0, 0, [])), (48, (.aload 0, 1, (0, 0, 0), 0, 0, [])), (49, (.iconst 0, 3, (0, 0, 0), (-1003), 0, [])), (52, (.invokevirtual 0, 3, (2, 124, 90), 0, 0, [])), (55, (.ireturn, 1, (0, 0, 0), 0, 0, [])), (56, (.aload 0, 2, (6, 0, 0), 0, 0, [])), (58, (.invokevirtual 0, 3, (1, 6, 98), 0, 0, [])), (61, (.ifCond .eq 0, 3, (76, 0, 0), 0, 0, []))],
  [(64, (.aload 0, 2, (7, 0, 0), 0, 0, [])), (66, (.invokevirtual 0, 3, (1, 6, 98), 0, 0, [])), (69, (.ifCond .eq 0, 3, (76, 0, 0), 0, 0, [])), (72, (.iconst 0, 1, (0, 0, 0), 1, 0, [])), (73, (.goto 0, 3, (77, 0, 0), 0, 0, [])), (76, (.iconst 0, 1, (0, 0, 0), 0, 0, [])), (77, (.istore 0, 2, (8, 0, 0), 0, 0, [])), (79, (.iload 0, 2, (8, 0, 0), 0, 0, [])), (81, (.ifCond .eq 0, 3, (105, 0, 0), 0, 0, [])), (84, (.aload 0, 2, (6, 0, 0), 0, 0, [])), (86, (.getfield 0, 3, (1, 0, 117), 0, 0, [])), (89, (.aload 0, 2, (7, 0, 0), 0, 0, [])), (91, (.getfield 0, 3, (1, 0, 117), 0, 0, [])), (94, (.if_icmp .eq 0, 3, (105, 0, 0), 0, 0, []))],
  [(97, (.aload 0, 1, (0, 0, 0), 0, 0, [])), (98, (.iconst 0, 3, (0, 0, 0), (-1003), 0, [])), (101, (.invokevirtual 0, 3, (2, 124, 90), 0, 0, [])), (104, (.ireturn, 1, (0, 0, 0), 0, 0, [])), (105, (.iload 0, 2, (8, 0, 0), 0, 0, [])), (107, (.ifCond .ne 0, 3, (118, 0, 0), 0, 0, [])), (110, (.aload 0, 1, (0, 0, 0), 0, 0, [])), (111, (.iconst 0, 3, (0, 0, 0), (-1004), 0, [])), (114, (.invokevirtual 0, 3, (2, 124, 90), 0, 0, [])), (117, (.ireturn, 1, (0, 0, 0), 0, 0, [])), (118, (.aload 0, 2, (6, 0, 0), 0, 0, [])), (120, (.iload 0, 1, (3, 0, 0), 0, 0, [])), (121, (.iload 0, 2, (5, 0, 0), 0, 0, [])), (123, (.invokevirtual 0, 3, (3, 10, 121), 0, 0, [])), (126, (.ifCond .eq 0, 3, (141, 0, 0), 0, 0, []))],
  [(129, (.aload 0, 2, (7, 0, 0), 0, 0, [])), (131, (.iload 0, 2, (4, 0, 0), 0, 0, [])), (133, (.iload 0, 2, (5, 0, 0), 0, 0, [])), (135, (.invokevirtual 0, 3, (3, 10, 121), 0, 0, [])), (138, (.ifCond .ne 0, 3, (149, 0, 0), 0, 0, [])), (141, (.aload 0, 1, (0, 0, 0), 0, 0, [])), (142, (.iconst 0, 3, (0, 0, 0), (-1002), 0, [])), (145, (.invokevirtual 0, 3, (2, 124, 90), 0, 0, [])), (148, (.ireturn, 1, (0, 0, 0), 0, 0, [])), (149, (.aload 0, 2, (6, 0, 0), 0, 0, [])), (151, (.getfield 0, 3, (1, 2, 125), 0, 0, [])), (154, (.iload 0, 1, (3, 0, 0), 0, 0, [])), (155, (.aload 0, 2, (7, 0, 0), 0, 0, [])), (157, (.getfield 0, 3, (1, 2, 125), 0, 0, []))],
  [(160, (.iload 0, 2, (4, 0, 0), 0, 0, [])), (162, (.iload 0, 2, (5, 0, 0), 0, 0, [])), (164, (.dmul, 3, (0, 0, 129), 0, 0, [])), (167, (.iload 0, 2, (5, 0, 0), 0, 0, [])), (169, (.ireturn, 1, (0, 0, 0), 0, 0, []))]]
set_option maxRecDepth 20000 in
def tX6_element : List (List (Nat × XE)) := [[(0, (.aload 0, 1, (0, 0, 0), 0, 0, [])), (1, (.iload 0, 1, (1, 0, 0), 0, 0, [])), (2, (.invokevirtual 0, 3, (2, 125, 82), 0, 0, [])), (5, (.astore 0, 1, (3, 0, 0), 0, 0, [])), (6, (.aload 0, 1, (3, 0, 0), 0, 0, [])), (7, (.ifnonnull 0, 3, (14, 0, 0), 0, 0, [])), (10, (.lconst 0, 1, (0, 0, 0), 0, 0, [])), (11, (.goto 0, 3, (19, 0, 0), 0, 0, [])), (14, (.aload 0, 1, (3, 0, 0), 0, 0, [])), (15, (.iload 0, 1, (2, 0, 0), 0, 0, [])), (16, (.invokevirtual 0, 3, (2, 13, 135), 0, 0, [])), (19, (.lreturn, 1, (0, 0, 0), 0, 0, []))]]
set_option maxRecDepth 20000 in
def tX6_holds : List (List (Nat × XE)) := [[(0, (.aload 0, 1, (0, 0, 0), 0, 0, [])), (1, (.iload 0, 1, (1, 0, 0), 0, 0, [])), (2, (.invokevirtual 0, 3, (2, 125, 82), 0, 0, [])), (5, (.astore 0, 1, (2, 0, 0), 0, 0, [])), (6, (.aload 0, 1, (2, 0, 0), 0, 0, [])), (7, (.ifnonnull 0, 3, (14, 0, 0), 0, 0, [])), (10, (.iconst 0, 1, (0, 0, 0), (-1), 0, [])), (11, (.goto 0, 3, (18, 0, 0), 0, 0, [])), (14, (.aload 0, 1, (2, 0, 0), 0, 0, [])), (15, (.getfield 0, 3, (1, 0, 117), 0, 0, [])), (18, (.ireturn, 1, (0, 0, 0), 0, 0, []))]]
set_option maxRecDepth 20000 in
def tX6_show : List (List (Nat × XE)) := [[(0, (.aload 0, 1, (0, 0, 0), 0, 0, [])), (1, (.iload 0, 1, (1, 0, 0), 0, 0, [])), (2, (.invokevirtual 0, 3, (2, 125, 82), 0, 0, [])), (5, (.astore 0, 1, (3, 0, 0), 0, 0, [])), (6, (.iload 0, 1, (2, 0, 0), 0, 0, [])), (7, (.iconst 0, 1, (0, 0, 0), (-1), 0, [])), (8, (.if_icmp .eq 0, 3, (22, 0, 0), 0, 0, [])), (11, (.aload 0, 1, (0, 0, 0), 0, 0, [])), (12, (.getfield 0, 3, (6, 0, 10), 0, 0, [])), (15, (.iload 0, 1, (2, 0, 0), 0, 0, [])), (16, (.invokevirtual 0, 3, (2, 42, 139), 0, 0, [])), (19, (.ifnull 0, 3, (26, 0, 0), 0, 0, [])), (22, (.iconst 0, 1, (0, 0, 0), 1, 0, [])), (23, (.goto 0, 3, (27, 0, 0), 0, 0, [])), (26, (.iconst 0, 1, (0, 0, 0), 0, 0, [])), (27, (.istore 0, 2, (4, 0, 0), 0, 0, [])), (29, (.aload 0, 1, (3, 0, 0), 0, 0, [])), (30, (.ifnull 0, 3, (38, 0, 0), 0, 0, []))],
  [(33, (.iload 0, 2, (4, 0, 0), 0, 0, [])), (35, (.ifCond .ne 0, 3, (46, 0, 0), 0, 0, [])), (38, (.aload 0, 1, (0, 0, 0), 0, 0, [])), (39, (.iconst 0, 3, (0, 0, 0), (-1002), 0, [])), (42, (.invokevirtual 0, 3, (2, 124, 90), 0, 0, [])), (45, (.ireturn, 1, (0, 0, 0), 0, 0, [])), (46, (.aload 0, 1, (3, 0, 0), 0, 0, [])), (47, (.iload 0, 1, (2, 0, 0), 0, 0, [])), (48, (.iconst 0, 1, (0, 0, 0), (-1), 0, [])), (49, (.if_icmp .ne 0, 3, (56, 0, 0), 0, 0, [])), (52, (.iconst 0, 1, (0, 0, 0), (-1), 0, [])), (53, (.goto 0, 3, (60, 0, 0), 0, 0, [])), (56, (.iconst 0, 2, (0, 0, 0), 10, 0, [])), (58, (.iload 0, 1, (2, 0, 0), 0, 0, [])), (59, (.iadd, 1, (0, 0, 0), 0, 0, [])), (60, (.putfield 0, 3, (1, 0, 117), 0, 0, [])), (63, (.iconst 0, 1, (0, 0, 0), 1, 0, []))],
  [(64, (.ireturn, 1, (0, 0, 0), 0, 0, []))]]
set_option maxRecDepth 20000 in
def tX6_says : List (List (Nat × XE)) := [[(0, (.aload 0, 1, (0, 0, 0), 0, 0, [])), (1, (.iload 0, 1, (1, 0, 0), 0, 0, [])), (2, (.invokevirtual 0, 3, (2, 125, 82), 0, 0, [])), (5, (.astore 0, 1, (3, 0, 0), 0, 0, [])), (6, (.aload 0, 1, (3, 0, 0), 0, 0, [])), (7, (.ifnull 0, 3, (17, 0, 0), 0, 0, [])), (10, (.iload 0, 1, (2, 0, 0), 0, 0, [])), (11, (.invokevirtual 0, 3, (1, 121, 143), 0, 0, [])), (14, (.ifCond .ne 0, 3, (25, 0, 0), 0, 0, [])), (17, (.aload 0, 1, (0, 0, 0), 0, 0, [])), (18, (.iconst 0, 3, (0, 0, 0), (-1002), 0, [])), (21, (.invokevirtual 0, 3, (2, 124, 90), 0, 0, [])), (24, (.ireturn, 1, (0, 0, 0), 0, 0, [])), (25, (.aload 0, 1, (3, 0, 0), 0, 0, [])), (26, (.invokevirtual 0, 3, (1, 6, 98), 0, 0, [])), (29, (.ifCond .eq 0, 3, (40, 0, 0), 0, 0, []))],
  [(32, (.aload 0, 1, (0, 0, 0), 0, 0, [])), (33, (.iconst 0, 3, (0, 0, 0), (-1003), 0, [])), (36, (.invokevirtual 0, 3, (2, 124, 90), 0, 0, [])), (39, (.ireturn, 1, (0, 0, 0), 0, 0, [])), (40, (.aload 0, 1, (3, 0, 0), 0, 0, [])), (41, (.invokevirtual 0, 3, (1, 5, 146), 0, 0, [])), (44, (.ifCond .eq 0, 3, (55, 0, 0), 0, 0, [])), (47, (.aload 0, 1, (0, 0, 0), 0, 0, [])), (48, (.iconst 0, 3, (0, 0, 0), (-1004), 0, [])), (51, (.invokevirtual 0, 3, (2, 124, 90), 0, 0, [])), (54, (.ireturn, 1, (0, 0, 0), 0, 0, [])), (55, (.aload 0, 1, (0, 0, 0), 0, 0, [])), (56, (.getfield 0, 3, (6, 0, 10), 0, 0, [])), (59, (.aload 0, 1, (3, 0, 0), 0, 0, [])), (60, (.getfield 0, 3, (1, 0, 117), 0, 0, [])), (63, (.iconst 0, 2, (0, 0, 0), 10, 0, []))],
  [(65, (.isub, 1, (0, 0, 0), 0, 0, [])), (66, (.invokevirtual 0, 3, (2, 42, 139), 0, 0, [])), (69, (.astore 0, 2, (4, 0, 0), 0, 0, [])), (71, (.aload 0, 2, (4, 0, 0), 0, 0, [])), (73, (.ifnull 0, 3, (88, 0, 0), 0, 0, [])), (76, (.aload 0, 2, (4, 0, 0), 0, 0, [])), (78, (.getfield 0, 3, (0, 0, 149), 0, 0, [])), (81, (.iload 0, 1, (2, 0, 0), 0, 0, [])), (82, (.invokevirtual 0, 3, (2, 122, 152), 0, 0, [])), (85, (.ifCond .ne 0, 3, (96, 0, 0), 0, 0, [])), (88, (.aload 0, 1, (0, 0, 0), 0, 0, [])), (89, (.iconst 0, 3, (0, 0, 0), (-1003), 0, [])), (92, (.invokevirtual 0, 3, (2, 124, 90), 0, 0, [])), (95, (.ireturn, 1, (0, 0, 0), 0, 0, []))],
  [(96, (.iload 0, 1, (2, 0, 0), 0, 0, [])), (97, (.ifCond .ne 0, 3, (108, 0, 0), 0, 0, [])), (100, (.aload 0, 2, (4, 0, 0), 0, 0, [])), (102, (.getfield 0, 3, (0, 2, 155), 0, 0, [])), (105, (.goto 0, 3, (124, 0, 0), 0, 0, [])), (108, (.aload 0, 1, (0, 0, 0), 0, 0, [])), (109, (.getfield 0, 3, (6, 0, 10), 0, 0, [])), (112, (.aload 0, 2, (4, 0, 0), 0, 0, [])), (114, (.aload 0, 1, (0, 0, 0), 0, 0, [])), (115, (.getfield 0, 3, (6, 0, 10), 0, 0, [])), (118, (.getfield 0, 3, (5, 2, 158), 0, 0, [])), (121, (.invokevirtual 0, 3, (3, 55, 161), 0, 0, [])), (124, (.ireturn, 1, (0, 0, 0), 0, 0, []))]]
set_option maxRecDepth 20000 in
def tX6_paves : List (List (Nat × XE)) := [[(0, (.iload 0, 1, (1, 0, 0), 0, 0, [])), (1, (.aload 0, 1, (0, 0, 0), 0, 0, [])), (2, (.getfield 0, 3, (6, 0, 10), 0, 0, [])), (5, (.getfield 0, 3, (5, 0, 165), 0, 0, [])), (8, (.iconst 0, 2, (0, 0, 0), 30, 0, [])), (10, (.invokevirtual 0, 3, (3, 120, 86), 0, 0, [])), (13, (.ifCond .ne 0, 3, (24, 0, 0), 0, 0, [])), (16, (.aload 0, 1, (0, 0, 0), 0, 0, [])), (17, (.iconst 0, 3, (0, 0, 0), (-1002), 0, [])), (20, (.invokevirtual 0, 3, (2, 124, 90), 0, 0, [])), (23, (.ireturn, 1, (0, 0, 0), 0, 0, [])), (24, (.aload 0, 1, (0, 0, 0), 0, 0, [])), (25, (.getfield 0, 3, (6, 0, 10), 0, 0, [])), (28, (.getfield 0, 3, (5, 0, 165), 0, 0, [])), (31, (.istore 0, 1, (2, 0, 0), 0, 0, []))],
  [(32, (.aload 0, 1, (0, 0, 0), 0, 0, [])), (33, (.getfield 0, 3, (6, 0, 10), 0, 0, [])), (36, (.iload 0, 1, (1, 0, 0), 0, 0, [])), (37, (.putfield 0, 3, (5, 0, 165), 0, 0, [])), (40, (.iload 0, 1, (2, 0, 0), 0, 0, [])), (41, (.ireturn, 1, (0, 0, 0), 0, 0, []))]]
set_option maxRecDepth 20000 in
def tX6_walker : List (List (Nat × XE)) := [[(0, (.aload 0, 1, (0, 0, 0), 0, 0, [])), (1, (.getfield 0, 3, (6, 0, 10), 0, 0, [])), (4, (.iload 0, 1, (1, 0, 0), 0, 0, [])), (5, (.invokevirtual 0, 3, (2, 44, 168), 0, 0, [])), (8, (.ifCond .eq 0, 3, (29, 0, 0), 0, 0, [])), (11, (.iload 0, 1, (2, 0, 0), 0, 0, [])), (12, (.iconst 0, 1, (0, 0, 0), 0, 0, [])), (13, (.iconst 0, 1, (0, 0, 0), 3, 0, [])), (14, (.invokevirtual 0, 3, (3, 120, 86), 0, 0, [])), (17, (.ifCond .eq 0, 3, (29, 0, 0), 0, 0, [])), (20, (.iload 0, 1, (3, 0, 0), 0, 0, [])), (21, (.iconst 0, 1, (0, 0, 0), 0, 0, [])), (22, (.iconst 0, 1, (0, 0, 0), 1, 0, [])), (23, (.invokevirtual 0, 3, (3, 120, 86), 0, 0, [])), (26, (.ifCond .ne 0, 3, (37, 0, 0), 0, 0, [])), (29, (.aload 0, 1, (0, 0, 0), 0, 0, [])), (30, (.iconst 0, 3, (0, 0, 0), (-1002), 0, []))],
  [(33, (.invokevirtual 0, 3, (2, 124, 90), 0, 0, [])), (36, (.ireturn, 1, (0, 0, 0), 0, 0, [])), (37, (.aload 0, 1, (0, 0, 0), 0, 0, [])), (38, (.getfield 0, 3, (6, 0, 10), 0, 0, [])), (41, (.invokevirtual 0, 3, (1, 46, 171), 0, 0, [])), (44, (.ifCond .ne 0, 3, (55, 0, 0), 0, 0, [])), (47, (.aload 0, 1, (0, 0, 0), 0, 0, [])), (48, (.iconst 0, 3, (0, 0, 0), (-1006), 0, [])), (51, (.invokevirtual 0, 3, (2, 124, 90), 0, 0, [])), (54, (.ireturn, 1, (0, 0, 0), 0, 0, [])), (55, (.aload 0, 1, (0, 0, 0), 0, 0, [])), (56, (.getfield 0, 3, (6, 0, 10), 0, 0, [])), (59, (.iload 0, 1, (1, 0, 0), 0, 0, [])), (60, (.iload 0, 1, (2, 0, 0), 0, 0, [])), (61, (.iload 0, 1, (3, 0, 0), 0, 0, [])), (62, (.invokevirtual 0, 3, (4, 50, 174), 0, 0, []))],
  [(65, (.ireturn, 1, (0, 0, 0), 0, 0, []))]]
set_option maxRecDepth 20000 in
def tX6_sends : List (List (Nat × XE)) := [[(0, (.aload 0, 1, (0, 0, 0), 0, 0, [])), (1, (.getfield 0, 3, (6, 0, 10), 0, 0, [])), (4, (.iload 0, 1, (1, 0, 0), 0, 0, [])), (5, (.invokevirtual 0, 3, (2, 43, 178), 0, 0, [])), (8, (.astore 0, 2, (4, 0, 0), 0, 0, [])), (10, (.aload 0, 2, (4, 0, 0), 0, 0, [])), (12, (.ifnull 0, 3, (24, 0, 0), 0, 0, [])), (15, (.iload 0, 1, (2, 0, 0), 0, 0, [])), (16, (.iconst 0, 1, (0, 0, 0), 0, 0, [])), (17, (.iconst 0, 1, (0, 0, 0), 2, 0, [])), (18, (.invokevirtual 0, 3, (3, 120, 86), 0, 0, [])), (21, (.ifCond .ne 0, 3, (32, 0, 0), 0, 0, [])), (24, (.aload 0, 1, (0, 0, 0), 0, 0, [])), (25, (.iconst 0, 3, (0, 0, 0), (-1002), 0, [])), (28, (.invokevirtual 0, 3, (2, 124, 90), 0, 0, [])), (31, (.ireturn, 1, (0, 0, 0), 0, 0, []))],
  [(32, (.iload 0, 1, (2, 0, 0), 0, 0, [])), (33, (.ifCond .ne 0, 3, (48, 0, 0), 0, 0, [])), (36, (.aload 0, 1, (0, 0, 0), 0, 0, [])), (37, (.getfield 0, 3, (6, 0, 10), 0, 0, [])), (40, (.getfield 0, 3, (5, 0, 165), 0, 0, [])), (43, (.iconst 0, 1, (0, 0, 0), 1, 0, [])), (44, (.isub, 1, (0, 0, 0), 0, 0, [])), (45, (.goto 0, 3, (58, 0, 0), 0, 0, [])), (48, (.iload 0, 1, (2, 0, 0), 0, 0, [])), (49, (.iconst 0, 1, (0, 0, 0), 1, 0, [])), (50, (.if_icmp .ne 0, 3, (57, 0, 0), 0, 0, [])), (53, (.iconst 0, 1, (0, 0, 0), 3, 0, [])), (54, (.goto 0, 3, (58, 0, 0), 0, 0, [])), (57, (.iconst 0, 1, (0, 0, 0), 1, 0, [])), (58, (.istore 0, 2, (5, 0, 0), 0, 0, [])), (60, (.iload 0, 1, (3, 0, 0), 0, 0, [])), (61, (.iconst 0, 1, (0, 0, 0), 0, 0, [])), (62, (.iload 0, 2, (5, 0, 0), 0, 0, []))],
  [(64, (.invokevirtual 0, 3, (3, 120, 86), 0, 0, [])), (67, (.ifCond .ne 0, 3, (78, 0, 0), 0, 0, [])), (70, (.aload 0, 1, (0, 0, 0), 0, 0, [])), (71, (.iconst 0, 3, (0, 0, 0), (-1002), 0, [])), (74, (.invokevirtual 0, 3, (2, 124, 90), 0, 0, [])), (77, (.ireturn, 1, (0, 0, 0), 0, 0, [])), (78, (.aload 0, 2, (4, 0, 0), 0, 0, [])), (80, (.iload 0, 1, (2, 0, 0), 0, 0, [])), (81, (.invokevirtual 0, 3, (2, 38, 182), 0, 0, [])), (84, (.istore 0, 2, (6, 0, 0), 0, 0, [])), (86, (.iload 0, 1, (2, 0, 0), 0, 0, [])), (87, (.ifCond .ne 0, 3, (99, 0, 0), 0, 0, [])), (90, (.aload 0, 2, (4, 0, 0), 0, 0, [])), (92, (.iload 0, 1, (3, 0, 0), 0, 0, [])), (93, (.putfield 0, 3, (4, 0, 185), 0, 0, []))],
  [(96, (.goto 0, 3, (119, 0, 0), 0, 0, [])), (99, (.iload 0, 1, (2, 0, 0), 0, 0, [])), (100, (.iconst 0, 1, (0, 0, 0), 1, 0, [])), (101, (.if_icmp .ne 0, 3, (113, 0, 0), 0, 0, [])), (104, (.aload 0, 2, (4, 0, 0), 0, 0, [])), (106, (.iload 0, 1, (3, 0, 0), 0, 0, [])), (107, (.putfield 0, 3, (4, 1, 188), 0, 0, [])), (110, (.goto 0, 3, (119, 0, 0), 0, 0, [])), (113, (.aload 0, 2, (4, 0, 0), 0, 0, [])), (115, (.iload 0, 1, (3, 0, 0), 0, 0, [])), (116, (.putfield 0, 3, (4, 2, 191), 0, 0, [])), (119, (.iload 0, 2, (6, 0, 0), 0, 0, [])), (121, (.ireturn, 1, (0, 0, 0), 0, 0, []))]]
set_option maxRecDepth 20000 in
def tX6_current : List (List (Nat × XE)) := [[(0, (.aload 0, 1, (0, 0, 0), 0, 0, [])), (1, (.getfield 0, 3, (6, 0, 10), 0, 0, [])), (4, (.iload 0, 1, (1, 0, 0), 0, 0, [])), (5, (.invokevirtual 0, 3, (2, 44, 168), 0, 0, [])), (8, (.ifCond .eq 0, 3, (21, 0, 0), 0, 0, [])), (11, (.iload 0, 1, (2, 0, 0), 0, 0, [])), (12, (.iconst 0, 1, (0, 0, 0), 0, 0, [])), (13, (.iconst 0, 2, (0, 0, 0), 6, 0, [])), (15, (.invokevirtual 0, 3, (3, 120, 86), 0, 0, [])), (18, (.ifCond .ne 0, 3, (29, 0, 0), 0, 0, [])), (21, (.aload 0, 1, (0, 0, 0), 0, 0, [])), (22, (.iconst 0, 3, (0, 0, 0), (-1002), 0, [])), (25, (.invokevirtual 0, 3, (2, 124, 90), 0, 0, [])), (28, (.ireturn, 1, (0, 0, 0), 0, 0, [])), (29, (.aload 0, 1, (0, 0, 0), 0, 0, [])), (30, (.getfield 0, 3, (6, 0, 10), 0, 0, []))],
  [(33, (.iload 0, 1, (1, 0, 0), 0, 0, [])), (34, (.invokevirtual 0, 3, (2, 47, 194), 0, 0, [])), (37, (.istore 0, 1, (3, 0, 0), 0, 0, [])), (38, (.aload 0, 1, (0, 0, 0), 0, 0, [])), (39, (.getfield 0, 3, (6, 0, 10), 0, 0, [])), (42, (.iload 0, 1, (1, 0, 0), 0, 0, [])), (43, (.iload 0, 1, (2, 0, 0), 0, 0, [])), (44, (.invokevirtual 0, 3, (3, 48, 197), 0, 0, [])), (47, (.iload 0, 1, (3, 0, 0), 0, 0, [])), (48, (.ireturn, 1, (0, 0, 0), 0, 0, []))]]
set_option maxRecDepth 20000 in
def tX6_tell : List (List (Nat × XE)) := [[(0, (.iload 0, 1, (1, 0, 0), 0, 0, [])), (1, (.ifCond .ne 0, 3, (31, 0, 0), 0, 0, [])), (4, (.iload 0, 1, (2, 0, 0), 0, 0, [])), (5, (.iconst 0, 1, (0, 0, 0), 0, 0, [])), (6, (.iconst 0, 1, (0, 0, 0), 4, 0, [])), (7, (.invokevirtual 0, 3, (3, 120, 86), 0, 0, [])), (10, (.ifCond .eq 0, 3, (31, 0, 0), 0, 0, [])), (13, (.aload 0, 1, (0, 0, 0), 0, 0, [])), (14, (.getfield 0, 3, (6, 0, 10), 0, 0, [])), (17, (.getfield 0, 3, (5, 1, 200), 0, 0, [])), (20, (.istore 0, 1, (3, 0, 0), 0, 0, [])), (21, (.aload 0, 1, (0, 0, 0), 0, 0, [])), (22, (.getfield 0, 3, (6, 0, 10), 0, 0, [])), (25, (.iload 0, 1, (2, 0, 0), 0, 0, [])), (26, (.putfield 0, 3, (5, 1, 200), 0, 0, [])), (29, (.iload 0, 1, (3, 0, 0), 0, 0, [])), (30, (.ireturn, 1, (0, 0, 0), 0, 0, [])), (31, (.iload 0, 1, (1, 0, 0), 0, 0, []))],
  [(32, (.iconst 0, 1, (0, 0, 0), 1, 0, [])), (33, (.if_icmp .ne 0, 3, (65, 0, 0), 0, 0, [])), (36, (.iload 0, 1, (2, 0, 0), 0, 0, [])), (37, (.iconst 0, 1, (0, 0, 0), 0, 0, [])), (38, (.iconst 0, 3, (0, 0, 0), 999, 0, [])), (41, (.invokevirtual 0, 3, (3, 120, 86), 0, 0, [])), (44, (.ifCond .eq 0, 3, (65, 0, 0), 0, 0, [])), (47, (.aload 0, 1, (0, 0, 0), 0, 0, [])), (48, (.getfield 0, 3, (6, 0, 10), 0, 0, [])), (51, (.getfield 0, 3, (5, 2, 158), 0, 0, [])), (54, (.istore 0, 1, (3, 0, 0), 0, 0, [])), (55, (.aload 0, 1, (0, 0, 0), 0, 0, [])), (56, (.getfield 0, 3, (6, 0, 10), 0, 0, [])), (59, (.iload 0, 1, (2, 0, 0), 0, 0, [])), (60, (.putfield 0, 3, (5, 2, 158), 0, 0, [])), (63, (.iload 0, 1, (3, 0, 0), 0, 0, []))],
  [(64, (.ireturn, 1, (0, 0, 0), 0, 0, [])), (65, (.aload 0, 1, (0, 0, 0), 0, 0, [])), (66, (.iconst 0, 3, (0, 0, 0), (-1002), 0, [])), (69, (.invokevirtual 0, 3, (2, 124, 90), 0, 0, [])), (72, (.ireturn, 1, (0, 0, 0), 0, 0, []))]]
set_option maxRecDepth 20000 in
def tX6_feed : List (List (Nat × XE)) := [[(0, (.iload 0, 1, (1, 0, 0), 0, 0, [])), (1, (.iconst 0, 1, (0, 0, 0), 0, 0, [])), (2, (.iconst 0, 3, (0, 0, 0), 255, 0, [])), (5, (.invokevirtual 0, 3, (3, 120, 86), 0, 0, [])), (8, (.ifCond .ne 0, 3, (19, 0, 0), 0, 0, [])), (11, (.aload 0, 1, (0, 0, 0), 0, 0, [])), (12, (.iconst 0, 3, (0, 0, 0), (-1002), 0, [])), (15, (.invokevirtual 0, 3, (2, 124, 90), 0, 0, [])), (18, (.ireturn, 1, (0, 0, 0), 0, 0, [])), (19, (.aload 0, 1, (0, 0, 0), 0, 0, [])), (20, (.getfield 0, 3, (6, 5, 35), 0, 0, [])), (23, (.invokevirtual 0, 3, (1, 16, 203), 0, 0, [])), (26, (.ifCond .ne 0, 3, (37, 0, 0), 0, 0, [])), (29, (.aload 0, 1, (0, 0, 0), 0, 0, [])), (30, (.iconst 0, 3, (0, 0, 0), (-1006), 0, []))],
  [(33, (.invokevirtual 0, 3, (2, 124, 90), 0, 0, [])), (36, (.ireturn, 1, (0, 0, 0), 0, 0, [])), (37, (.aload 0, 1, (0, 0, 0), 0, 0, [])), (38, (.getfield 0, 3, (6, 5, 35), 0, 0, [])), (41, (.iload 0, 1, (1, 0, 0), 0, 0, [])), (42, (.invokevirtual 0, 3, (2, 17, 206), 0, 0, [])), (45, (.ireturn, 1, (0, 0, 0), 0, 0, []))]]
set_option maxRecDepth 20000 in
def tX6_wipe : List (List (Nat × XE)) := [[(0, (.aload 0, 1, (0, 0, 0), 0, 0, [])), (1, (.getfield 0, 3, (6, 5, 35), 0, 0, [])), (4, (.getfield 0, 3, (2, 0, 209), 0, 0, [])), (7, (.istore 0, 1, (1, 0, 0), 0, 0, [])), (8, (.aload 0, 1, (0, 0, 0), 0, 0, [])), (9, (.getfield 0, 3, (6, 5, 35), 0, 0, [])), (12, (.iconst 0, 1, (0, 0, 0), 0, 0, [])), (13, (.putfield 0, 3, (2, 0, 209), 0, 0, [])), (16, (.iload 0, 1, (1, 0, 0), 0, 0, [])), (17, (.ireturn, 1, (0, 0, 0), 0, 0, []))]]
set_option maxRecDepth 20000 in
def tX6_coast : List (List (Nat × XE)) := [[(0, (.aload 0, 1, (0, 0, 0), 0, 0, [])), (1, (.getfield 0, 3, (6, 2, 19), 0, 0, [])), (4, (.aload 0, 1, (0, 0, 0), 0, 0, [])), (5, (.getfield 0, 3, (6, 0, 10), 0, 0, [])), (8, (.invokevirtual 0, 3, (2, 41, 212), 0, 0, [])), (11, (.aload 0, 1, (0, 0, 0), 0, 0, [])), (12, (.getfield 0, 3, (6, 5, 35), 0, 0, [])), (15, (.aload 0, 1, (0, 0, 0), 0, 0, [])), (16, (.getfield 0, 3, (6, 2, 19), 0, 0, [])), (19, (.invokevirtual 0, 3, (2, 18, 216), 0, 0, [])), (22, (.istore 0, 1, (1, 0, 0), 0, 0, [])), (23, (.aload 0, 1, (0, 0, 0), 0, 0, [])), (24, (.getfield 0, 3, (6, 5, 35), 0, 0, [])), (27, (.iconst 0, 1, (0, 0, 0), 0, 0, [])), (28, (.putfield 0, 3, (2, 0, 209), 0, 0, [])), (31, (.iload 0, 1, (1, 0, 0), 0, 0, []))],
  [(32, (.iconst 0, 1, (0, 0, 0), (-1), 0, [])), (33, (.if_icmp .ne 0, 3, (56, 0, 0), 0, 0, [])), (36, (.aload 0, 1, (0, 0, 0), 0, 0, [])), (37, (.iconst 0, 3, (0, 0, 0), (-1002), 0, [])), (40, (.invokevirtual 0, 3, (2, 124, 90), 0, 0, [])), (43, (.pop, 1, (0, 0, 0), 0, 0, [])), (44, (.iconst 0, 3, (0, 0, 0), (-2000), 0, [])), (47, (.aload 0, 1, (0, 0, 0), 0, 0, [])), (48, (.getfield 0, 3, (6, 5, 35), 0, 0, [])), (51, (.getfield 0, 3, (2, 1, 220), 0, 0, [])), (54, (.isub, 1, (0, 0, 0), 0, 0, [])), (55, (.ireturn, 1, (0, 0, 0), 0, 0, [])), (56, (.aload 0, 1, (0, 0, 0), 0, 0, [])), (57, (.getfield 0, 3, (6, 0, 10), 0, 0, [])), (60, (.aload 0, 1, (0, 0, 0), 0, 0, [])), (61, (.getfield 0, 3, (6, 2, 19), 0, 0, []))],
  [(64, (.invokevirtual 0, 3, (2, 41, 212), 0, 0, [])), (67, (.iload 0, 1, (1, 0, 0), 0, 0, [])), (68, (.ireturn, 1, (0, 0, 0), 0, 0, []))]]
set_option maxRecDepth 20000 in
def tX6_bottleOf : List (List (Nat × XE)) := [[(0, (.aload 0, 1, (0, 0, 0), 0, 0, [])), (1, (.getfield 0, 3, (6, 0, 10), 0, 0, [])), (4, (.iload 0, 1, (1, 0, 0), 0, 0, [])), (5, (.invokevirtual 0, 3, (2, 42, 139), 0, 0, [])), (8, (.astore 0, 1, (3, 0, 0), 0, 0, [])), (9, (.aload 0, 1, (3, 0, 0), 0, 0, [])), (10, (.ifnull 0, 3, (22, 0, 0), 0, 0, [])), (13, (.iload 0, 1, (2, 0, 0), 0, 0, [])), (14, (.iconst 0, 1, (0, 0, 0), 0, 0, [])), (15, (.iconst 0, 1, (0, 0, 0), 5, 0, [])), (16, (.invokevirtual 0, 3, (3, 120, 86), 0, 0, [])), (19, (.ifCond .ne 0, 3, (30, 0, 0), 0, 0, [])), (22, (.aload 0, 1, (0, 0, 0), 0, 0, [])), (23, (.iconst 0, 3, (0, 0, 0), (-1002), 0, [])), (26, (.invokevirtual 0, 3, (2, 124, 90), 0, 0, [])), (29, (.ireturn, 1, (0, 0, 0), 0, 0, [])), (30, (.aload 0, 1, (3, 0, 0), 0, 0, [])), (31, (.iload 0, 1, (2, 0, 0), 0, 0, []))],
  [(32, (.invokevirtual 0, 3, (2, 3, 223), 0, 0, [])), (35, (.ireturn, 1, (0, 0, 0), 0, 0, []))]]
set_option maxRecDepth 20000 in
def tX6_walkerOf : List (List (Nat × XE)) := [[(0, (.aload 0, 1, (0, 0, 0), 0, 0, [])), (1, (.getfield 0, 3, (6, 0, 10), 0, 0, [])), (4, (.iload 0, 1, (1, 0, 0), 0, 0, [])), (5, (.invokevirtual 0, 3, (2, 43, 178), 0, 0, [])), (8, (.astore 0, 1, (3, 0, 0), 0, 0, [])), (9, (.aload 0, 1, (3, 0, 0), 0, 0, [])), (10, (.ifnull 0, 3, (22, 0, 0), 0, 0, [])), (13, (.iload 0, 1, (2, 0, 0), 0, 0, [])), (14, (.iconst 0, 1, (0, 0, 0), 0, 0, [])), (15, (.iconst 0, 1, (0, 0, 0), 3, 0, [])), (16, (.invokevirtual 0, 3, (3, 120, 86), 0, 0, [])), (19, (.ifCond .ne 0, 3, (30, 0, 0), 0, 0, [])), (22, (.aload 0, 1, (0, 0, 0), 0, 0, [])), (23, (.iconst 0, 3, (0, 0, 0), (-1002), 0, [])), (26, (.invokevirtual 0, 3, (2, 124, 90), 0, 0, [])), (29, (.ireturn, 1, (0, 0, 0), 0, 0, [])), (30, (.iload 0, 1, (2, 0, 0), 0, 0, [])), (31, (.iconst 0, 1, (0, 0, 0), 3, 0, []))],
  [(32, (.if_icmp .ne 0, 3, (46, 0, 0), 0, 0, [])), (35, (.aload 0, 1, (0, 0, 0), 0, 0, [])), (36, (.getfield 0, 3, (6, 0, 10), 0, 0, [])), (39, (.iload 0, 1, (1, 0, 0), 0, 0, [])), (40, (.invokevirtual 0, 3, (2, 51, 224), 0, 0, [])), (43, (.goto 0, 3, (51, 0, 0), 0, 0, [])), (46, (.aload 0, 1, (3, 0, 0), 0, 0, [])), (47, (.iload 0, 1, (2, 0, 0), 0, 0, [])), (48, (.invokevirtual 0, 3, (2, 38, 182), 0, 0, [])), (51, (.ireturn, 1, (0, 0, 0), 0, 0, []))]]
set_option maxRecDepth 20000 in
def tX6_currentAt : List (List (Nat × XE)) := [[(0, (.aload 0, 1, (0, 0, 0), 0, 0, [])), (1, (.getfield 0, 3, (6, 0, 10), 0, 0, [])), (4, (.iload 0, 1, (1, 0, 0), 0, 0, [])), (5, (.invokevirtual 0, 3, (2, 44, 168), 0, 0, [])), (8, (.ifCond .eq 0, 3, (22, 0, 0), 0, 0, [])), (11, (.aload 0, 1, (0, 0, 0), 0, 0, [])), (12, (.getfield 0, 3, (6, 0, 10), 0, 0, [])), (15, (.iload 0, 1, (1, 0, 0), 0, 0, [])), (16, (.invokevirtual 0, 3, (2, 47, 194), 0, 0, [])), (19, (.goto 0, 3, (29, 0, 0), 0, 0, [])), (22, (.aload 0, 1, (0, 0, 0), 0, 0, [])), (23, (.iconst 0, 3, (0, 0, 0), (-1002), 0, [])), (26, (.invokevirtual 0, 3, (2, 124, 90), 0, 0, [])), (29, (.ireturn, 1, (0, 0, 0), 0, 0, []))]]
set_option maxRecDepth 20000 in
def tX6_ahead : List (List (Nat × XE)) := [[(0, (.aload 0, 1, (0, 0, 0), 0, 0, [])), (1, (.getfield 0, 3, (6, 0, 10), 0, 0, [])), (4, (.iload 0, 1, (1, 0, 0), 0, 0, [])), (5, (.invokevirtual 0, 3, (2, 42, 139), 0, 0, [])), (8, (.astore 0, 2, (4, 0, 0), 0, 0, [])), (10, (.aload 0, 2, (4, 0, 0), 0, 0, [])), (12, (.ifnull 0, 3, (34, 0, 0), 0, 0, [])), (15, (.iload 0, 1, (2, 0, 0), 0, 0, [])), (16, (.iconst 0, 1, (0, 0, 0), 0, 0, [])), (17, (.iconst 0, 2, (0, 0, 0), 60, 0, [])), (19, (.invokevirtual 0, 3, (3, 120, 86), 0, 0, [])), (22, (.ifCond .eq 0, 3, (34, 0, 0), 0, 0, [])), (25, (.iload 0, 1, (3, 0, 0), 0, 0, [])), (26, (.iconst 0, 1, (0, 0, 0), 0, 0, [])), (27, (.iconst 0, 1, (0, 0, 0), 1, 0, [])), (28, (.invokevirtual 0, 3, (3, 120, 86), 0, 0, [])), (31, (.ifCond .ne 0, 3, (42, 0, 0), 0, 0, []))],
  [(34, (.aload 0, 1, (0, 0, 0), 0, 0, [])), (35, (.iconst 0, 3, (0, 0, 0), (-1002), 0, [])), (38, (.invokevirtual 0, 3, (2, 124, 90), 0, 0, [])), (41, (.ireturn, 1, (0, 0, 0), 0, 0, [])), (42, (.aload 0, 1, (0, 0, 0), 0, 0, [])), (43, (.getfield 0, 3, (6, 0, 10), 0, 0, [])), (46, (.aload 0, 1, (0, 0, 0), 0, 0, [])), (47, (.getfield 0, 3, (6, 7, 46), 0, 0, [])), (50, (.aload 0, 2, (4, 0, 0), 0, 0, [])), (52, (.aload 0, 1, (0, 0, 0), 0, 0, [])), (53, (.getfield 0, 3, (6, 0, 10), 0, 0, [])), (56, (.aload 0, 2, (4, 0, 0), 0, 0, [])), (58, (.getfield 0, 3, (0, 3, 227), 0, 0, [])), (61, (.invokevirtual 0, 3, (2, 43, 178), 0, 0, []))],
  [(64, (.iload 0, 1, (2, 0, 0), 0, 0, [])), (65, (.invokevirtual 0, 3, (5, 57, 230), 0, 0, [])), (68, (.iload 0, 1, (3, 0, 0), 0, 0, [])), (69, (.ifCond .ne 0, 3, (83, 0, 0), 0, 0, [])), (72, (.aload 0, 1, (0, 0, 0), 0, 0, [])), (73, (.getfield 0, 3, (6, 7, 46), 0, 0, [])), (76, (.iload 0, 1, (2, 0, 0), 0, 0, [])), (77, (.invokevirtual 0, 3, (2, 32, 234), 0, 0, [])), (80, (.goto 0, 3, (91, 0, 0), 0, 0, [])), (83, (.aload 0, 1, (0, 0, 0), 0, 0, [])), (84, (.getfield 0, 3, (6, 7, 46), 0, 0, [])), (87, (.iload 0, 1, (2, 0, 0), 0, 0, [])), (88, (.invokevirtual 0, 3, (2, 33, 237), 0, 0, [])), (91, (.ireturn, 1, (0, 0, 0), 0, 0, []))]]
set_option maxRecDepth 20000 in
def tX6_walks : List (List (Nat × XE)) := [[(0, (.aload 0, 1, (0, 0, 0), 0, 0, [])), (1, (.getfield 0, 3, (6, 0, 10), 0, 0, [])), (4, (.iload 0, 1, (1, 0, 0), 0, 0, [])), (5, (.invokevirtual 0, 3, (2, 43, 178), 0, 0, [])), (8, (.astore 0, 1, (3, 0, 0), 0, 0, [])), (9, (.aload 0, 1, (3, 0, 0), 0, 0, [])), (10, (.ifnull 0, 3, (23, 0, 0), 0, 0, [])), (13, (.iload 0, 1, (2, 0, 0), 0, 0, [])), (14, (.iconst 0, 1, (0, 0, 0), 0, 0, [])), (15, (.iconst 0, 2, (0, 0, 0), 60, 0, [])), (17, (.invokevirtual 0, 3, (3, 120, 86), 0, 0, [])), (20, (.ifCond .ne 0, 3, (31, 0, 0), 0, 0, [])), (23, (.aload 0, 1, (0, 0, 0), 0, 0, [])), (24, (.iconst 0, 3, (0, 0, 0), (-1002), 0, [])), (27, (.invokevirtual 0, 3, (2, 124, 90), 0, 0, [])), (30, (.ireturn, 1, (0, 0, 0), 0, 0, [])), (31, (.aload 0, 1, (0, 0, 0), 0, 0, []))],
  [(32, (.getfield 0, 3, (6, 10, 63), 0, 0, [])), (35, (.aload 0, 1, (3, 0, 0), 0, 0, [])), (36, (.invokevirtual 0, 3, (2, 37, 240), 0, 0, [])), (39, (.iconst 0, 1, (0, 0, 0), 1, 0, [])), (40, (.istore 0, 2, (4, 0, 0), 0, 0, [])), (42, (.iload 0, 2, (4, 0, 0), 0, 0, [])), (44, (.iload 0, 1, (2, 0, 0), 0, 0, [])), (45, (.if_icmp .gt 0, 3, (68, 0, 0), 0, 0, [])), (48, (.aload 0, 1, (0, 0, 0), 0, 0, [])), (49, (.getfield 0, 3, (6, 10, 63), 0, 0, [])), (52, (.aload 0, 1, (0, 0, 0), 0, 0, [])), (53, (.getfield 0, 3, (6, 0, 10), 0, 0, [])), (56, (.getfield 0, 3, (5, 0, 165), 0, 0, [])), (59, (.invokevirtual 0, 3, (2, 39, 243), 0, 0, [])), (62, (.iinc 0 0, 3, (4, 0, 0), 1, 0, []))],
  [(65, (.goto 0, 3, (42, 0, 0), 0, 0, [])), (68, (.aload 0, 1, (0, 0, 0), 0, 0, [])), (69, (.getfield 0, 3, (6, 10, 63), 0, 0, [])), (72, (.getfield 0, 3, (4, 0, 185), 0, 0, [])), (75, (.ireturn, 1, (0, 0, 0), 0, 0, []))]]
set_option maxRecDepth 20000 in
def tX6_found : List (List (Nat × XE)) := [[(0, (.iload 0, 1, (1, 0, 0), 0, 0, [])), (1, (.iconst 0, 1, (0, 0, 0), 0, 0, [])), (2, (.iconst 0, 2, (0, 0, 0), 60, 0, [])), (4, (.invokevirtual 0, 3, (3, 120, 86), 0, 0, [])), (7, (.ifCond .eq 0, 3, (21, 0, 0), 0, 0, [])), (10, (.aload 0, 1, (0, 0, 0), 0, 0, [])), (11, (.getfield 0, 3, (6, 0, 10), 0, 0, [])), (14, (.iload 0, 1, (1, 0, 0), 0, 0, [])), (15, (.invokevirtual 0, 3, (2, 60, 247), 0, 0, [])), (18, (.goto 0, 3, (28, 0, 0), 0, 0, [])), (21, (.aload 0, 1, (0, 0, 0), 0, 0, [])), (22, (.iconst 0, 3, (0, 0, 0), (-1002), 0, [])), (25, (.invokevirtual 0, 3, (2, 124, 90), 0, 0, [])), (28, (.ireturn, 1, (0, 0, 0), 0, 0, []))]]
set_option maxRecDepth 20000 in
def tX6_when : List (List (Nat × XE)) := [[(0, (.aload 0, 1, (0, 0, 0), 0, 0, [])), (1, (.getfield 0, 3, (6, 0, 10), 0, 0, [])), (4, (.iload 0, 1, (1, 0, 0), 0, 0, [])), (5, (.invokevirtual 0, 3, (2, 42, 139), 0, 0, [])), (8, (.astore 0, 1, (2, 0, 0), 0, 0, [])), (9, (.aload 0, 1, (2, 0, 0), 0, 0, [])), (10, (.ifnonnull 0, 3, (23, 0, 0), 0, 0, [])), (13, (.aload 0, 1, (0, 0, 0), 0, 0, [])), (14, (.iconst 0, 3, (0, 0, 0), (-1002), 0, [])), (17, (.invokevirtual 0, 3, (2, 124, 90), 0, 0, [])), (20, (.goto 0, 3, (31, 0, 0), 0, 0, [])), (23, (.aload 0, 1, (0, 0, 0), 0, 0, [])), (24, (.getfield 0, 3, (6, 0, 10), 0, 0, [])), (27, (.aload 0, 1, (2, 0, 0), 0, 0, [])), (28, (.invokevirtual 0, 3, (2, 59, 250), 0, 0, [])), (31, (.ireturn, 1, (0, 0, 0), 0, 0, []))]]
set_option maxRecDepth 20000 in
def tX6_meets : List (List (Nat × XE)) := [[(0, (.aload 0, 1, (0, 0, 0), 0, 0, [])), (1, (.getfield 0, 3, (6, 0, 10), 0, 0, [])), (4, (.iload 0, 1, (1, 0, 0), 0, 0, [])), (5, (.invokevirtual 0, 3, (2, 42, 139), 0, 0, [])), (8, (.astore 0, 1, (3, 0, 0), 0, 0, [])), (9, (.aload 0, 1, (0, 0, 0), 0, 0, [])), (10, (.getfield 0, 3, (6, 0, 10), 0, 0, [])), (13, (.iload 0, 1, (2, 0, 0), 0, 0, [])), (14, (.invokevirtual 0, 3, (2, 43, 178), 0, 0, [])), (17, (.astore 0, 2, (4, 0, 0), 0, 0, [])), (19, (.aload 0, 1, (3, 0, 0), 0, 0, [])), (20, (.ifnull 0, 3, (28, 0, 0), 0, 0, [])), (23, (.aload 0, 2, (4, 0, 0), 0, 0, [])), (25, (.ifnonnull 0, 3, (36, 0, 0), 0, 0, [])), (28, (.aload 0, 1, (0, 0, 0), 0, 0, [])), (29, (.iconst 0, 3, (0, 0, 0), (-1002), 0, []))],
  [(32, (.invokevirtual 0, 3, (2, 124, 90), 0, 0, [])), (35, (.ireturn, 1, (0, 0, 0), 0, 0, [])), (36, (.aload 0, 1, (0, 0, 0), 0, 0, [])), (37, (.getfield 0, 3, (6, 0, 10), 0, 0, [])), (40, (.aload 0, 1, (0, 0, 0), 0, 0, [])), (41, (.getfield 0, 3, (6, 7, 46), 0, 0, [])), (44, (.aload 0, 1, (3, 0, 0), 0, 0, [])), (45, (.aconst_null, 1, (0, 0, 0), 0, 0, [])), (46, (.iconst 0, 2, (0, 0, 0), 60, 0, [])), (48, (.invokevirtual 0, 3, (5, 57, 230), 0, 0, [])), (51, (.aload 0, 1, (0, 0, 0), 0, 0, [])), (52, (.aload 0, 2, (4, 0, 0), 0, 0, [])), (54, (.iconst 0, 2, (0, 0, 0), 60, 0, [])), (56, (.invokevirtual 0, 3, (3, 127, 254), 0, 0, [])), (59, (.ireturn, 1, (0, 0, 0), 0, 0, []))]]
set_option maxRecDepth 20000 in
def tX6_finder : List (List (Nat × XE)) := [[(0, (.aload 0, 1, (0, 0, 0), 0, 0, [])), (1, (.getfield 0, 3, (6, 0, 10), 0, 0, [])), (4, (.iload 0, 1, (1, 0, 0), 0, 0, [])), (5, (.invokevirtual 0, 3, (2, 42, 139), 0, 0, [])), (8, (.astore 0, 1, (2, 0, 0), 0, 0, [])), (9, (.aload 0, 1, (2, 0, 0), 0, 0, [])), (10, (.ifnonnull 0, 3, (21, 0, 0), 0, 0, [])), (13, (.aload 0, 1, (0, 0, 0), 0, 0, [])), (14, (.iconst 0, 3, (0, 0, 0), (-1002), 0, [])), (17, (.invokevirtual 0, 3, (2, 124, 90), 0, 0, [])), (20, (.ireturn, 1, (0, 0, 0), 0, 0, [])), (21, (.aload 0, 1, (0, 0, 0), 0, 0, [])), (22, (.getfield 0, 3, (6, 0, 10), 0, 0, [])), (25, (.aload 0, 1, (0, 0, 0), 0, 0, [])), (26, (.getfield 0, 3, (6, 7, 46), 0, 0, [])), (29, (.aload 0, 1, (2, 0, 0), 0, 0, [])), (30, (.aconst_null, 1, (0, 0, 0), 0, 0, [])), (31, (.iconst 0, 2, (0, 0, 0), 60, 0, []))],
  [(33, (.invokevirtual 0, 3, (5, 57, 230), 0, 0, [])), (36, (.iconst 0, 1, (0, 0, 0), (-1), 0, [])), (37, (.istore 0, 1, (3, 0, 0), 0, 0, [])), (38, (.iconst 0, 2, (0, 0, 0), 61, 0, [])), (40, (.istore 0, 2, (4, 0, 0), 0, 0, [])), (42, (.iconst 0, 1, (0, 0, 0), 0, 0, [])), (43, (.istore 0, 2, (5, 0, 0), 0, 0, [])), (45, (.iload 0, 2, (5, 0, 0), 0, 0, [])), (47, (.aload 0, 1, (0, 0, 0), 0, 0, [])), (48, (.getfield 0, 3, (6, 0, 10), 0, 0, [])), (51, (.getfield 0, 3, (5, 6, 258), 0, 0, [])), (54, (.if_icmp .ge 0, 3, (100, 0, 0), 0, 0, [])), (57, (.aload 0, 1, (0, 0, 0), 0, 0, [])), (58, (.aload 0, 1, (0, 0, 0), 0, 0, [])), (59, (.getfield 0, 3, (6, 0, 10), 0, 0, [])), (62, (.iload 0, 2, (5, 0, 0), 0, 0, []))],
  [(64, (.invokevirtual 0, 3, (2, 43, 178), 0, 0, [])), (67, (.iconst 0, 2, (0, 0, 0), 60, 0, [])), (69, (.invokevirtual 0, 3, (3, 127, 254), 0, 0, [])), (72, (.istore 0, 2, (6, 0, 0), 0, 0, [])), (74, (.iload 0, 2, (6, 0, 0), 0, 0, [])), (76, (.iconst 0, 1, (0, 0, 0), (-1), 0, [])), (77, (.if_icmp .eq 0, 3, (94, 0, 0), 0, 0, [])), (80, (.iload 0, 2, (6, 0, 0), 0, 0, [])), (82, (.iload 0, 2, (4, 0, 0), 0, 0, [])), (84, (.if_icmp .ge 0, 3, (94, 0, 0), 0, 0, [])), (87, (.iload 0, 2, (6, 0, 0), 0, 0, [])), (89, (.istore 0, 2, (4, 0, 0), 0, 0, [])), (91, (.iload 0, 2, (5, 0, 0), 0, 0, [])), (93, (.istore 0, 1, (3, 0, 0), 0, 0, [])), (94, (.iinc 0 0, 3, (5, 0, 0), 1, 0, []))],
  [(97, (.goto 0, 3, (45, 0, 0), 0, 0, [])), (100, (.iload 0, 1, (3, 0, 0), 0, 0, [])), (101, (.ireturn, 1, (0, 0, 0), 0, 0, []))]]
set_option maxRecDepth 20000 in
def tX6_two : List (List (Nat × XE)) := [[(0, (.aload 0, 1, (0, 0, 0), 0, 0, [])), (1, (.getfield 0, 3, (6, 0, 10), 0, 0, [])), (4, (.iload 0, 1, (1, 0, 0), 0, 0, [])), (5, (.invokevirtual 0, 3, (2, 43, 178), 0, 0, [])), (8, (.astore 0, 1, (3, 0, 0), 0, 0, [])), (9, (.aload 0, 1, (0, 0, 0), 0, 0, [])), (10, (.getfield 0, 3, (6, 0, 10), 0, 0, [])), (13, (.iload 0, 1, (2, 0, 0), 0, 0, [])), (14, (.invokevirtual 0, 3, (2, 43, 178), 0, 0, [])), (17, (.astore 0, 2, (4, 0, 0), 0, 0, [])), (19, (.aload 0, 1, (3, 0, 0), 0, 0, [])), (20, (.ifnull 0, 3, (33, 0, 0), 0, 0, [])), (23, (.aload 0, 2, (4, 0, 0), 0, 0, [])), (25, (.ifnull 0, 3, (33, 0, 0), 0, 0, [])), (28, (.iload 0, 1, (1, 0, 0), 0, 0, [])), (29, (.iload 0, 1, (2, 0, 0), 0, 0, [])), (30, (.if_icmp .ne 0, 3, (41, 0, 0), 0, 0, []))],
  [(33, (.aload 0, 1, (0, 0, 0), 0, 0, [])), (34, (.iconst 0, 3, (0, 0, 0), (-1002), 0, [])), (37, (.invokevirtual 0, 3, (2, 124, 90), 0, 0, [])), (40, (.ireturn, 1, (0, 0, 0), 0, 0, [])), (41, (.aload 0, 1, (0, 0, 0), 0, 0, [])), (42, (.getfield 0, 3, (6, 10, 63), 0, 0, [])), (45, (.aload 0, 1, (3, 0, 0), 0, 0, [])), (46, (.invokevirtual 0, 3, (2, 37, 240), 0, 0, [])), (49, (.aload 0, 1, (0, 0, 0), 0, 0, [])), (50, (.getfield 0, 3, (6, 11, 67), 0, 0, [])), (53, (.aload 0, 2, (4, 0, 0), 0, 0, [])), (55, (.invokevirtual 0, 3, (2, 37, 240), 0, 0, [])), (58, (.iconst 0, 1, (0, 0, 0), 0, 0, [])), (59, (.istore 0, 2, (5, 0, 0), 0, 0, [])), (61, (.iload 0, 2, (5, 0, 0), 0, 0, [])), (63, (.iconst 0, 2, (0, 0, 0), 60, 0, []))],
  [(65, (.if_icmp .gt 0, 3, (122, 0, 0), 0, 0, [])), (68, (.aload 0, 1, (0, 0, 0), 0, 0, [])), (69, (.getfield 0, 3, (6, 10, 63), 0, 0, [])), (72, (.getfield 0, 3, (4, 0, 185), 0, 0, [])), (75, (.aload 0, 1, (0, 0, 0), 0, 0, [])), (76, (.getfield 0, 3, (6, 11, 67), 0, 0, [])), (79, (.getfield 0, 3, (4, 0, 185), 0, 0, [])), (82, (.if_icmp .ne 0, 3, (88, 0, 0), 0, 0, [])), (85, (.iload 0, 2, (5, 0, 0), 0, 0, [])), (87, (.ireturn, 1, (0, 0, 0), 0, 0, [])), (88, (.aload 0, 1, (0, 0, 0), 0, 0, [])), (89, (.getfield 0, 3, (6, 10, 63), 0, 0, [])), (92, (.aload 0, 1, (0, 0, 0), 0, 0, [])), (93, (.getfield 0, 3, (6, 0, 10), 0, 0, []))],
  [(96, (.getfield 0, 3, (5, 0, 165), 0, 0, [])), (99, (.invokevirtual 0, 3, (2, 39, 243), 0, 0, [])), (102, (.aload 0, 1, (0, 0, 0), 0, 0, [])), (103, (.getfield 0, 3, (6, 11, 67), 0, 0, [])), (106, (.aload 0, 1, (0, 0, 0), 0, 0, [])), (107, (.getfield 0, 3, (6, 0, 10), 0, 0, [])), (110, (.getfield 0, 3, (5, 0, 165), 0, 0, [])), (113, (.invokevirtual 0, 3, (2, 39, 243), 0, 0, [])), (116, (.iinc 0 0, 3, (5, 0, 0), 1, 0, [])), (119, (.goto 0, 3, (61, 0, 0), 0, 0, [])), (122, (.iconst 0, 1, (0, 0, 0), (-1), 0, [])), (123, (.ireturn, 1, (0, 0, 0), 0, 0, []))]]
set_option maxRecDepth 20000 in
def tX6_aim : List (List (Nat × XE)) := [[(0, (.aload 0, 1, (0, 0, 0), 0, 0, [])), (1, (.getfield 0, 3, (6, 0, 10), 0, 0, [])), (4, (.iload 0, 1, (3, 0, 0), 0, 0, [])), (5, (.invokevirtual 0, 3, (2, 43, 178), 0, 0, [])), (8, (.astore 0, 2, (5, 0, 0), 0, 0, [])), (10, (.iload 0, 1, (1, 0, 0), 0, 0, [])), (11, (.invokevirtual 0, 3, (1, 121, 143), 0, 0, [])), (14, (.ifCond .eq 0, 3, (42, 0, 0), 0, 0, [])), (17, (.iload 0, 1, (2, 0, 0), 0, 0, [])), (18, (.iconst 0, 1, (0, 0, 0), 0, 0, [])), (19, (.iconst 0, 2, (0, 0, 0), 9, 0, [])), (21, (.invokevirtual 0, 3, (3, 120, 86), 0, 0, [])), (24, (.ifCond .eq 0, 3, (42, 0, 0), 0, 0, [])), (27, (.aload 0, 2, (5, 0, 0), 0, 0, [])), (29, (.ifnull 0, 3, (42, 0, 0), 0, 0, []))],
  [(32, (.iload 0, 2, (4, 0, 0), 0, 0, [])), (34, (.iconst 0, 1, (0, 0, 0), 0, 0, [])), (35, (.iconst 0, 1, (0, 0, 0), 1, 0, [])), (36, (.invokevirtual 0, 3, (3, 120, 86), 0, 0, [])), (39, (.ifCond .ne 0, 3, (50, 0, 0), 0, 0, [])), (42, (.aload 0, 1, (0, 0, 0), 0, 0, [])), (43, (.iconst 0, 3, (0, 0, 0), (-1002), 0, [])), (46, (.invokevirtual 0, 3, (2, 124, 90), 0, 0, [])), (49, (.ireturn, 1, (0, 0, 0), 0, 0, [])), (50, (.iconst 0, 1, (0, 0, 0), (-1), 0, [])), (51, (.istore 0, 2, (6, 0, 0), 0, 0, [])), (53, (.iconst 0, 1, (0, 0, 0), (-1), 0, [])), (54, (.istore 0, 2, (7, 0, 0), 0, 0, [])), (56, (.iconst 0, 1, (0, 0, 0), 0, 0, [])), (57, (.istore 0, 2, (8, 0, 0), 0, 0, [])), (59, (.iload 0, 2, (8, 0, 0), 0, 0, [])), (61, (.aload 0, 1, (0, 0, 0), 0, 0, [])), (62, (.getfield 0, 3, (6, 0, 10), 0, 0, []))],
  [(65, (.getfield 0, 3, (5, 0, 165), 0, 0, [])), (68, (.if_icmp .ge 0, 3, (133, 0, 0), 0, 0, [])), (71, (.aload 0, 1, (0, 0, 0), 0, 0, [])), (72, (.getfield 0, 3, (6, 9, 56), 0, 0, [])), (75, (.iload 0, 1, (1, 0, 0), 0, 0, [])), (76, (.iload 0, 1, (2, 0, 0), 0, 0, [])), (77, (.iload 0, 2, (8, 0, 0), 0, 0, [])), (79, (.iload 0, 1, (3, 0, 0), 0, 0, [])), (80, (.invokevirtual 0, 3, (5, 1, 261), 0, 0, [])), (83, (.aload 0, 1, (0, 0, 0), 0, 0, [])), (84, (.getfield 0, 3, (6, 0, 10), 0, 0, [])), (87, (.aload 0, 1, (0, 0, 0), 0, 0, [])), (88, (.getfield 0, 3, (6, 9, 56), 0, 0, [])), (91, (.aload 0, 2, (5, 0, 0), 0, 0, [])), (93, (.iconst 0, 2, (0, 0, 0), 60, 0, [])), (95, (.invokevirtual 0, 3, (4, 58, 264), 0, 0, []))],
  [(98, (.istore 0, 2, (9, 0, 0), 0, 0, [])), (100, (.iload 0, 2, (9, 0, 0), 0, 0, [])), (102, (.iconst 0, 1, (0, 0, 0), (-1), 0, [])), (103, (.if_icmp .eq 0, 3, (127, 0, 0), 0, 0, [])), (106, (.iload 0, 2, (7, 0, 0), 0, 0, [])), (108, (.iconst 0, 1, (0, 0, 0), (-1), 0, [])), (109, (.if_icmp .eq 0, 3, (119, 0, 0), 0, 0, [])), (112, (.iload 0, 2, (9, 0, 0), 0, 0, [])), (114, (.iload 0, 2, (7, 0, 0), 0, 0, [])), (116, (.if_icmp .ge 0, 3, (127, 0, 0), 0, 0, [])), (119, (.iload 0, 2, (8, 0, 0), 0, 0, [])), (121, (.istore 0, 2, (6, 0, 0), 0, 0, [])), (123, (.iload 0, 2, (9, 0, 0), 0, 0, [])), (125, (.istore 0, 2, (7, 0, 0), 0, 0, [])), (127, (.iinc 0 0, 3, (8, 0, 0), 1, 0, []))],
  [(130, (.goto 0, 3, (59, 0, 0), 0, 0, [])), (133, (.iload 0, 2, (4, 0, 0), 0, 0, [])), (135, (.ifCond .ne 0, 3, (143, 0, 0), 0, 0, [])), (138, (.iload 0, 2, (6, 0, 0), 0, 0, [])), (140, (.goto 0, 3, (145, 0, 0), 0, 0, [])), (143, (.iload 0, 2, (7, 0, 0), 0, 0, [])), (145, (.ireturn, 1, (0, 0, 0), 0, 0, []))]]
set_option maxRecDepth 20000 in
def tX6_walk : List (List (Nat × XE)) := [[(0, (.aload 0, 1, (0, 0, 0), 0, 0, [])), (1, (.getfield 0, 3, (6, 0, 10), 0, 0, [])), (4, (.iload 0, 1, (1, 0, 0), 0, 0, [])), (5, (.invokevirtual 0, 3, (2, 43, 178), 0, 0, [])), (8, (.ifnull 0, 3, (30, 0, 0), 0, 0, [])), (11, (.iload 0, 1, (2, 0, 0), 0, 0, [])), (12, (.iconst 0, 1, (0, 0, 0), 1, 0, [])), (13, (.iconst 0, 2, (0, 0, 0), 30, 0, [])), (15, (.invokevirtual 0, 3, (3, 120, 86), 0, 0, [])), (18, (.ifCond .eq 0, 3, (30, 0, 0), 0, 0, [])), (21, (.iload 0, 1, (3, 0, 0), 0, 0, [])), (22, (.iconst 0, 1, (0, 0, 0), 0, 0, [])), (23, (.iconst 0, 1, (0, 0, 0), 1, 0, [])), (24, (.invokevirtual 0, 3, (3, 120, 86), 0, 0, [])), (27, (.ifCond .ne 0, 3, (38, 0, 0), 0, 0, [])), (30, (.aload 0, 1, (0, 0, 0), 0, 0, [])), (31, (.iconst 0, 3, (0, 0, 0), (-1002), 0, []))],
  [(34, (.invokevirtual 0, 3, (2, 124, 90), 0, 0, [])), (37, (.ireturn, 1, (0, 0, 0), 0, 0, [])), (38, (.iconst 0, 1, (0, 0, 0), 0, 0, [])), (39, (.istore 0, 2, (4, 0, 0), 0, 0, [])), (41, (.iconst 0, 1, (0, 0, 0), (-1), 0, [])), (42, (.istore 0, 2, (5, 0, 0), 0, 0, [])), (44, (.iconst 0, 1, (0, 0, 0), 0, 0, [])), (45, (.istore 0, 2, (6, 0, 0), 0, 0, [])), (47, (.iload 0, 2, (6, 0, 0), 0, 0, [])), (49, (.iconst 0, 1, (0, 0, 0), 3, 0, [])), (50, (.if_icmp .gt 0, 3, (107, 0, 0), 0, 0, [])), (53, (.iconst 0, 1, (0, 0, 0), 0, 0, [])), (54, (.istore 0, 2, (7, 0, 0), 0, 0, [])), (56, (.iload 0, 2, (7, 0, 0), 0, 0, [])), (58, (.iconst 0, 1, (0, 0, 0), 1, 0, [])), (59, (.if_icmp .gt 0, 3, (101, 0, 0), 0, 0, [])), (62, (.aload 0, 1, (0, 0, 0), 0, 0, [])), (63, (.iload 0, 1, (1, 0, 0), 0, 0, []))],
  [(64, (.iload 0, 2, (6, 0, 0), 0, 0, [])), (66, (.iload 0, 2, (7, 0, 0), 0, 0, [])), (68, (.iload 0, 1, (2, 0, 0), 0, 0, [])), (69, (.invokevirtual 0, 3, (5, 128, 268), 0, 0, [])), (72, (.istore 0, 2, (8, 0, 0), 0, 0, [])), (74, (.iload 0, 2, (8, 0, 0), 0, 0, [])), (76, (.iload 0, 2, (5, 0, 0), 0, 0, [])), (78, (.if_icmp .le 0, 3, (95, 0, 0), 0, 0, [])), (81, (.iload 0, 2, (8, 0, 0), 0, 0, [])), (83, (.istore 0, 2, (5, 0, 0), 0, 0, [])), (85, (.iconst 0, 2, (0, 0, 0), 10, 0, [])), (87, (.iload 0, 2, (6, 0, 0), 0, 0, [])), (89, (.imul, 1, (0, 0, 0), 0, 0, [])), (90, (.iload 0, 2, (7, 0, 0), 0, 0, [])), (92, (.iadd, 1, (0, 0, 0), 0, 0, [])), (93, (.istore 0, 2, (4, 0, 0), 0, 0, [])), (95, (.iinc 0 0, 3, (7, 0, 0), 1, 0, []))],
  [(98, (.goto 0, 3, (56, 0, 0), 0, 0, [])), (101, (.iinc 0 0, 3, (6, 0, 0), 1, 0, [])), (104, (.goto 0, 3, (47, 0, 0), 0, 0, [])), (107, (.iload 0, 1, (3, 0, 0), 0, 0, [])), (108, (.ifCond .ne 0, 3, (116, 0, 0), 0, 0, [])), (111, (.iload 0, 2, (4, 0, 0), 0, 0, [])), (113, (.goto 0, 3, (118, 0, 0), 0, 0, [])), (116, (.iload 0, 2, (5, 0, 0), 0, 0, [])), (118, (.ireturn, 1, (0, 0, 0), 0, 0, []))]]
set_option maxRecDepth 20000 in
def tX6_fits : List (List (Nat × XE)) := [[(0, (.aload 0, 1, (0, 0, 0), 0, 0, [])), (1, (.iload 0, 1, (1, 0, 0), 0, 0, [])), (2, (.invokevirtual 0, 3, (2, 125, 82), 0, 0, [])), (5, (.astore 0, 2, (5, 0, 0), 0, 0, [])), (7, (.aload 0, 1, (0, 0, 0), 0, 0, [])), (8, (.getfield 0, 3, (6, 0, 10), 0, 0, [])), (11, (.iload 0, 1, (3, 0, 0), 0, 0, [])), (12, (.invokevirtual 0, 3, (2, 42, 139), 0, 0, [])), (15, (.astore 0, 2, (6, 0, 0), 0, 0, [])), (17, (.aload 0, 2, (5, 0, 0), 0, 0, [])), (19, (.ifnull 0, 3, (47, 0, 0), 0, 0, [])), (22, (.iload 0, 1, (2, 0, 0), 0, 0, [])), (23, (.iconst 0, 1, (0, 0, 0), 1, 0, [])), (24, (.iconst 0, 2, (0, 0, 0), 40, 0, [])), (26, (.invokevirtual 0, 3, (3, 120, 86), 0, 0, [])), (29, (.ifCond .eq 0, 3, (47, 0, 0), 0, 0, []))],
  [(32, (.aload 0, 2, (6, 0, 0), 0, 0, [])), (34, (.ifnull 0, 3, (47, 0, 0), 0, 0, [])), (37, (.iload 0, 2, (4, 0, 0), 0, 0, [])), (39, (.iconst 0, 1, (0, 0, 0), 0, 0, [])), (40, (.iconst 0, 1, (0, 0, 0), 1, 0, [])), (41, (.invokevirtual 0, 3, (3, 120, 86), 0, 0, [])), (44, (.ifCond .ne 0, 3, (55, 0, 0), 0, 0, [])), (47, (.aload 0, 1, (0, 0, 0), 0, 0, [])), (48, (.iconst 0, 3, (0, 0, 0), (-1002), 0, [])), (51, (.invokevirtual 0, 3, (2, 124, 90), 0, 0, [])), (54, (.ireturn, 1, (0, 0, 0), 0, 0, [])), (55, (.aload 0, 2, (5, 0, 0), 0, 0, [])), (57, (.invokevirtual 0, 3, (1, 6, 98), 0, 0, [])), (60, (.ifCond .ne 0, 3, (73, 0, 0), 0, 0, [])), (63, (.aload 0, 1, (0, 0, 0), 0, 0, []))],
  [(64, (.aload 0, 2, (5, 0, 0), 0, 0, [])), (66, (.invokevirtual 0, 3, (1, 8, 102), 0, 0, [])), (69, (.invokevirtual 0, 3, (2, 124, 90), 0, 0, [])), (72, (.ireturn, 1, (0, 0, 0), 0, 0, [])), (73, (.aload 0, 2, (5, 0, 0), 0, 0, [])), (75, (.getfield 0, 3, (1, 1, 272), 0, 0, [])), (78, (.iload 0, 1, (2, 0, 0), 0, 0, [])), (79, (.if_icmp .ge 0, 3, (90, 0, 0), 0, 0, [])), (82, (.aload 0, 1, (0, 0, 0), 0, 0, [])), (83, (.iconst 0, 3, (0, 0, 0), (-1002), 0, [])), (86, (.invokevirtual 0, 3, (2, 124, 90), 0, 0, [])), (89, (.ireturn, 1, (0, 0, 0), 0, 0, [])), (90, (.iload 0, 2, (4, 0, 0), 0, 0, [])), (92, (.ifCond .ne 0, 3, (99, 0, 0), 0, 0, [])), (95, (.iconst 0, 1, (0, 0, 0), 5, 0, []))],
  [(96, (.goto 0, 3, (101, 0, 0), 0, 0, [])), (99, (.iconst 0, 2, (0, 0, 0), 6, 0, [])), (101, (.istore 0, 2, (7, 0, 0), 0, 0, [])), (103, (.iconst 0, 1, (0, 0, 0), 0, 0, [])), (104, (.istore 0, 2, (8, 0, 0), 0, 0, [])), (106, (.aload 0, 1, (0, 0, 0), 0, 0, [])), (107, (.getfield 0, 3, (6, 2, 19), 0, 0, [])), (110, (.aload 0, 1, (0, 0, 0), 0, 0, [])), (111, (.getfield 0, 3, (6, 0, 10), 0, 0, [])), (114, (.invokevirtual 0, 3, (2, 41, 212), 0, 0, [])), (117, (.iconst 0, 1, (0, 0, 0), 0, 0, [])), (118, (.istore 0, 2, (9, 0, 0), 0, 0, [])), (120, (.iload 0, 2, (9, 0, 0), 0, 0, [])), (122, (.iload 0, 2, (7, 0, 0), 0, 0, [])), (124, (.if_icmp .ge 0, 3, (186, 0, 0), 0, 0, [])), (127, (.iload 0, 2, (4, 0, 0), 0, 0, []))],
  [(129, (.ifCond .ne 0, 3, (141, 0, 0), 0, 0, [])), (132, (.aload 0, 1, (0, 0, 0), 0, 0, [])), (133, (.getfield 0, 3, (6, 2, 19), 0, 0, [])), (136, (.iload 0, 2, (9, 0, 0), 0, 0, [])), (138, (.putfield 0, 3, (5, 1, 200), 0, 0, [])), (141, (.aload 0, 1, (0, 0, 0), 0, 0, [])), (142, (.aload 0, 2, (5, 0, 0), 0, 0, [])), (144, (.iload 0, 1, (2, 0, 0), 0, 0, [])), (145, (.iload 0, 2, (4, 0, 0), 0, 0, [])), (147, (.ifCond .ne 0, 3, (158, 0, 0), 0, 0, [])), (150, (.aload 0, 2, (6, 0, 0), 0, 0, [])), (152, (.getfield 0, 3, (0, 0, 149), 0, 0, [])), (155, (.goto 0, 3, (160, 0, 0), 0, 0, [])), (158, (.iload 0, 2, (9, 0, 0), 0, 0, []))],
  [(160, (.aload 0, 2, (6, 0, 0), 0, 0, [])), (162, (.getfield 0, 3, (0, 1, 273), 0, 0, [])), (165, (.invokevirtual 0, 3, (5, 129, 276), 0, 0, [])), (168, (.ifCond .eq 0, 3, (180, 0, 0), 0, 0, [])), (171, (.iload 0, 2, (8, 0, 0), 0, 0, [])), (173, (.iconst 0, 1, (0, 0, 0), 1, 0, [])), (174, (.iload 0, 2, (9, 0, 0), 0, 0, [])), (176, (.ishl, 1, (0, 0, 0), 0, 0, [])), (177, (.ior, 1, (0, 0, 0), 0, 0, [])), (178, (.istore 0, 2, (8, 0, 0), 0, 0, [])), (180, (.iinc 0 0, 3, (9, 0, 0), 1, 0, [])), (183, (.goto 0, 3, (120, 0, 0), 0, 0, [])), (186, (.iload 0, 2, (8, 0, 0), 0, 0, [])), (188, (.ireturn, 1, (0, 0, 0), 0, 0, []))]]
set_option maxRecDepth 20000 in
def tX6_from : List (List (Nat × XE)) := [[(0, (.aload 0, 1, (0, 0, 0), 0, 0, [])), (1, (.getfield 0, 3, (6, 0, 10), 0, 0, [])), (4, (.iload 0, 1, (1, 0, 0), 0, 0, [])), (5, (.invokevirtual 0, 3, (2, 42, 139), 0, 0, [])), (8, (.astore 0, 2, (4, 0, 0), 0, 0, [])), (10, (.aload 0, 2, (4, 0, 0), 0, 0, [])), (12, (.ifnull 0, 3, (36, 0, 0), 0, 0, [])), (15, (.iload 0, 1, (2, 0, 0), 0, 0, [])), (16, (.iconst 0, 1, (0, 0, 0), 0, 0, [])), (17, (.iconst 0, 2, (0, 0, 0), 30, 0, [])), (19, (.invokevirtual 0, 3, (3, 120, 86), 0, 0, [])), (22, (.ifCond .eq 0, 3, (36, 0, 0), 0, 0, [])), (25, (.aload 0, 1, (0, 0, 0), 0, 0, [])), (26, (.getfield 0, 3, (6, 0, 10), 0, 0, [])), (29, (.iload 0, 1, (3, 0, 0), 0, 0, [])), (30, (.invokevirtual 0, 3, (2, 44, 168), 0, 0, []))],
  [(33, (.ifCond .ne 0, 3, (44, 0, 0), 0, 0, [])), (36, (.aload 0, 1, (0, 0, 0), 0, 0, [])), (37, (.iconst 0, 3, (0, 0, 0), (-1002), 0, [])), (40, (.invokevirtual 0, 3, (2, 124, 90), 0, 0, [])), (43, (.ireturn, 1, (0, 0, 0), 0, 0, [])), (44, (.iconst 0, 1, (0, 0, 0), 0, 0, [])), (45, (.istore 0, 2, (5, 0, 0), 0, 0, [])), (47, (.iconst 0, 1, (0, 0, 0), 0, 0, [])), (48, (.istore 0, 2, (6, 0, 0), 0, 0, [])), (50, (.iload 0, 2, (6, 0, 0), 0, 0, [])), (52, (.aload 0, 1, (0, 0, 0), 0, 0, [])), (53, (.getfield 0, 3, (6, 0, 10), 0, 0, [])), (56, (.getfield 0, 3, (5, 0, 165), 0, 0, [])), (59, (.if_icmp .ge 0, 3, (137, 0, 0), 0, 0, [])), (62, (.aload 0, 1, (0, 0, 0), 0, 0, [])), (63, (.getfield 0, 3, (6, 9, 56), 0, 0, []))],
  [(66, (.aload 0, 2, (4, 0, 0), 0, 0, [])), (68, (.getfield 0, 3, (0, 0, 149), 0, 0, [])), (71, (.aload 0, 2, (4, 0, 0), 0, 0, [])), (73, (.getfield 0, 3, (0, 1, 273), 0, 0, [])), (76, (.iload 0, 2, (6, 0, 0), 0, 0, [])), (78, (.iconst 0, 1, (0, 0, 0), (-1), 0, [])), (79, (.invokevirtual 0, 3, (5, 1, 261), 0, 0, [])), (82, (.aload 0, 1, (0, 0, 0), 0, 0, [])), (83, (.getfield 0, 3, (6, 0, 10), 0, 0, [])), (86, (.aload 0, 1, (0, 0, 0), 0, 0, [])), (87, (.getfield 0, 3, (6, 7, 46), 0, 0, [])), (90, (.aload 0, 1, (0, 0, 0), 0, 0, [])), (91, (.getfield 0, 3, (6, 9, 56), 0, 0, [])), (94, (.aconst_null, 1, (0, 0, 0), 0, 0, [])), (95, (.iload 0, 1, (2, 0, 0), 0, 0, []))],
  [(96, (.invokevirtual 0, 3, (5, 57, 230), 0, 0, [])), (99, (.aload 0, 1, (0, 0, 0), 0, 0, [])), (100, (.getfield 0, 3, (6, 7, 46), 0, 0, [])), (103, (.iload 0, 1, (2, 0, 0), 0, 0, [])), (104, (.invokevirtual 0, 3, (2, 33, 237), 0, 0, [])), (107, (.ifCond .ne 0, 3, (131, 0, 0), 0, 0, [])), (110, (.aload 0, 1, (0, 0, 0), 0, 0, [])), (111, (.getfield 0, 3, (6, 7, 46), 0, 0, [])), (114, (.iload 0, 1, (2, 0, 0), 0, 0, [])), (115, (.invokevirtual 0, 3, (2, 32, 234), 0, 0, [])), (118, (.iload 0, 1, (3, 0, 0), 0, 0, [])), (119, (.if_icmp .ne 0, 3, (131, 0, 0), 0, 0, [])), (122, (.iload 0, 2, (5, 0, 0), 0, 0, [])), (124, (.iconst 0, 1, (0, 0, 0), 1, 0, [])), (125, (.iload 0, 2, (6, 0, 0), 0, 0, [])), (127, (.ishl, 1, (0, 0, 0), 0, 0, []))],
  [(128, (.ior, 1, (0, 0, 0), 0, 0, [])), (129, (.istore 0, 2, (5, 0, 0), 0, 0, [])), (131, (.iinc 0 0, 3, (6, 0, 0), 1, 0, [])), (134, (.goto 0, 3, (50, 0, 0), 0, 0, [])), (137, (.iload 0, 2, (5, 0, 0), 0, 0, [])), (139, (.ireturn, 1, (0, 0, 0), 0, 0, []))]]
set_option maxRecDepth 20000 in
def tX6_pairs : List (List (Nat × XE)) := [[(0, (.iload 0, 1, (2, 0, 0), 0, 0, [])), (1, (.iconst 0, 2, (0, 0, 0), (-2), 0, [])), (3, (.if_icmp .eq 0, 3, (22, 0, 0), 0, 0, [])), (6, (.iload 0, 1, (2, 0, 0), 0, 0, [])), (7, (.iconst 0, 1, (0, 0, 0), (-1), 0, [])), (8, (.if_icmp .eq 0, 3, (22, 0, 0), 0, 0, [])), (11, (.aload 0, 1, (0, 0, 0), 0, 0, [])), (12, (.getfield 0, 3, (6, 0, 10), 0, 0, [])), (15, (.iload 0, 1, (2, 0, 0), 0, 0, [])), (16, (.invokevirtual 0, 3, (2, 42, 139), 0, 0, [])), (19, (.ifnull 0, 3, (26, 0, 0), 0, 0, [])), (22, (.iconst 0, 1, (0, 0, 0), 1, 0, [])), (23, (.goto 0, 3, (27, 0, 0), 0, 0, [])), (26, (.iconst 0, 1, (0, 0, 0), 0, 0, [])), (27, (.istore 0, 1, (3, 0, 0), 0, 0, [])), (28, (.iload 0, 1, (1, 0, 0), 0, 0, [])), (29, (.iconst 0, 1, (0, 0, 0), 1, 0, [])), (30, (.iconst 0, 2, (0, 0, 0), 60, 0, []))],
  [(32, (.invokevirtual 0, 3, (3, 120, 86), 0, 0, [])), (35, (.ifCond .eq 0, 3, (42, 0, 0), 0, 0, [])), (38, (.iload 0, 1, (3, 0, 0), 0, 0, [])), (39, (.ifCond .ne 0, 3, (50, 0, 0), 0, 0, [])), (42, (.aload 0, 1, (0, 0, 0), 0, 0, [])), (43, (.iconst 0, 3, (0, 0, 0), (-1002), 0, [])), (46, (.invokevirtual 0, 3, (2, 124, 90), 0, 0, [])), (49, (.ireturn, 1, (0, 0, 0), 0, 0, [])), (50, (.aload 0, 1, (0, 0, 0), 0, 0, [])), (51, (.iload 0, 1, (1, 0, 0), 0, 0, [])), (52, (.invokevirtual 0, 3, (2, 132, 280), 0, 0, [])), (55, (.aload 0, 1, (0, 0, 0), 0, 0, [])), (56, (.invokevirtual 0, 3, (1, 133, 283), 0, 0, [])), (59, (.iload 0, 1, (2, 0, 0), 0, 0, [])), (60, (.ifCond .lt 0, 3, (69, 0, 0), 0, 0, [])), (63, (.aload 0, 1, (0, 0, 0), 0, 0, []))],
  [(64, (.iload 0, 1, (2, 0, 0), 0, 0, [])), (65, (.invokevirtual 0, 3, (2, 136, 286), 0, 0, [])), (68, (.ireturn, 1, (0, 0, 0), 0, 0, [])), (69, (.aload 0, 1, (0, 0, 0), 0, 0, [])), (70, (.iconst 0, 1, (0, 0, 0), 0, 0, [])), (71, (.iconst 0, 1, (0, 0, 0), 0, 0, [])), (72, (.invokevirtual 0, 3, (3, 134, 289), 0, 0, [])), (75, (.istore 0, 2, (4, 0, 0), 0, 0, [])), (77, (.iload 0, 2, (4, 0, 0), 0, 0, [])), (79, (.iconst 0, 3, (0, 0, 0), 1000, 0, [])), (82, (.iadd, 1, (0, 0, 0), 0, 0, [])), (83, (.iconst 0, 1, (0, 0, 0), 1, 0, [])), (84, (.isub, 1, (0, 0, 0), 0, 0, [])), (85, (.iconst 0, 3, (0, 0, 0), 1000, 0, [])), (88, (.idiv, 1, (0, 0, 0), 0, 0, [])), (89, (.istore 0, 2, (5, 0, 0), 0, 0, [])), (91, (.iload 0, 1, (2, 0, 0), 0, 0, [])), (92, (.iconst 0, 1, (0, 0, 0), (-1), 0, [])), (93, (.if_icmp .ne 0, 3, (108, 0, 0), 0, 0, []))],
  [(96, (.iload 0, 2, (5, 0, 0), 0, 0, [])), (98, (.iconst 0, 3, (0, 0, 0), 1000, 0, [])), (101, (.imul, 1, (0, 0, 0), 0, 0, [])), (102, (.iload 0, 2, (4, 0, 0), 0, 0, [])), (104, (.isub, 1, (0, 0, 0), 0, 0, [])), (105, (.goto 0, 3, (110, 0, 0), 0, 0, [])), (108, (.iload 0, 2, (5, 0, 0), 0, 0, [])), (110, (.ireturn, 1, (0, 0, 0), 0, 0, []))]]
set_option maxRecDepth 20000 in
def tX6_mended : List (List (Nat × XE)) := [[(0, (.aload 0, 1, (0, 0, 0), 0, 0, [])), (1, (.getfield 0, 3, (6, 0, 10), 0, 0, [])), (4, (.iload 0, 1, (1, 0, 0), 0, 0, [])), (5, (.invokevirtual 0, 3, (2, 42, 139), 0, 0, [])), (8, (.astore 0, 1, (3, 0, 0), 0, 0, [])), (9, (.aload 0, 1, (3, 0, 0), 0, 0, [])), (10, (.ifnull 0, 3, (22, 0, 0), 0, 0, [])), (13, (.iload 0, 1, (2, 0, 0), 0, 0, [])), (14, (.iconst 0, 1, (0, 0, 0), 0, 0, [])), (15, (.iconst 0, 1, (0, 0, 0), 1, 0, [])), (16, (.invokevirtual 0, 3, (3, 120, 86), 0, 0, [])), (19, (.ifCond .ne 0, 3, (30, 0, 0), 0, 0, [])), (22, (.aload 0, 1, (0, 0, 0), 0, 0, [])), (23, (.iconst 0, 3, (0, 0, 0), (-1002), 0, [])), (26, (.invokevirtual 0, 3, (2, 124, 90), 0, 0, [])), (29, (.ireturn, 1, (0, 0, 0), 0, 0, [])), (30, (.aload 0, 1, (0, 0, 0), 0, 0, [])), (31, (.getfield 0, 3, (6, 0, 10), 0, 0, []))],
  [(34, (.aload 0, 1, (3, 0, 0), 0, 0, [])), (35, (.invokevirtual 0, 3, (2, 59, 250), 0, 0, [])), (38, (.istore 0, 2, (4, 0, 0), 0, 0, [])), (40, (.aload 0, 1, (0, 0, 0), 0, 0, [])), (41, (.getfield 0, 3, (6, 0, 10), 0, 0, [])), (44, (.aload 0, 1, (0, 0, 0), 0, 0, [])), (45, (.getfield 0, 3, (6, 7, 46), 0, 0, [])), (48, (.aload 0, 1, (3, 0, 0), 0, 0, [])), (49, (.aload 0, 1, (0, 0, 0), 0, 0, [])), (50, (.getfield 0, 3, (6, 0, 10), 0, 0, [])), (53, (.aload 0, 1, (3, 0, 0), 0, 0, [])), (54, (.getfield 0, 3, (0, 3, 227), 0, 0, [])), (57, (.invokevirtual 0, 3, (2, 43, 178), 0, 0, [])), (60, (.iconst 0, 2, (0, 0, 0), 60, 0, [])), (62, (.invokevirtual 0, 3, (5, 57, 230), 0, 0, []))],
  [(65, (.aload 0, 1, (0, 0, 0), 0, 0, [])), (66, (.getfield 0, 3, (6, 7, 46), 0, 0, [])), (69, (.iconst 0, 2, (0, 0, 0), 60, 0, [])), (71, (.invokevirtual 0, 3, (2, 34, 293), 0, 0, [])), (74, (.istore 0, 2, (5, 0, 0), 0, 0, [])), (76, (.iconst 0, 1, (0, 0, 0), (-1), 0, [])), (77, (.istore 0, 2, (6, 0, 0), 0, 0, [])), (79, (.iconst 0, 1, (0, 0, 0), (-1), 0, [])), (80, (.istore 0, 2, (7, 0, 0), 0, 0, [])), (82, (.aload 0, 1, (0, 0, 0), 0, 0, [])), (83, (.getfield 0, 3, (6, 2, 19), 0, 0, [])), (86, (.aload 0, 1, (0, 0, 0), 0, 0, [])), (87, (.getfield 0, 3, (6, 0, 10), 0, 0, [])), (90, (.invokevirtual 0, 3, (2, 41, 212), 0, 0, [])), (93, (.iconst 0, 1, (0, 0, 0), 0, 0, [])), (94, (.istore 0, 2, (8, 0, 0), 0, 0, []))],
  [(96, (.iload 0, 2, (8, 0, 0), 0, 0, [])), (98, (.aload 0, 1, (0, 0, 0), 0, 0, [])), (99, (.getfield 0, 3, (6, 0, 10), 0, 0, [])), (102, (.getfield 0, 3, (5, 0, 165), 0, 0, [])), (105, (.if_icmp .ge 0, 3, (244, 0, 0), 0, 0, [])), (108, (.iload 0, 2, (5, 0, 0), 0, 0, [])), (110, (.iload 0, 2, (8, 0, 0), 0, 0, [])), (112, (.ishr, 1, (0, 0, 0), 0, 0, [])), (113, (.iconst 0, 1, (0, 0, 0), 1, 0, [])), (114, (.iand, 1, (0, 0, 0), 0, 0, [])), (115, (.ifCond .eq 0, 3, (122, 0, 0), 0, 0, [])), (118, (.iconst 0, 1, (0, 0, 0), 1, 0, [])), (119, (.goto 0, 3, (123, 0, 0), 0, 0, [])), (122, (.iconst 0, 1, (0, 0, 0), 0, 0, [])), (123, (.istore 0, 2, (9, 0, 0), 0, 0, [])), (125, (.aload 0, 1, (0, 0, 0), 0, 0, [])), (126, (.getfield 0, 3, (6, 0, 10), 0, 0, []))],
  [(129, (.iload 0, 2, (8, 0, 0), 0, 0, [])), (131, (.invokevirtual 0, 3, (2, 47, 194), 0, 0, [])), (134, (.istore 0, 2, (10, 0, 0), 0, 0, [])), (136, (.iconst 0, 1, (0, 0, 0), 0, 0, [])), (137, (.istore 0, 2, (11, 0, 0), 0, 0, [])), (139, (.iload 0, 2, (11, 0, 0), 0, 0, [])), (141, (.iconst 0, 2, (0, 0, 0), 6, 0, [])), (143, (.if_icmp .gt 0, 3, (227, 0, 0), 0, 0, [])), (146, (.aload 0, 1, (0, 0, 0), 0, 0, [])), (147, (.getfield 0, 3, (6, 2, 19), 0, 0, [])), (150, (.iload 0, 2, (8, 0, 0), 0, 0, [])), (152, (.iload 0, 2, (11, 0, 0), 0, 0, [])), (154, (.invokevirtual 0, 3, (3, 48, 197), 0, 0, [])), (157, (.iload 0, 2, (11, 0, 0), 0, 0, [])), (159, (.iload 0, 2, (10, 0, 0), 0, 0, []))],
  [(161, (.if_icmp .ne 0, 3, (168, 0, 0), 0, 0, [])), (164, (.iconst 0, 1, (0, 0, 0), (-1), 0, [])), (165, (.goto 0, 3, (186, 0, 0), 0, 0, [])), (168, (.iload 0, 2, (9, 0, 0), 0, 0, [])), (170, (.ifCond .eq 0, 3, (184, 0, 0), 0, 0, [])), (173, (.aload 0, 1, (0, 0, 0), 0, 0, [])), (174, (.getfield 0, 3, (6, 2, 19), 0, 0, [])), (177, (.aload 0, 1, (3, 0, 0), 0, 0, [])), (178, (.invokevirtual 0, 3, (2, 59, 250), 0, 0, [])), (181, (.goto 0, 3, (186, 0, 0), 0, 0, [])), (184, (.iload 0, 2, (4, 0, 0), 0, 0, [])), (186, (.istore 0, 2, (12, 0, 0), 0, 0, [])), (188, (.iload 0, 2, (12, 0, 0), 0, 0, [])), (190, (.iconst 0, 1, (0, 0, 0), (-1), 0, [])), (191, (.if_icmp .eq 0, 3, (221, 0, 0), 0, 0, []))],
  [(194, (.iload 0, 2, (7, 0, 0), 0, 0, [])), (196, (.iconst 0, 1, (0, 0, 0), (-1), 0, [])), (197, (.if_icmp .eq 0, 3, (207, 0, 0), 0, 0, [])), (200, (.iload 0, 2, (12, 0, 0), 0, 0, [])), (202, (.iload 0, 2, (7, 0, 0), 0, 0, [])), (204, (.if_icmp .ge 0, 3, (221, 0, 0), 0, 0, [])), (207, (.iload 0, 2, (12, 0, 0), 0, 0, [])), (209, (.istore 0, 2, (7, 0, 0), 0, 0, [])), (211, (.iconst 0, 2, (0, 0, 0), 10, 0, [])), (213, (.iload 0, 2, (8, 0, 0), 0, 0, [])), (215, (.imul, 1, (0, 0, 0), 0, 0, [])), (216, (.iload 0, 2, (11, 0, 0), 0, 0, [])), (218, (.iadd, 1, (0, 0, 0), 0, 0, [])), (219, (.istore 0, 2, (6, 0, 0), 0, 0, [])), (221, (.iinc 0 0, 3, (11, 0, 0), 1, 0, []))],
  [(224, (.goto 0, 3, (139, 0, 0), 0, 0, [])), (227, (.aload 0, 1, (0, 0, 0), 0, 0, [])), (228, (.getfield 0, 3, (6, 2, 19), 0, 0, [])), (231, (.iload 0, 2, (8, 0, 0), 0, 0, [])), (233, (.iload 0, 2, (10, 0, 0), 0, 0, [])), (235, (.invokevirtual 0, 3, (3, 48, 197), 0, 0, [])), (238, (.iinc 0 0, 3, (8, 0, 0), 1, 0, [])), (241, (.goto 0, 3, (96, 0, 0), 0, 0, [])), (244, (.iload 0, 1, (2, 0, 0), 0, 0, [])), (245, (.ifCond .ne 0, 3, (253, 0, 0), 0, 0, [])), (248, (.iload 0, 2, (6, 0, 0), 0, 0, [])), (250, (.goto 0, 3, (255, 0, 0), 0, 0, [])), (253, (.iload 0, 2, (7, 0, 0), 0, 0, [])), (255, (.ireturn, 1, (0, 0, 0), 0, 0, []))]]
set_option maxRecDepth 20000 in
def tX6_odds : List (List (Nat × XE)) := [[(0, (.aload 0, 1, (0, 0, 0), 0, 0, [])), (1, (.getfield 0, 3, (6, 0, 10), 0, 0, [])), (4, (.iload 0, 1, (1, 0, 0), 0, 0, [])), (5, (.invokevirtual 0, 3, (2, 42, 139), 0, 0, [])), (8, (.astore 0, 2, (4, 0, 0), 0, 0, [])), (10, (.aload 0, 2, (4, 0, 0), 0, 0, [])), (12, (.ifnull 0, 3, (33, 0, 0), 0, 0, [])), (15, (.iload 0, 1, (2, 0, 0), 0, 0, [])), (16, (.iconst 0, 1, (0, 0, 0), 0, 0, [])), (17, (.iconst 0, 1, (0, 0, 0), 4, 0, [])), (18, (.invokevirtual 0, 3, (3, 120, 86), 0, 0, [])), (21, (.ifCond .eq 0, 3, (33, 0, 0), 0, 0, [])), (24, (.iload 0, 1, (3, 0, 0), 0, 0, [])), (25, (.iconst 0, 1, (0, 0, 0), 0, 0, [])), (26, (.iconst 0, 1, (0, 0, 0), 1, 0, [])), (27, (.invokevirtual 0, 3, (3, 120, 86), 0, 0, [])), (30, (.ifCond .ne 0, 3, (41, 0, 0), 0, 0, []))],
  [(33, (.aload 0, 1, (0, 0, 0), 0, 0, [])), (34, (.iconst 0, 3, (0, 0, 0), (-1002), 0, [])), (37, (.invokevirtual 0, 3, (2, 124, 90), 0, 0, [])), (40, (.ireturn, 1, (0, 0, 0), 0, 0, [])), (41, (.iload 0, 1, (3, 0, 0), 0, 0, [])), (42, (.ifCond .ne 0, 3, (49, 0, 0), 0, 0, [])), (45, (.iconst 0, 1, (0, 0, 0), 1, 0, [])), (46, (.goto 0, 3, (50, 0, 0), 0, 0, [])), (49, (.iconst 0, 1, (0, 0, 0), 2, 0, [])), (50, (.istore 0, 2, (5, 0, 0), 0, 0, [])), (52, (.iconst 0, 1, (0, 0, 0), 1, 0, [])), (53, (.istore 0, 2, (6, 0, 0), 0, 0, [])), (55, (.iconst 0, 1, (0, 0, 0), 0, 0, [])), (56, (.istore 0, 2, (7, 0, 0), 0, 0, [])), (58, (.iload 0, 2, (7, 0, 0), 0, 0, [])), (60, (.iload 0, 1, (2, 0, 0), 0, 0, [])), (61, (.if_icmp .ge 0, 3, (76, 0, 0), 0, 0, []))],
  [(64, (.iload 0, 2, (6, 0, 0), 0, 0, [])), (66, (.iconst 0, 1, (0, 0, 0), 5, 0, [])), (67, (.imul, 1, (0, 0, 0), 0, 0, [])), (68, (.istore 0, 2, (6, 0, 0), 0, 0, [])), (70, (.iinc 0 0, 3, (7, 0, 0), 1, 0, [])), (73, (.goto 0, 3, (58, 0, 0), 0, 0, [])), (76, (.iconst 0, 1, (0, 0, 0), 0, 0, [])), (77, (.istore 0, 2, (7, 0, 0), 0, 0, [])), (79, (.aload 0, 1, (0, 0, 0), 0, 0, [])), (80, (.getfield 0, 3, (6, 2, 19), 0, 0, [])), (83, (.aload 0, 1, (0, 0, 0), 0, 0, [])), (84, (.getfield 0, 3, (6, 0, 10), 0, 0, [])), (87, (.invokevirtual 0, 3, (2, 41, 212), 0, 0, [])), (90, (.iconst 0, 1, (0, 0, 0), 0, 0, [])), (91, (.istore 0, 2, (8, 0, 0), 0, 0, [])), (93, (.iload 0, 2, (8, 0, 0), 0, 0, [])), (95, (.iload 0, 2, (6, 0, 0), 0, 0, []))],
  [(97, (.if_icmp .ge 0, 3, (123, 0, 0), 0, 0, [])), (100, (.aload 0, 1, (0, 0, 0), 0, 0, [])), (101, (.aload 0, 2, (4, 0, 0), 0, 0, [])), (103, (.iload 0, 1, (2, 0, 0), 0, 0, [])), (104, (.iload 0, 2, (8, 0, 0), 0, 0, [])), (106, (.invokevirtual 0, 3, (4, 130, 296), 0, 0, [])), (109, (.iload 0, 2, (5, 0, 0), 0, 0, [])), (111, (.if_icmp .ne 0, 3, (117, 0, 0), 0, 0, [])), (114, (.iinc 0 0, 3, (7, 0, 0), 1, 0, [])), (117, (.iinc 0 0, 3, (8, 0, 0), 1, 0, [])), (120, (.goto 0, 3, (93, 0, 0), 0, 0, [])), (123, (.iload 0, 2, (6, 0, 0), 0, 0, [])), (125, (.ifCond .gt 0, 3, (132, 0, 0), 0, 0, []))],
  [(128, (.iconst 0, 1, (0, 0, 0), 0, 0, [])), (129, (.goto 0, 3, (141, 0, 0), 0, 0, [])), (132, (.iload 0, 2, (7, 0, 0), 0, 0, [])), (134, (.iconst 0, 3, (300, 1, 0), 1000000, 0, [])), (137, (.imul, 1, (0, 0, 0), 0, 0, [])), (138, (.iload 0, 2, (6, 0, 0), 0, 0, [])), (140, (.idiv, 1, (0, 0, 0), 0, 0, [])), (141, (.ireturn, 1, (0, 0, 0), 0, 0, []))]]
set_option maxRecDepth 20000 in
def tX6_windFor : List (List (Nat × XE)) := [[(0, (.aload 0, 1, (0, 0, 0), 0, 0, [])), (1, (.getfield 0, 3, (6, 0, 10), 0, 0, [])), (4, (.iload 0, 1, (1, 0, 0), 0, 0, [])), (5, (.invokevirtual 0, 3, (2, 42, 139), 0, 0, [])), (8, (.astore 0, 1, (2, 0, 0), 0, 0, [])), (9, (.aload 0, 1, (2, 0, 0), 0, 0, [])), (10, (.ifnonnull 0, 3, (21, 0, 0), 0, 0, [])), (13, (.aload 0, 1, (0, 0, 0), 0, 0, [])), (14, (.iconst 0, 3, (0, 0, 0), (-1002), 0, [])), (17, (.invokevirtual 0, 3, (2, 124, 90), 0, 0, [])), (20, (.ireturn, 1, (0, 0, 0), 0, 0, [])), (21, (.iconst 0, 1, (0, 0, 0), (-1), 0, [])), (22, (.istore 0, 1, (3, 0, 0), 0, 0, [])), (23, (.iconst 0, 1, (0, 0, 0), (-1), 0, [])), (24, (.istore 0, 2, (4, 0, 0), 0, 0, [])), (26, (.aload 0, 1, (0, 0, 0), 0, 0, [])), (27, (.getfield 0, 3, (6, 2, 19), 0, 0, [])), (30, (.aload 0, 1, (0, 0, 0), 0, 0, [])), (31, (.getfield 0, 3, (6, 0, 10), 0, 0, []))],
  [(34, (.invokevirtual 0, 3, (2, 41, 212), 0, 0, [])), (37, (.iconst 0, 1, (0, 0, 0), 0, 0, [])), (38, (.istore 0, 2, (5, 0, 0), 0, 0, [])), (40, (.iload 0, 2, (5, 0, 0), 0, 0, [])), (42, (.iconst 0, 1, (0, 0, 0), 5, 0, [])), (43, (.if_icmp .ge 0, 3, (97, 0, 0), 0, 0, [])), (46, (.aload 0, 1, (0, 0, 0), 0, 0, [])), (47, (.getfield 0, 3, (6, 2, 19), 0, 0, [])), (50, (.iload 0, 2, (5, 0, 0), 0, 0, [])), (52, (.putfield 0, 3, (5, 1, 200), 0, 0, [])), (55, (.aload 0, 1, (0, 0, 0), 0, 0, [])), (56, (.getfield 0, 3, (6, 2, 19), 0, 0, [])), (59, (.aload 0, 1, (2, 0, 0), 0, 0, [])), (60, (.invokevirtual 0, 3, (2, 59, 250), 0, 0, [])), (63, (.istore 0, 2, (6, 0, 0), 0, 0, []))],
  [(65, (.iload 0, 2, (6, 0, 0), 0, 0, [])), (67, (.iconst 0, 1, (0, 0, 0), (-1), 0, [])), (68, (.if_icmp .eq 0, 3, (91, 0, 0), 0, 0, [])), (71, (.iload 0, 2, (4, 0, 0), 0, 0, [])), (73, (.iconst 0, 1, (0, 0, 0), (-1), 0, [])), (74, (.if_icmp .eq 0, 3, (84, 0, 0), 0, 0, [])), (77, (.iload 0, 2, (6, 0, 0), 0, 0, [])), (79, (.iload 0, 2, (4, 0, 0), 0, 0, [])), (81, (.if_icmp .ge 0, 3, (91, 0, 0), 0, 0, [])), (84, (.iload 0, 2, (6, 0, 0), 0, 0, [])), (86, (.istore 0, 2, (4, 0, 0), 0, 0, [])), (88, (.iload 0, 2, (5, 0, 0), 0, 0, [])), (90, (.istore 0, 1, (3, 0, 0), 0, 0, [])), (91, (.iinc 0 0, 3, (5, 0, 0), 1, 0, [])), (94, (.goto 0, 3, (40, 0, 0), 0, 0, []))],
  [(97, (.iload 0, 1, (3, 0, 0), 0, 0, [])), (98, (.ireturn, 1, (0, 0, 0), 0, 0, []))]]
set_option maxRecDepth 20000 in
def tX6_bestWind : List (List (Nat × XE)) := [[(0, (.iload 0, 1, (1, 0, 0), 0, 0, [])), (1, (.iconst 0, 1, (0, 0, 0), 0, 0, [])), (2, (.iconst 0, 2, (0, 0, 0), 60, 0, [])), (4, (.invokevirtual 0, 3, (3, 120, 86), 0, 0, [])), (7, (.ifCond .eq 0, 3, (19, 0, 0), 0, 0, [])), (10, (.iload 0, 1, (2, 0, 0), 0, 0, [])), (11, (.iconst 0, 1, (0, 0, 0), 0, 0, [])), (12, (.iconst 0, 1, (0, 0, 0), 1, 0, [])), (13, (.invokevirtual 0, 3, (3, 120, 86), 0, 0, [])), (16, (.ifCond .ne 0, 3, (27, 0, 0), 0, 0, [])), (19, (.aload 0, 1, (0, 0, 0), 0, 0, [])), (20, (.iconst 0, 3, (0, 0, 0), (-1002), 0, [])), (23, (.invokevirtual 0, 3, (2, 124, 90), 0, 0, [])), (26, (.ireturn, 1, (0, 0, 0), 0, 0, [])), (27, (.iconst 0, 1, (0, 0, 0), 0, 0, [])), (28, (.istore 0, 1, (3, 0, 0), 0, 0, [])), (29, (.iconst 0, 1, (0, 0, 0), (-1), 0, [])), (30, (.istore 0, 2, (4, 0, 0), 0, 0, []))],
  [(32, (.aload 0, 1, (0, 0, 0), 0, 0, [])), (33, (.getfield 0, 3, (6, 2, 19), 0, 0, [])), (36, (.aload 0, 1, (0, 0, 0), 0, 0, [])), (37, (.getfield 0, 3, (6, 0, 10), 0, 0, [])), (40, (.invokevirtual 0, 3, (2, 41, 212), 0, 0, [])), (43, (.iconst 0, 1, (0, 0, 0), 0, 0, [])), (44, (.istore 0, 2, (5, 0, 0), 0, 0, [])), (46, (.iload 0, 2, (5, 0, 0), 0, 0, [])), (48, (.iconst 0, 1, (0, 0, 0), 5, 0, [])), (49, (.if_icmp .ge 0, 3, (91, 0, 0), 0, 0, [])), (52, (.aload 0, 1, (0, 0, 0), 0, 0, [])), (53, (.getfield 0, 3, (6, 2, 19), 0, 0, [])), (56, (.iload 0, 2, (5, 0, 0), 0, 0, [])), (58, (.putfield 0, 3, (5, 1, 200), 0, 0, [])), (61, (.aload 0, 1, (0, 0, 0), 0, 0, [])), (62, (.getfield 0, 3, (6, 2, 19), 0, 0, []))],
  [(65, (.iload 0, 1, (1, 0, 0), 0, 0, [])), (66, (.invokevirtual 0, 3, (2, 60, 247), 0, 0, [])), (69, (.istore 0, 2, (6, 0, 0), 0, 0, [])), (71, (.iload 0, 2, (6, 0, 0), 0, 0, [])), (73, (.iload 0, 2, (4, 0, 0), 0, 0, [])), (75, (.if_icmp .le 0, 3, (85, 0, 0), 0, 0, [])), (78, (.iload 0, 2, (6, 0, 0), 0, 0, [])), (80, (.istore 0, 2, (4, 0, 0), 0, 0, [])), (82, (.iload 0, 2, (5, 0, 0), 0, 0, [])), (84, (.istore 0, 1, (3, 0, 0), 0, 0, [])), (85, (.iinc 0 0, 3, (5, 0, 0), 1, 0, [])), (88, (.goto 0, 3, (46, 0, 0), 0, 0, [])), (91, (.iload 0, 1, (2, 0, 0), 0, 0, [])), (92, (.ifCond .ne 0, 3, (99, 0, 0), 0, 0, [])), (95, (.iload 0, 1, (3, 0, 0), 0, 0, []))],
  [(96, (.goto 0, 3, (101, 0, 0), 0, 0, [])), (99, (.iload 0, 2, (4, 0, 0), 0, 0, [])), (101, (.ireturn, 1, (0, 0, 0), 0, 0, []))]]
set_option maxRecDepth 20000 in
def tX6_who : List (List (Nat × XE)) := [[(0, (.iload 0, 1, (1, 0, 0), 0, 0, [])), (1, (.iconst 0, 1, (0, 0, 0), 0, 0, [])), (2, (.iconst 0, 1, (0, 0, 0), 3, 0, [])), (3, (.invokevirtual 0, 3, (3, 120, 86), 0, 0, [])), (6, (.ifCond .ne 0, 3, (17, 0, 0), 0, 0, [])), (9, (.aload 0, 1, (0, 0, 0), 0, 0, [])), (10, (.iconst 0, 3, (0, 0, 0), (-1002), 0, [])), (13, (.invokevirtual 0, 3, (2, 124, 90), 0, 0, [])), (16, (.ireturn, 1, (0, 0, 0), 0, 0, [])), (17, (.iconst 0, 1, (0, 0, 0), 0, 0, [])), (18, (.istore 0, 1, (2, 0, 0), 0, 0, [])), (19, (.iconst 0, 1, (0, 0, 0), 0, 0, [])), (20, (.istore 0, 1, (3, 0, 0), 0, 0, [])), (21, (.iload 0, 1, (3, 0, 0), 0, 0, [])), (22, (.aload 0, 1, (0, 0, 0), 0, 0, [])), (23, (.getfield 0, 3, (6, 0, 10), 0, 0, [])), (26, (.getfield 0, 3, (5, 5, 301), 0, 0, [])), (29, (.if_icmp .ge 0, 3, (117, 0, 0), 0, 0, []))],
  [(32, (.aload 0, 1, (0, 0, 0), 0, 0, [])), (33, (.getfield 0, 3, (6, 0, 10), 0, 0, [])), (36, (.iload 0, 1, (3, 0, 0), 0, 0, [])), (37, (.invokevirtual 0, 3, (2, 42, 139), 0, 0, [])), (40, (.astore 0, 2, (4, 0, 0), 0, 0, [])), (42, (.aload 0, 2, (4, 0, 0), 0, 0, [])), (44, (.ifnonnull 0, 3, (50, 0, 0), 0, 0, [])), (47, (.goto 0, 3, (111, 0, 0), 0, 0, [])), (50, (.iload 0, 1, (1, 0, 0), 0, 0, [])), (51, (.iconst 0, 1, (0, 0, 0), 3, 0, [])), (52, (.if_icmp .ne 0, 3, (84, 0, 0), 0, 0, [])), (55, (.aload 0, 2, (4, 0, 0), 0, 0, [])), (57, (.getfield 0, 3, (0, 4, 304), 0, 0, [])), (60, (.ifCond .ne 0, 3, (80, 0, 0), 0, 0, [])), (63, (.aload 0, 1, (0, 0, 0), 0, 0, []))],
  [(64, (.getfield 0, 3, (6, 0, 10), 0, 0, [])), (67, (.aload 0, 2, (4, 0, 0), 0, 0, [])), (69, (.invokevirtual 0, 3, (2, 59, 250), 0, 0, [])), (72, (.iconst 0, 1, (0, 0, 0), (-1), 0, [])), (73, (.if_icmp .eq 0, 3, (80, 0, 0), 0, 0, [])), (76, (.iconst 0, 1, (0, 0, 0), 1, 0, [])), (77, (.goto 0, 3, (98, 0, 0), 0, 0, [])), (80, (.iconst 0, 1, (0, 0, 0), 0, 0, [])), (81, (.goto 0, 3, (98, 0, 0), 0, 0, [])), (84, (.aload 0, 2, (4, 0, 0), 0, 0, [])), (86, (.getfield 0, 3, (0, 4, 304), 0, 0, [])), (89, (.iload 0, 1, (1, 0, 0), 0, 0, [])), (90, (.if_icmp .ne 0, 3, (97, 0, 0), 0, 0, [])), (93, (.iconst 0, 1, (0, 0, 0), 1, 0, [])), (94, (.goto 0, 3, (98, 0, 0), 0, 0, []))],
  [(97, (.iconst 0, 1, (0, 0, 0), 0, 0, [])), (98, (.istore 0, 2, (5, 0, 0), 0, 0, [])), (100, (.iload 0, 2, (5, 0, 0), 0, 0, [])), (102, (.ifCond .eq 0, 3, (111, 0, 0), 0, 0, [])), (105, (.iload 0, 1, (2, 0, 0), 0, 0, [])), (106, (.iconst 0, 1, (0, 0, 0), 1, 0, [])), (107, (.iload 0, 1, (3, 0, 0), 0, 0, [])), (108, (.ishl, 1, (0, 0, 0), 0, 0, [])), (109, (.ior, 1, (0, 0, 0), 0, 0, [])), (110, (.istore 0, 1, (2, 0, 0), 0, 0, [])), (111, (.iinc 0 0, 3, (3, 0, 0), 1, 0, [])), (114, (.goto 0, 3, (21, 0, 0), 0, 0, [])), (117, (.iload 0, 1, (2, 0, 0), 0, 0, [])), (118, (.ireturn, 1, (0, 0, 0), 0, 0, []))]]
set_option maxRecDepth 20000 in
def tX6_there : List (List (Nat × XE)) := [[(0, (.aload 0, 1, (0, 0, 0), 0, 0, [])), (1, (.getfield 0, 3, (6, 0, 10), 0, 0, [])), (4, (.iload 0, 1, (1, 0, 0), 0, 0, [])), (5, (.invokevirtual 0, 3, (2, 44, 168), 0, 0, [])), (8, (.ifCond .eq 0, 3, (20, 0, 0), 0, 0, [])), (11, (.iload 0, 1, (2, 0, 0), 0, 0, [])), (12, (.iconst 0, 1, (0, 0, 0), 0, 0, [])), (13, (.iconst 0, 1, (0, 0, 0), 1, 0, [])), (14, (.invokevirtual 0, 3, (3, 120, 86), 0, 0, [])), (17, (.ifCond .ne 0, 3, (28, 0, 0), 0, 0, [])), (20, (.aload 0, 1, (0, 0, 0), 0, 0, [])), (21, (.iconst 0, 3, (0, 0, 0), (-1002), 0, [])), (24, (.invokevirtual 0, 3, (2, 124, 90), 0, 0, [])), (27, (.ireturn, 1, (0, 0, 0), 0, 0, [])), (28, (.iload 0, 1, (2, 0, 0), 0, 0, [])), (29, (.ifCond .ne 0, 3, (43, 0, 0), 0, 0, []))],
  [(32, (.aload 0, 1, (0, 0, 0), 0, 0, [])), (33, (.getfield 0, 3, (6, 0, 10), 0, 0, [])), (36, (.iload 0, 1, (1, 0, 0), 0, 0, [])), (37, (.invokevirtual 0, 3, (2, 52, 307), 0, 0, [])), (40, (.goto 0, 3, (51, 0, 0), 0, 0, [])), (43, (.aload 0, 1, (0, 0, 0), 0, 0, [])), (44, (.getfield 0, 3, (6, 0, 10), 0, 0, [])), (47, (.iload 0, 1, (1, 0, 0), 0, 0, [])), (48, (.invokevirtual 0, 3, (2, 53, 310), 0, 0, [])), (51, (.ireturn, 1, (0, 0, 0), 0, 0, []))]]
set_option maxRecDepth 20000 in
def tX6_settles : List (List (Nat × XE)) := [[(0, (.aload 0, 1, (0, 0, 0), 0, 0, [])), (1, (.getfield 0, 3, (6, 0, 10), 0, 0, [])), (4, (.iload 0, 1, (1, 0, 0), 0, 0, [])), (5, (.invokevirtual 0, 3, (2, 42, 139), 0, 0, [])), (8, (.astore 0, 1, (2, 0, 0), 0, 0, [])), (9, (.aload 0, 1, (2, 0, 0), 0, 0, [])), (10, (.ifnonnull 0, 3, (21, 0, 0), 0, 0, [])), (13, (.aload 0, 1, (0, 0, 0), 0, 0, [])), (14, (.iconst 0, 3, (0, 0, 0), (-1002), 0, [])), (17, (.invokevirtual 0, 3, (2, 124, 90), 0, 0, [])), (20, (.ireturn, 1, (0, 0, 0), 0, 0, [])), (21, (.aload 0, 1, (0, 0, 0), 0, 0, [])), (22, (.getfield 0, 3, (6, 0, 10), 0, 0, [])), (25, (.aload 0, 1, (0, 0, 0), 0, 0, [])), (26, (.getfield 0, 3, (6, 7, 46), 0, 0, [])), (29, (.aload 0, 1, (2, 0, 0), 0, 0, [])), (30, (.aconst_null, 1, (0, 0, 0), 0, 0, [])), (31, (.iconst 0, 2, (0, 0, 0), 60, 0, []))],
  [(33, (.invokevirtual 0, 3, (5, 57, 230), 0, 0, [])), (36, (.iconst 0, 1, (0, 0, 0), 1, 0, [])), (37, (.aload 0, 1, (0, 0, 0), 0, 0, [])), (38, (.getfield 0, 3, (6, 7, 46), 0, 0, [])), (41, (.iconst 0, 1, (0, 0, 0), 0, 0, [])), (42, (.invokevirtual 0, 3, (2, 32, 234), 0, 0, [])), (45, (.ishl, 1, (0, 0, 0), 0, 0, [])), (46, (.istore 0, 1, (3, 0, 0), 0, 0, [])), (47, (.iconst 0, 1, (0, 0, 0), 1, 0, [])), (48, (.istore 0, 2, (4, 0, 0), 0, 0, [])), (50, (.iload 0, 2, (4, 0, 0), 0, 0, [])), (52, (.iconst 0, 2, (0, 0, 0), 60, 0, [])), (54, (.if_icmp .gt 0, 3, (106, 0, 0), 0, 0, [])), (57, (.iconst 0, 1, (0, 0, 0), 1, 0, [])), (58, (.aload 0, 1, (0, 0, 0), 0, 0, [])), (59, (.getfield 0, 3, (6, 7, 46), 0, 0, [])), (62, (.iload 0, 2, (4, 0, 0), 0, 0, []))],
  [(64, (.invokevirtual 0, 3, (2, 32, 234), 0, 0, [])), (67, (.ishl, 1, (0, 0, 0), 0, 0, [])), (68, (.istore 0, 2, (5, 0, 0), 0, 0, [])), (70, (.aload 0, 1, (0, 0, 0), 0, 0, [])), (71, (.getfield 0, 3, (6, 7, 46), 0, 0, [])), (74, (.iload 0, 2, (4, 0, 0), 0, 0, [])), (76, (.invokevirtual 0, 3, (2, 33, 237), 0, 0, [])), (79, (.iconst 0, 1, (0, 0, 0), 2, 0, [])), (80, (.if_icmp .ne 0, 3, (85, 0, 0), 0, 0, [])), (83, (.iconst 0, 1, (0, 0, 0), (-1), 0, [])), (84, (.ireturn, 1, (0, 0, 0), 0, 0, [])), (85, (.iload 0, 1, (3, 0, 0), 0, 0, [])), (86, (.iload 0, 2, (5, 0, 0), 0, 0, [])), (88, (.iand, 1, (0, 0, 0), 0, 0, [])), (89, (.ifCond .eq 0, 3, (95, 0, 0), 0, 0, [])), (92, (.iload 0, 2, (4, 0, 0), 0, 0, [])), (94, (.ireturn, 1, (0, 0, 0), 0, 0, [])), (95, (.iload 0, 1, (3, 0, 0), 0, 0, []))],
  [(96, (.iload 0, 2, (5, 0, 0), 0, 0, [])), (98, (.ior, 1, (0, 0, 0), 0, 0, [])), (99, (.istore 0, 1, (3, 0, 0), 0, 0, [])), (100, (.iinc 0 0, 3, (4, 0, 0), 1, 0, [])), (103, (.goto 0, 3, (50, 0, 0), 0, 0, [])), (106, (.iconst 0, 1, (0, 0, 0), (-1), 0, [])), (107, (.ireturn, 1, (0, 0, 0), 0, 0, []))]]
set_option maxRecDepth 20000 in
def tX6_reach : List (List (Nat × XE)) := [[(0, (.aload 0, 1, (0, 0, 0), 0, 0, [])), (1, (.getfield 0, 3, (6, 0, 10), 0, 0, [])), (4, (.iload 0, 1, (1, 0, 0), 0, 0, [])), (5, (.invokevirtual 0, 3, (2, 42, 139), 0, 0, [])), (8, (.astore 0, 1, (3, 0, 0), 0, 0, [])), (9, (.aload 0, 1, (3, 0, 0), 0, 0, [])), (10, (.ifnull 0, 3, (22, 0, 0), 0, 0, [])), (13, (.iload 0, 1, (2, 0, 0), 0, 0, [])), (14, (.iconst 0, 1, (0, 0, 0), 0, 0, [])), (15, (.iconst 0, 1, (0, 0, 0), 1, 0, [])), (16, (.invokevirtual 0, 3, (3, 120, 86), 0, 0, [])), (19, (.ifCond .ne 0, 3, (30, 0, 0), 0, 0, [])), (22, (.aload 0, 1, (0, 0, 0), 0, 0, [])), (23, (.iconst 0, 3, (0, 0, 0), (-1002), 0, [])), (26, (.invokevirtual 0, 3, (2, 124, 90), 0, 0, [])), (29, (.ireturn, 1, (0, 0, 0), 0, 0, [])), (30, (.aload 0, 1, (0, 0, 0), 0, 0, [])), (31, (.getfield 0, 3, (6, 0, 10), 0, 0, []))],
  [(34, (.aload 0, 1, (0, 0, 0), 0, 0, [])), (35, (.getfield 0, 3, (6, 7, 46), 0, 0, [])), (38, (.aload 0, 1, (3, 0, 0), 0, 0, [])), (39, (.aconst_null, 1, (0, 0, 0), 0, 0, [])), (40, (.iconst 0, 2, (0, 0, 0), 60, 0, [])), (42, (.invokevirtual 0, 3, (5, 57, 230), 0, 0, [])), (45, (.aload 0, 1, (0, 0, 0), 0, 0, [])), (46, (.getfield 0, 3, (6, 7, 46), 0, 0, [])), (49, (.iconst 0, 1, (0, 0, 0), 0, 0, [])), (50, (.invokevirtual 0, 3, (2, 32, 234), 0, 0, [])), (53, (.istore 0, 2, (4, 0, 0), 0, 0, [])), (55, (.iconst 0, 1, (0, 0, 0), 1, 0, [])), (56, (.istore 0, 2, (5, 0, 0), 0, 0, [])), (58, (.iload 0, 2, (5, 0, 0), 0, 0, [])), (60, (.iconst 0, 2, (0, 0, 0), 60, 0, [])), (62, (.if_icmp .gt 0, 3, (105, 0, 0), 0, 0, []))],
  [(65, (.aload 0, 1, (0, 0, 0), 0, 0, [])), (66, (.getfield 0, 3, (6, 7, 46), 0, 0, [])), (69, (.iload 0, 2, (5, 0, 0), 0, 0, [])), (71, (.invokevirtual 0, 3, (2, 32, 234), 0, 0, [])), (74, (.istore 0, 2, (6, 0, 0), 0, 0, [])), (76, (.iload 0, 1, (2, 0, 0), 0, 0, [])), (77, (.ifCond .ne 0, 3, (90, 0, 0), 0, 0, [])), (80, (.iload 0, 2, (4, 0, 0), 0, 0, [])), (82, (.iload 0, 2, (6, 0, 0), 0, 0, [])), (84, (.dsub, 3, (0, 0, 313), 0, 0, [])), (87, (.goto 0, 3, (97, 0, 0), 0, 0, [])), (90, (.iload 0, 2, (4, 0, 0), 0, 0, [])), (92, (.iload 0, 2, (6, 0, 0), 0, 0, [])), (94, (.dadd, 3, (0, 0, 318), 0, 0, []))],
  [(97, (.istore 0, 2, (4, 0, 0), 0, 0, [])), (99, (.iinc 0 0, 3, (5, 0, 0), 1, 0, [])), (102, (.goto 0, 3, (58, 0, 0), 0, 0, [])), (105, (.iload 0, 2, (4, 0, 0), 0, 0, [])), (107, (.ireturn, 1, (0, 0, 0), 0, 0, []))]]
set_option maxRecDepth 20000 in
def tX6_busiest : List (List (Nat × XE)) := [[(0, (.iload 0, 1, (1, 0, 0), 0, 0, [])), (1, (.iconst 0, 1, (0, 0, 0), 0, 0, [])), (2, (.iconst 0, 1, (0, 0, 0), 1, 0, [])), (3, (.invokevirtual 0, 3, (3, 120, 86), 0, 0, [])), (6, (.ifCond .ne 0, 3, (17, 0, 0), 0, 0, [])), (9, (.aload 0, 1, (0, 0, 0), 0, 0, [])), (10, (.iconst 0, 3, (0, 0, 0), (-1002), 0, [])), (13, (.invokevirtual 0, 3, (2, 124, 90), 0, 0, [])), (16, (.ireturn, 1, (0, 0, 0), 0, 0, [])), (17, (.aload 0, 1, (0, 0, 0), 0, 0, [])), (18, (.invokevirtual 0, 3, (1, 131, 321), 0, 0, [])), (21, (.iconst 0, 1, (0, 0, 0), 0, 0, [])), (22, (.istore 0, 1, (2, 0, 0), 0, 0, [])), (23, (.iconst 0, 1, (0, 0, 0), (-1), 0, [])), (24, (.istore 0, 1, (3, 0, 0), 0, 0, [])), (25, (.iconst 0, 1, (0, 0, 0), 0, 0, [])), (26, (.istore 0, 2, (4, 0, 0), 0, 0, [])), (28, (.iload 0, 2, (4, 0, 0), 0, 0, [])), (30, (.aload 0, 1, (0, 0, 0), 0, 0, [])), (31, (.getfield 0, 3, (6, 0, 10), 0, 0, []))],
  [(34, (.getfield 0, 3, (5, 0, 165), 0, 0, [])), (37, (.if_icmp .ge 0, 3, (109, 0, 0), 0, 0, [])), (40, (.iconst 0, 1, (0, 0, 0), 0, 0, [])), (41, (.istore 0, 2, (5, 0, 0), 0, 0, [])), (43, (.iconst 0, 1, (0, 0, 0), 0, 0, [])), (44, (.istore 0, 2, (6, 0, 0), 0, 0, [])), (46, (.iload 0, 2, (6, 0, 0), 0, 0, [])), (48, (.aload 0, 1, (0, 0, 0), 0, 0, [])), (49, (.getfield 0, 3, (6, 0, 10), 0, 0, [])), (52, (.getfield 0, 3, (5, 5, 301), 0, 0, [])), (55, (.if_icmp .ge 0, 3, (91, 0, 0), 0, 0, [])), (58, (.iload 0, 2, (6, 0, 0), 0, 0, [])), (60, (.aload 0, 1, (0, 0, 0), 0, 0, [])), (61, (.getfield 0, 3, (6, 12, 70), 0, 0, []))],
  [(64, (.arraylength, 1, (0, 0, 0), 0, 0, [])), (65, (.if_icmp .ge 0, 3, (91, 0, 0), 0, 0, [])), (68, (.iload 0, 2, (5, 0, 0), 0, 0, [])), (70, (.aload 0, 1, (0, 0, 0), 0, 0, [])), (71, (.getfield 0, 3, (6, 12, 70), 0, 0, [])), (74, (.iload 0, 2, (6, 0, 0), 0, 0, [])), (76, (.iaload, 1, (0, 0, 0), 0, 0, [])), (77, (.iload 0, 2, (4, 0, 0), 0, 0, [])), (79, (.ishr, 1, (0, 0, 0), 0, 0, [])), (80, (.iconst 0, 1, (0, 0, 0), 1, 0, [])), (81, (.iand, 1, (0, 0, 0), 0, 0, [])), (82, (.iadd, 1, (0, 0, 0), 0, 0, [])), (83, (.istore 0, 2, (5, 0, 0), 0, 0, [])), (85, (.iinc 0 0, 3, (6, 0, 0), 1, 0, [])), (88, (.goto 0, 3, (46, 0, 0), 0, 0, [])), (91, (.iload 0, 2, (5, 0, 0), 0, 0, [])), (93, (.iload 0, 1, (3, 0, 0), 0, 0, [])), (94, (.if_icmp .le 0, 3, (103, 0, 0), 0, 0, []))],
  [(97, (.iload 0, 2, (5, 0, 0), 0, 0, [])), (99, (.istore 0, 1, (3, 0, 0), 0, 0, [])), (100, (.iload 0, 2, (4, 0, 0), 0, 0, [])), (102, (.istore 0, 1, (2, 0, 0), 0, 0, [])), (103, (.iinc 0 0, 3, (4, 0, 0), 1, 0, [])), (106, (.goto 0, 3, (28, 0, 0), 0, 0, [])), (109, (.iload 0, 1, (1, 0, 0), 0, 0, [])), (110, (.ifCond .ne 0, 3, (117, 0, 0), 0, 0, [])), (113, (.iload 0, 1, (2, 0, 0), 0, 0, [])), (114, (.goto 0, 3, (118, 0, 0), 0, 0, [])), (117, (.iload 0, 1, (3, 0, 0), 0, 0, [])), (118, (.ireturn, 1, (0, 0, 0), 0, 0, []))]]
set_option maxRecDepth 20000 in
def tX6_round : List (List (Nat × XE)) := [[(0, (.aload 0, 1, (0, 0, 0), 0, 0, [])), (1, (.getfield 0, 3, (6, 0, 10), 0, 0, [])), (4, (.iload 0, 1, (1, 0, 0), 0, 0, [])), (5, (.invokevirtual 0, 3, (2, 43, 178), 0, 0, [])), (8, (.astore 0, 1, (2, 0, 0), 0, 0, [])), (9, (.aload 0, 1, (2, 0, 0), 0, 0, [])), (10, (.ifnonnull 0, 3, (21, 0, 0), 0, 0, [])), (13, (.aload 0, 1, (0, 0, 0), 0, 0, [])), (14, (.iconst 0, 3, (0, 0, 0), (-1002), 0, [])), (17, (.invokevirtual 0, 3, (2, 124, 90), 0, 0, [])), (20, (.ireturn, 1, (0, 0, 0), 0, 0, [])), (21, (.aload 0, 1, (0, 0, 0), 0, 0, [])), (22, (.getfield 0, 3, (6, 10, 63), 0, 0, [])), (25, (.aload 0, 1, (2, 0, 0), 0, 0, [])), (26, (.invokevirtual 0, 3, (2, 37, 240), 0, 0, [])), (29, (.iconst 0, 1, (0, 0, 0), 1, 0, [])), (30, (.istore 0, 1, (3, 0, 0), 0, 0, [])), (31, (.iload 0, 1, (3, 0, 0), 0, 0, []))],
  [(32, (.iconst 0, 2, (0, 0, 0), 60, 0, [])), (34, (.if_icmp .gt 0, 3, (87, 0, 0), 0, 0, [])), (37, (.aload 0, 1, (0, 0, 0), 0, 0, [])), (38, (.getfield 0, 3, (6, 10, 63), 0, 0, [])), (41, (.aload 0, 1, (0, 0, 0), 0, 0, [])), (42, (.getfield 0, 3, (6, 0, 10), 0, 0, [])), (45, (.getfield 0, 3, (5, 0, 165), 0, 0, [])), (48, (.invokevirtual 0, 3, (2, 39, 243), 0, 0, [])), (51, (.aload 0, 1, (0, 0, 0), 0, 0, [])), (52, (.getfield 0, 3, (6, 10, 63), 0, 0, [])), (55, (.getfield 0, 3, (4, 0, 185), 0, 0, [])), (58, (.aload 0, 1, (2, 0, 0), 0, 0, [])), (59, (.getfield 0, 3, (4, 0, 185), 0, 0, [])), (62, (.if_icmp .ne 0, 3, (81, 0, 0), 0, 0, []))],
  [(65, (.aload 0, 1, (0, 0, 0), 0, 0, [])), (66, (.getfield 0, 3, (6, 10, 63), 0, 0, [])), (69, (.getfield 0, 3, (4, 2, 191), 0, 0, [])), (72, (.aload 0, 1, (2, 0, 0), 0, 0, [])), (73, (.getfield 0, 3, (4, 2, 191), 0, 0, [])), (76, (.if_icmp .ne 0, 3, (81, 0, 0), 0, 0, [])), (79, (.iload 0, 1, (3, 0, 0), 0, 0, [])), (80, (.ireturn, 1, (0, 0, 0), 0, 0, [])), (81, (.iinc 0 0, 3, (3, 0, 0), 1, 0, [])), (84, (.goto 0, 3, (31, 0, 0), 0, 0, [])), (87, (.iconst 0, 1, (0, 0, 0), (-1), 0, [])), (88, (.ireturn, 1, (0, 0, 0), 0, 0, []))]]
set_option maxRecDepth 20000 in
def tX6_join : List (List (Nat × XE)) := [[(0, (.aload 0, 1, (0, 0, 0), 0, 0, [])), (1, (.getfield 0, 3, (6, 0, 10), 0, 0, [])), (4, (.iload 0, 1, (1, 0, 0), 0, 0, [])), (5, (.invokevirtual 0, 3, (2, 42, 139), 0, 0, [])), (8, (.astore 0, 1, (3, 0, 0), 0, 0, [])), (9, (.aload 0, 1, (0, 0, 0), 0, 0, [])), (10, (.getfield 0, 3, (6, 0, 10), 0, 0, [])), (13, (.iload 0, 1, (2, 0, 0), 0, 0, [])), (14, (.invokevirtual 0, 3, (2, 42, 139), 0, 0, [])), (17, (.astore 0, 2, (4, 0, 0), 0, 0, [])), (19, (.aload 0, 1, (3, 0, 0), 0, 0, [])), (20, (.ifnull 0, 3, (33, 0, 0), 0, 0, [])), (23, (.aload 0, 2, (4, 0, 0), 0, 0, [])), (25, (.ifnull 0, 3, (33, 0, 0), 0, 0, [])), (28, (.iload 0, 1, (1, 0, 0), 0, 0, [])), (29, (.iload 0, 1, (2, 0, 0), 0, 0, [])), (30, (.if_icmp .ne 0, 3, (41, 0, 0), 0, 0, []))],
  [(33, (.aload 0, 1, (0, 0, 0), 0, 0, [])), (34, (.iconst 0, 3, (0, 0, 0), (-1002), 0, [])), (37, (.invokevirtual 0, 3, (2, 124, 90), 0, 0, [])), (40, (.ireturn, 1, (0, 0, 0), 0, 0, [])), (41, (.aload 0, 1, (0, 0, 0), 0, 0, [])), (42, (.getfield 0, 3, (6, 0, 10), 0, 0, [])), (45, (.aload 0, 1, (0, 0, 0), 0, 0, [])), (46, (.getfield 0, 3, (6, 7, 46), 0, 0, [])), (49, (.aload 0, 1, (3, 0, 0), 0, 0, [])), (50, (.aconst_null, 1, (0, 0, 0), 0, 0, [])), (51, (.iconst 0, 2, (0, 0, 0), 60, 0, [])), (53, (.invokevirtual 0, 3, (5, 57, 230), 0, 0, [])), (56, (.aload 0, 1, (0, 0, 0), 0, 0, [])), (57, (.getfield 0, 3, (6, 0, 10), 0, 0, [])), (60, (.aload 0, 1, (0, 0, 0), 0, 0, [])), (61, (.getfield 0, 3, (6, 8, 50), 0, 0, []))],
  [(64, (.aload 0, 2, (4, 0, 0), 0, 0, [])), (66, (.aconst_null, 1, (0, 0, 0), 0, 0, [])), (67, (.iconst 0, 2, (0, 0, 0), 60, 0, [])), (69, (.invokevirtual 0, 3, (5, 57, 230), 0, 0, [])), (72, (.iconst 0, 1, (0, 0, 0), 0, 0, [])), (73, (.istore 0, 2, (5, 0, 0), 0, 0, [])), (75, (.iload 0, 2, (5, 0, 0), 0, 0, [])), (77, (.iconst 0, 2, (0, 0, 0), 60, 0, [])), (79, (.if_icmp .gt 0, 3, (148, 0, 0), 0, 0, [])), (82, (.aload 0, 1, (0, 0, 0), 0, 0, [])), (83, (.getfield 0, 3, (6, 7, 46), 0, 0, [])), (86, (.iload 0, 2, (5, 0, 0), 0, 0, [])), (88, (.invokevirtual 0, 3, (2, 33, 237), 0, 0, [])), (91, (.ifCond .ne 0, 3, (110, 0, 0), 0, 0, [])), (94, (.aload 0, 1, (0, 0, 0), 0, 0, [])), (95, (.getfield 0, 3, (6, 8, 50), 0, 0, []))],
  [(98, (.iload 0, 2, (5, 0, 0), 0, 0, [])), (100, (.invokevirtual 0, 3, (2, 33, 237), 0, 0, [])), (103, (.ifCond .ne 0, 3, (110, 0, 0), 0, 0, [])), (106, (.iconst 0, 1, (0, 0, 0), 1, 0, [])), (107, (.goto 0, 3, (111, 0, 0), 0, 0, [])), (110, (.iconst 0, 1, (0, 0, 0), 0, 0, [])), (111, (.istore 0, 2, (6, 0, 0), 0, 0, [])), (113, (.iload 0, 2, (6, 0, 0), 0, 0, [])), (115, (.ifCond .eq 0, 3, (142, 0, 0), 0, 0, [])), (118, (.aload 0, 1, (0, 0, 0), 0, 0, [])), (119, (.getfield 0, 3, (6, 7, 46), 0, 0, [])), (122, (.iload 0, 2, (5, 0, 0), 0, 0, [])), (124, (.invokevirtual 0, 3, (2, 32, 234), 0, 0, [])), (127, (.aload 0, 1, (0, 0, 0), 0, 0, []))],
  [(128, (.getfield 0, 3, (6, 8, 50), 0, 0, [])), (131, (.iload 0, 2, (5, 0, 0), 0, 0, [])), (133, (.invokevirtual 0, 3, (2, 32, 234), 0, 0, [])), (136, (.if_icmp .ne 0, 3, (142, 0, 0), 0, 0, [])), (139, (.iload 0, 2, (5, 0, 0), 0, 0, [])), (141, (.ireturn, 1, (0, 0, 0), 0, 0, [])), (142, (.iinc 0 0, 3, (5, 0, 0), 1, 0, [])), (145, (.goto 0, 3, (75, 0, 0), 0, 0, [])), (148, (.iconst 0, 1, (0, 0, 0), (-1), 0, [])), (149, (.ireturn, 1, (0, 0, 0), 0, 0, []))]]
set_option maxRecDepth 20000 in
def tX6_breaks : List (List (Nat × XE)) := [[(0, (.aload 0, 1, (0, 0, 0), 0, 0, [])), (1, (.getfield 0, 3, (6, 0, 10), 0, 0, [])), (4, (.iload 0, 1, (1, 0, 0), 0, 0, [])), (5, (.invokevirtual 0, 3, (2, 42, 139), 0, 0, [])), (8, (.astore 0, 1, (2, 0, 0), 0, 0, [])), (9, (.aload 0, 1, (2, 0, 0), 0, 0, [])), (10, (.ifnonnull 0, 3, (21, 0, 0), 0, 0, [])), (13, (.aload 0, 1, (0, 0, 0), 0, 0, [])), (14, (.iconst 0, 3, (0, 0, 0), (-1002), 0, [])), (17, (.invokevirtual 0, 3, (2, 124, 90), 0, 0, [])), (20, (.ireturn, 1, (0, 0, 0), 0, 0, [])), (21, (.aload 0, 1, (0, 0, 0), 0, 0, [])), (22, (.getfield 0, 3, (6, 0, 10), 0, 0, [])), (25, (.aload 0, 1, (0, 0, 0), 0, 0, [])), (26, (.getfield 0, 3, (6, 7, 46), 0, 0, [])), (29, (.aload 0, 1, (2, 0, 0), 0, 0, [])), (30, (.aload 0, 1, (0, 0, 0), 0, 0, [])), (31, (.getfield 0, 3, (6, 0, 10), 0, 0, []))],
  [(34, (.aload 0, 1, (2, 0, 0), 0, 0, [])), (35, (.getfield 0, 3, (0, 3, 227), 0, 0, [])), (38, (.invokevirtual 0, 3, (2, 43, 178), 0, 0, [])), (41, (.iconst 0, 2, (0, 0, 0), 60, 0, [])), (43, (.invokevirtual 0, 3, (5, 57, 230), 0, 0, [])), (46, (.iconst 0, 1, (0, 0, 0), 0, 0, [])), (47, (.istore 0, 1, (3, 0, 0), 0, 0, [])), (48, (.iload 0, 1, (3, 0, 0), 0, 0, [])), (49, (.iconst 0, 2, (0, 0, 0), 60, 0, [])), (51, (.if_icmp .gt 0, 3, (74, 0, 0), 0, 0, [])), (54, (.aload 0, 1, (0, 0, 0), 0, 0, [])), (55, (.getfield 0, 3, (6, 7, 46), 0, 0, [])), (58, (.iload 0, 1, (3, 0, 0), 0, 0, [])), (59, (.invokevirtual 0, 3, (2, 33, 237), 0, 0, [])), (62, (.iconst 0, 1, (0, 0, 0), 2, 0, [])), (63, (.if_icmp .ne 0, 3, (68, 0, 0), 0, 0, []))],
  [(66, (.iload 0, 1, (3, 0, 0), 0, 0, [])), (67, (.ireturn, 1, (0, 0, 0), 0, 0, [])), (68, (.iinc 0 0, 3, (3, 0, 0), 1, 0, [])), (71, (.goto 0, 3, (48, 0, 0), 0, 0, [])), (74, (.iconst 0, 1, (0, 0, 0), (-1), 0, [])), (75, (.ireturn, 1, (0, 0, 0), 0, 0, []))]]
set_option maxRecDepth 20000 in
def tX6_first : List (List (Nat × XE)) := [[(0, (.aload 0, 1, (0, 0, 0), 0, 0, [])), (1, (.getfield 0, 3, (6, 0, 10), 0, 0, [])), (4, (.iload 0, 1, (1, 0, 0), 0, 0, [])), (5, (.invokevirtual 0, 3, (2, 43, 178), 0, 0, [])), (8, (.ifnonnull 0, 3, (19, 0, 0), 0, 0, [])), (11, (.aload 0, 1, (0, 0, 0), 0, 0, [])), (12, (.iconst 0, 3, (0, 0, 0), (-1002), 0, [])), (15, (.invokevirtual 0, 3, (2, 124, 90), 0, 0, [])), (18, (.ireturn, 1, (0, 0, 0), 0, 0, [])), (19, (.iconst 0, 1, (0, 0, 0), (-1), 0, [])), (20, (.istore 0, 1, (2, 0, 0), 0, 0, [])), (21, (.iconst 0, 1, (0, 0, 0), (-1), 0, [])), (22, (.istore 0, 1, (3, 0, 0), 0, 0, [])), (23, (.iconst 0, 1, (0, 0, 0), 0, 0, [])), (24, (.istore 0, 2, (4, 0, 0), 0, 0, [])), (26, (.iload 0, 2, (4, 0, 0), 0, 0, [])), (28, (.aload 0, 1, (0, 0, 0), 0, 0, [])), (29, (.getfield 0, 3, (6, 0, 10), 0, 0, []))],
  [(32, (.getfield 0, 3, (5, 5, 301), 0, 0, [])), (35, (.if_icmp .ge 0, 3, (114, 0, 0), 0, 0, [])), (38, (.aload 0, 1, (0, 0, 0), 0, 0, [])), (39, (.getfield 0, 3, (6, 0, 10), 0, 0, [])), (42, (.iload 0, 2, (4, 0, 0), 0, 0, [])), (44, (.invokevirtual 0, 3, (2, 42, 139), 0, 0, [])), (47, (.astore 0, 2, (5, 0, 0), 0, 0, [])), (49, (.aload 0, 2, (5, 0, 0), 0, 0, [])), (51, (.ifnull 0, 3, (108, 0, 0), 0, 0, [])), (54, (.aload 0, 2, (5, 0, 0), 0, 0, [])), (56, (.getfield 0, 3, (0, 3, 227), 0, 0, [])), (59, (.iload 0, 1, (1, 0, 0), 0, 0, [])), (60, (.if_icmp .ne 0, 3, (108, 0, 0), 0, 0, [])), (63, (.aload 0, 2, (5, 0, 0), 0, 0, []))],
  [(65, (.getfield 0, 3, (0, 4, 304), 0, 0, [])), (68, (.ifCond .eq 0, 3, (74, 0, 0), 0, 0, [])), (71, (.goto 0, 3, (108, 0, 0), 0, 0, [])), (74, (.aload 0, 1, (0, 0, 0), 0, 0, [])), (75, (.getfield 0, 3, (6, 0, 10), 0, 0, [])), (78, (.aload 0, 2, (5, 0, 0), 0, 0, [])), (80, (.invokevirtual 0, 3, (2, 59, 250), 0, 0, [])), (83, (.istore 0, 2, (6, 0, 0), 0, 0, [])), (85, (.iload 0, 2, (6, 0, 0), 0, 0, [])), (87, (.iconst 0, 1, (0, 0, 0), (-1), 0, [])), (88, (.if_icmp .eq 0, 3, (108, 0, 0), 0, 0, [])), (91, (.iload 0, 1, (3, 0, 0), 0, 0, [])), (92, (.iconst 0, 1, (0, 0, 0), (-1), 0, [])), (93, (.if_icmp .eq 0, 3, (102, 0, 0), 0, 0, []))],
  [(96, (.iload 0, 2, (6, 0, 0), 0, 0, [])), (98, (.iload 0, 1, (3, 0, 0), 0, 0, [])), (99, (.if_icmp .ge 0, 3, (108, 0, 0), 0, 0, [])), (102, (.iload 0, 2, (6, 0, 0), 0, 0, [])), (104, (.istore 0, 1, (3, 0, 0), 0, 0, [])), (105, (.iload 0, 2, (4, 0, 0), 0, 0, [])), (107, (.istore 0, 1, (2, 0, 0), 0, 0, [])), (108, (.iinc 0 0, 3, (4, 0, 0), 1, 0, [])), (111, (.goto 0, 3, (26, 0, 0), 0, 0, [])), (114, (.iload 0, 1, (2, 0, 0), 0, 0, [])), (115, (.ireturn, 1, (0, 0, 0), 0, 0, []))]]
set_option maxRecDepth 20000 in
def tX6_next : List (List (Nat × XE)) := [[(0, (.iload 0, 1, (1, 0, 0), 0, 0, [])), (1, (.invokevirtual 0, 3, (1, 121, 143), 0, 0, [])), (4, (.ifCond .eq 0, 3, (28, 0, 0), 0, 0, [])), (7, (.iload 0, 1, (2, 0, 0), 0, 0, [])), (8, (.iconst 0, 1, (0, 0, 0), 0, 0, [])), (9, (.iconst 0, 2, (0, 0, 0), 9, 0, [])), (11, (.invokevirtual 0, 3, (3, 120, 86), 0, 0, [])), (14, (.ifCond .eq 0, 3, (28, 0, 0), 0, 0, [])), (17, (.aload 0, 1, (0, 0, 0), 0, 0, [])), (18, (.getfield 0, 3, (6, 0, 10), 0, 0, [])), (21, (.iload 0, 1, (3, 0, 0), 0, 0, [])), (22, (.invokevirtual 0, 3, (2, 44, 168), 0, 0, [])), (25, (.ifCond .ne 0, 3, (36, 0, 0), 0, 0, [])), (28, (.aload 0, 1, (0, 0, 0), 0, 0, [])), (29, (.iconst 0, 3, (0, 0, 0), (-1002), 0, []))],
  [(32, (.invokevirtual 0, 3, (2, 124, 90), 0, 0, [])), (35, (.ireturn, 1, (0, 0, 0), 0, 0, [])), (36, (.aload 0, 1, (0, 0, 0), 0, 0, [])), (37, (.getfield 0, 3, (6, 9, 56), 0, 0, [])), (40, (.iload 0, 1, (1, 0, 0), 0, 0, [])), (41, (.iload 0, 1, (2, 0, 0), 0, 0, [])), (42, (.iload 0, 1, (3, 0, 0), 0, 0, [])), (43, (.iconst 0, 1, (0, 0, 0), (-1), 0, [])), (44, (.invokevirtual 0, 3, (5, 1, 261), 0, 0, [])), (47, (.aload 0, 1, (0, 0, 0), 0, 0, [])), (48, (.getfield 0, 3, (6, 0, 10), 0, 0, [])), (51, (.aload 0, 1, (0, 0, 0), 0, 0, [])), (52, (.getfield 0, 3, (6, 9, 56), 0, 0, [])), (55, (.aload 0, 1, (0, 0, 0), 0, 0, [])), (56, (.getfield 0, 3, (6, 0, 10), 0, 0, [])), (59, (.getfield 0, 3, (5, 2, 158), 0, 0, [])), (62, (.iconst 0, 1, (0, 0, 0), (-1), 0, [])), (63, (.invokevirtual 0, 3, (4, 56, 324), 0, 0, []))],
  [(66, (.aload 0, 1, (0, 0, 0), 0, 0, [])), (67, (.getfield 0, 3, (6, 9, 56), 0, 0, [])), (70, (.getfield 0, 3, (0, 4, 304), 0, 0, [])), (73, (.iconst 0, 1, (0, 0, 0), 2, 0, [])), (74, (.if_icmp .ne 0, 3, (81, 0, 0), 0, 0, [])), (77, (.iconst 0, 1, (0, 0, 0), (-1), 0, [])), (78, (.goto 0, 3, (88, 0, 0), 0, 0, [])), (81, (.aload 0, 1, (0, 0, 0), 0, 0, [])), (82, (.getfield 0, 3, (6, 9, 56), 0, 0, [])), (85, (.getfield 0, 3, (0, 2, 155), 0, 0, [])), (88, (.ireturn, 1, (0, 0, 0), 0, 0, []))]]
set_option maxRecDepth 20000 in
def tX6_stays : List (List (Nat × XE)) := [[(0, (.iload 0, 1, (1, 0, 0), 0, 0, [])), (1, (.invokevirtual 0, 3, (1, 121, 143), 0, 0, [])), (4, (.ifCond .eq 0, 3, (17, 0, 0), 0, 0, [])), (7, (.iload 0, 1, (2, 0, 0), 0, 0, [])), (8, (.iconst 0, 1, (0, 0, 0), 0, 0, [])), (9, (.iconst 0, 2, (0, 0, 0), 9, 0, [])), (11, (.invokevirtual 0, 3, (3, 120, 86), 0, 0, [])), (14, (.ifCond .ne 0, 3, (25, 0, 0), 0, 0, [])), (17, (.aload 0, 1, (0, 0, 0), 0, 0, [])), (18, (.iconst 0, 3, (0, 0, 0), (-1002), 0, [])), (21, (.invokevirtual 0, 3, (2, 124, 90), 0, 0, [])), (24, (.ireturn, 1, (0, 0, 0), 0, 0, [])), (25, (.iconst 0, 1, (0, 0, 0), 0, 0, [])), (26, (.istore 0, 1, (3, 0, 0), 0, 0, [])), (27, (.iconst 0, 1, (0, 0, 0), 0, 0, [])), (28, (.istore 0, 2, (4, 0, 0), 0, 0, [])), (30, (.iload 0, 2, (4, 0, 0), 0, 0, []))],
  [(32, (.aload 0, 1, (0, 0, 0), 0, 0, [])), (33, (.getfield 0, 3, (6, 0, 10), 0, 0, [])), (36, (.getfield 0, 3, (5, 0, 165), 0, 0, [])), (39, (.if_icmp .ge 0, 3, (98, 0, 0), 0, 0, [])), (42, (.aload 0, 1, (0, 0, 0), 0, 0, [])), (43, (.getfield 0, 3, (6, 9, 56), 0, 0, [])), (46, (.iload 0, 1, (1, 0, 0), 0, 0, [])), (47, (.iload 0, 1, (2, 0, 0), 0, 0, [])), (48, (.iload 0, 2, (4, 0, 0), 0, 0, [])), (50, (.iconst 0, 1, (0, 0, 0), (-1), 0, [])), (51, (.invokevirtual 0, 3, (5, 1, 261), 0, 0, [])), (54, (.aload 0, 1, (0, 0, 0), 0, 0, [])), (55, (.getfield 0, 3, (6, 0, 10), 0, 0, [])), (58, (.aload 0, 1, (0, 0, 0), 0, 0, [])), (59, (.getfield 0, 3, (6, 9, 56), 0, 0, [])), (62, (.aload 0, 1, (0, 0, 0), 0, 0, [])), (63, (.getfield 0, 3, (6, 0, 10), 0, 0, []))],
  [(66, (.getfield 0, 3, (5, 2, 158), 0, 0, [])), (69, (.iconst 0, 1, (0, 0, 0), (-1), 0, [])), (70, (.invokevirtual 0, 3, (4, 56, 324), 0, 0, [])), (73, (.aload 0, 1, (0, 0, 0), 0, 0, [])), (74, (.getfield 0, 3, (6, 9, 56), 0, 0, [])), (77, (.getfield 0, 3, (0, 2, 155), 0, 0, [])), (80, (.iload 0, 2, (4, 0, 0), 0, 0, [])), (82, (.if_icmp .ne 0, 3, (92, 0, 0), 0, 0, [])), (85, (.iload 0, 1, (3, 0, 0), 0, 0, [])), (86, (.iconst 0, 1, (0, 0, 0), 1, 0, [])), (87, (.iload 0, 2, (4, 0, 0), 0, 0, [])), (89, (.ishl, 1, (0, 0, 0), 0, 0, [])), (90, (.ior, 1, (0, 0, 0), 0, 0, [])), (91, (.istore 0, 1, (3, 0, 0), 0, 0, [])), (92, (.iinc 0 0, 3, (4, 0, 0), 1, 0, [])), (95, (.goto 0, 3, (30, 0, 0), 0, 0, []))],
  [(98, (.iload 0, 1, (3, 0, 0), 0, 0, [])), (99, (.ireturn, 1, (0, 0, 0), 0, 0, []))]]
set_option maxRecDepth 20000 in
def tX6_strays : List (List (Nat × XE)) := [[(0, (.iconst 0, 1, (0, 0, 0), 0, 0, [])), (1, (.istore 0, 1, (1, 0, 0), 0, 0, [])), (2, (.iconst 0, 1, (0, 0, 0), 0, 0, [])), (3, (.istore 0, 1, (2, 0, 0), 0, 0, [])), (4, (.iload 0, 1, (2, 0, 0), 0, 0, [])), (5, (.aload 0, 1, (0, 0, 0), 0, 0, [])), (6, (.getfield 0, 3, (6, 0, 10), 0, 0, [])), (9, (.getfield 0, 3, (5, 5, 301), 0, 0, [])), (12, (.if_icmp .ge 0, 3, (80, 0, 0), 0, 0, [])), (15, (.aload 0, 1, (0, 0, 0), 0, 0, [])), (16, (.getfield 0, 3, (6, 0, 10), 0, 0, [])), (19, (.iload 0, 1, (2, 0, 0), 0, 0, [])), (20, (.invokevirtual 0, 3, (2, 42, 139), 0, 0, [])), (23, (.astore 0, 1, (3, 0, 0), 0, 0, [])), (24, (.aload 0, 1, (3, 0, 0), 0, 0, [])), (25, (.ifnonnull 0, 3, (31, 0, 0), 0, 0, [])), (28, (.goto 0, 3, (74, 0, 0), 0, 0, [])), (31, (.aload 0, 1, (0, 0, 0), 0, 0, []))],
  [(32, (.getfield 0, 3, (6, 0, 10), 0, 0, [])), (35, (.aload 0, 1, (0, 0, 0), 0, 0, [])), (36, (.getfield 0, 3, (6, 7, 46), 0, 0, [])), (39, (.aload 0, 1, (3, 0, 0), 0, 0, [])), (40, (.aload 0, 1, (0, 0, 0), 0, 0, [])), (41, (.getfield 0, 3, (6, 0, 10), 0, 0, [])), (44, (.aload 0, 1, (3, 0, 0), 0, 0, [])), (45, (.getfield 0, 3, (0, 3, 227), 0, 0, [])), (48, (.invokevirtual 0, 3, (2, 43, 178), 0, 0, [])), (51, (.iconst 0, 2, (0, 0, 0), 60, 0, [])), (53, (.invokevirtual 0, 3, (5, 57, 230), 0, 0, [])), (56, (.aload 0, 1, (0, 0, 0), 0, 0, [])), (57, (.getfield 0, 3, (6, 7, 46), 0, 0, [])), (60, (.iconst 0, 2, (0, 0, 0), 60, 0, [])), (62, (.invokevirtual 0, 3, (2, 33, 237), 0, 0, []))],
  [(65, (.ifCond .ne 0, 3, (74, 0, 0), 0, 0, [])), (68, (.iload 0, 1, (1, 0, 0), 0, 0, [])), (69, (.iconst 0, 1, (0, 0, 0), 1, 0, [])), (70, (.iload 0, 1, (2, 0, 0), 0, 0, [])), (71, (.ishl, 1, (0, 0, 0), 0, 0, [])), (72, (.ior, 1, (0, 0, 0), 0, 0, [])), (73, (.istore 0, 1, (1, 0, 0), 0, 0, [])), (74, (.iinc 0 0, 3, (2, 0, 0), 1, 0, [])), (77, (.goto 0, 3, (4, 0, 0), 0, 0, [])), (80, (.iload 0, 1, (1, 0, 0), 0, 0, [])), (81, (.ireturn, 1, (0, 0, 0), 0, 0, []))]]
set_option maxRecDepth 20000 in
def tX6_ofKind : List (List (Nat × XE)) := [[(0, (.iload 0, 1, (1, 0, 0), 0, 0, [])), (1, (.invokevirtual 0, 3, (1, 121, 143), 0, 0, [])), (4, (.ifCond .ne 0, 3, (15, 0, 0), 0, 0, [])), (7, (.aload 0, 1, (0, 0, 0), 0, 0, [])), (8, (.iconst 0, 3, (0, 0, 0), (-1002), 0, [])), (11, (.invokevirtual 0, 3, (2, 124, 90), 0, 0, [])), (14, (.ireturn, 1, (0, 0, 0), 0, 0, [])), (15, (.iconst 0, 1, (0, 0, 0), 0, 0, [])), (16, (.istore 0, 1, (2, 0, 0), 0, 0, [])), (17, (.iconst 0, 1, (0, 0, 0), 0, 0, [])), (18, (.istore 0, 1, (3, 0, 0), 0, 0, [])), (19, (.iload 0, 1, (3, 0, 0), 0, 0, [])), (20, (.aload 0, 1, (0, 0, 0), 0, 0, [])), (21, (.getfield 0, 3, (6, 0, 10), 0, 0, [])), (24, (.getfield 0, 3, (5, 5, 301), 0, 0, [])), (27, (.if_icmp .ge 0, 3, (63, 0, 0), 0, 0, [])), (30, (.aload 0, 1, (0, 0, 0), 0, 0, [])), (31, (.getfield 0, 3, (6, 0, 10), 0, 0, []))],
  [(34, (.iload 0, 1, (3, 0, 0), 0, 0, [])), (35, (.invokevirtual 0, 3, (2, 42, 139), 0, 0, [])), (38, (.astore 0, 2, (4, 0, 0), 0, 0, [])), (40, (.aload 0, 2, (4, 0, 0), 0, 0, [])), (42, (.ifnull 0, 3, (57, 0, 0), 0, 0, [])), (45, (.aload 0, 2, (4, 0, 0), 0, 0, [])), (47, (.getfield 0, 3, (0, 0, 149), 0, 0, [])), (50, (.iload 0, 1, (1, 0, 0), 0, 0, [])), (51, (.if_icmp .ne 0, 3, (57, 0, 0), 0, 0, [])), (54, (.iinc 0 0, 3, (2, 0, 0), 1, 0, [])), (57, (.iinc 0 0, 3, (3, 0, 0), 1, 0, [])), (60, (.goto 0, 3, (19, 0, 0), 0, 0, [])), (63, (.iload 0, 1, (2, 0, 0), 0, 0, []))],
  [(64, (.ireturn, 1, (0, 0, 0), 0, 0, []))]]
set_option maxRecDepth 20000 in
def tX6_judge : List (List (Nat × XE)) := [[(0, (.aload 0, 1, (0, 0, 0), 0, 0, [])), (1, (.iload 0, 1, (1, 0, 0), 0, 0, [])), (2, (.invokevirtual 0, 3, (2, 125, 82), 0, 0, [])), (5, (.astore 0, 2, (4, 0, 0), 0, 0, [])), (7, (.aload 0, 1, (0, 0, 0), 0, 0, [])), (8, (.getfield 0, 3, (6, 0, 10), 0, 0, [])), (11, (.iload 0, 1, (3, 0, 0), 0, 0, [])), (12, (.invokevirtual 0, 3, (2, 42, 139), 0, 0, [])), (15, (.astore 0, 2, (5, 0, 0), 0, 0, [])), (17, (.aload 0, 2, (4, 0, 0), 0, 0, [])), (19, (.ifnull 0, 3, (37, 0, 0), 0, 0, [])), (22, (.iload 0, 1, (2, 0, 0), 0, 0, [])), (23, (.iconst 0, 1, (0, 0, 0), 0, 0, [])), (24, (.iconst 0, 2, (0, 0, 0), 40, 0, [])), (26, (.invokevirtual 0, 3, (3, 120, 86), 0, 0, [])), (29, (.ifCond .eq 0, 3, (37, 0, 0), 0, 0, []))],
  [(32, (.aload 0, 2, (5, 0, 0), 0, 0, [])), (34, (.ifnonnull 0, 3, (45, 0, 0), 0, 0, [])), (37, (.aload 0, 1, (0, 0, 0), 0, 0, [])), (38, (.iconst 0, 3, (0, 0, 0), (-1002), 0, [])), (41, (.invokevirtual 0, 3, (2, 124, 90), 0, 0, [])), (44, (.ireturn, 1, (0, 0, 0), 0, 0, [])), (45, (.aload 0, 2, (4, 0, 0), 0, 0, [])), (47, (.invokevirtual 0, 3, (1, 6, 98), 0, 0, [])), (50, (.ifCond .ne 0, 3, (63, 0, 0), 0, 0, [])), (53, (.aload 0, 1, (0, 0, 0), 0, 0, [])), (54, (.aload 0, 2, (4, 0, 0), 0, 0, [])), (56, (.invokevirtual 0, 3, (1, 8, 102), 0, 0, [])), (59, (.invokevirtual 0, 3, (2, 124, 90), 0, 0, [])), (62, (.ireturn, 1, (0, 0, 0), 0, 0, [])), (63, (.aload 0, 2, (4, 0, 0), 0, 0, []))],
  [(65, (.getfield 0, 3, (1, 1, 272), 0, 0, [])), (68, (.iload 0, 1, (2, 0, 0), 0, 0, [])), (69, (.if_icmp .ge 0, 3, (80, 0, 0), 0, 0, [])), (72, (.aload 0, 1, (0, 0, 0), 0, 0, [])), (73, (.iconst 0, 3, (0, 0, 0), (-1002), 0, [])), (76, (.invokevirtual 0, 3, (2, 124, 90), 0, 0, [])), (79, (.ireturn, 1, (0, 0, 0), 0, 0, [])), (80, (.aload 0, 1, (0, 0, 0), 0, 0, [])), (81, (.getfield 0, 3, (6, 0, 10), 0, 0, [])), (84, (.aload 0, 1, (0, 0, 0), 0, 0, [])), (85, (.getfield 0, 3, (6, 7, 46), 0, 0, [])), (88, (.aload 0, 2, (5, 0, 0), 0, 0, [])), (90, (.aload 0, 1, (0, 0, 0), 0, 0, [])), (91, (.getfield 0, 3, (6, 0, 10), 0, 0, [])), (94, (.aload 0, 2, (5, 0, 0), 0, 0, []))],
  [(96, (.getfield 0, 3, (0, 3, 227), 0, 0, [])), (99, (.invokevirtual 0, 3, (2, 43, 178), 0, 0, [])), (102, (.iload 0, 1, (2, 0, 0), 0, 0, [])), (103, (.invokevirtual 0, 3, (5, 57, 230), 0, 0, [])), (106, (.iconst 0, 1, (0, 0, 0), 0, 0, [])), (107, (.istore 0, 2, (6, 0, 0), 0, 0, [])), (109, (.iload 0, 2, (6, 0, 0), 0, 0, [])), (111, (.iload 0, 1, (2, 0, 0), 0, 0, [])), (112, (.if_icmp .ge 0, 3, (147, 0, 0), 0, 0, [])), (115, (.aload 0, 2, (4, 0, 0), 0, 0, [])), (117, (.iload 0, 2, (6, 0, 0), 0, 0, [])), (119, (.invokevirtual 0, 3, (2, 13, 135), 0, 0, [])), (122, (.aload 0, 1, (0, 0, 0), 0, 0, [])), (123, (.getfield 0, 3, (6, 7, 46), 0, 0, [])), (126, (.iload 0, 2, (6, 0, 0), 0, 0, []))],
  [(128, (.iconst 0, 1, (0, 0, 0), 1, 0, [])), (129, (.iadd, 1, (0, 0, 0), 0, 0, [])), (130, (.invokevirtual 0, 3, (2, 32, 234), 0, 0, [])), (133, (.i2l, 1, (0, 0, 0), 0, 0, [])), (134, (.lcmp, 1, (0, 0, 0), 0, 0, [])), (135, (.ifCond .eq 0, 3, (141, 0, 0), 0, 0, [])), (138, (.iload 0, 2, (6, 0, 0), 0, 0, [])), (140, (.ireturn, 1, (0, 0, 0), 0, 0, [])), (141, (.iinc 0 0, 3, (6, 0, 0), 1, 0, [])), (144, (.goto 0, 3, (109, 0, 0), 0, 0, [])), (147, (.iconst 0, 1, (0, 0, 0), (-1), 0, [])), (148, (.ireturn, 1, (0, 0, 0), 0, 0, []))]]
set_option maxRecDepth 20000 in
def tX6_thrown : List (List (Nat × XE)) := [[(0, (.aload 0, 1, (0, 0, 0), 0, 0, [])), (1, (.getfield 0, 3, (6, 0, 10), 0, 0, [])), (4, (.iload 0, 1, (3, 0, 0), 0, 0, [])), (5, (.invokevirtual 0, 3, (2, 44, 168), 0, 0, [])), (8, (.ifCond .eq 0, 3, (27, 0, 0), 0, 0, [])), (11, (.aload 0, 1, (0, 0, 0), 0, 0, [])), (12, (.getfield 0, 3, (6, 0, 10), 0, 0, [])), (15, (.iload 0, 2, (4, 0, 0), 0, 0, [])), (17, (.invokevirtual 0, 3, (2, 43, 178), 0, 0, [])), (20, (.ifnull 0, 3, (27, 0, 0), 0, 0, [])), (23, (.iconst 0, 1, (0, 0, 0), 1, 0, [])), (24, (.goto 0, 3, (28, 0, 0), 0, 0, [])), (27, (.iconst 0, 1, (0, 0, 0), 0, 0, [])), (28, (.istore 0, 2, (5, 0, 0), 0, 0, [])), (30, (.iload 0, 1, (1, 0, 0), 0, 0, [])), (31, (.invokevirtual 0, 3, (1, 121, 143), 0, 0, []))],
  [(34, (.ifCond .eq 0, 3, (52, 0, 0), 0, 0, [])), (37, (.iload 0, 1, (2, 0, 0), 0, 0, [])), (38, (.iconst 0, 1, (0, 0, 0), 0, 0, [])), (39, (.iconst 0, 2, (0, 0, 0), 9, 0, [])), (41, (.invokevirtual 0, 3, (3, 120, 86), 0, 0, [])), (44, (.ifCond .eq 0, 3, (52, 0, 0), 0, 0, [])), (47, (.iload 0, 2, (5, 0, 0), 0, 0, [])), (49, (.ifCond .ne 0, 3, (60, 0, 0), 0, 0, [])), (52, (.aload 0, 1, (0, 0, 0), 0, 0, [])), (53, (.iconst 0, 3, (0, 0, 0), (-1002), 0, [])), (56, (.invokevirtual 0, 3, (2, 124, 90), 0, 0, [])), (59, (.ireturn, 1, (0, 0, 0), 0, 0, [])), (60, (.aload 0, 1, (0, 0, 0), 0, 0, [])), (61, (.getfield 0, 3, (6, 0, 10), 0, 0, []))],
  [(64, (.invokevirtual 0, 3, (1, 45, 328), 0, 0, [])), (67, (.ifCond .ne 0, 3, (78, 0, 0), 0, 0, [])), (70, (.aload 0, 1, (0, 0, 0), 0, 0, [])), (71, (.iconst 0, 3, (0, 0, 0), (-1006), 0, [])), (74, (.invokevirtual 0, 3, (2, 124, 90), 0, 0, [])), (77, (.ireturn, 1, (0, 0, 0), 0, 0, [])), (78, (.aload 0, 1, (0, 0, 0), 0, 0, [])), (79, (.getfield 0, 3, (6, 0, 10), 0, 0, [])), (82, (.iload 0, 1, (1, 0, 0), 0, 0, [])), (83, (.iload 0, 1, (2, 0, 0), 0, 0, [])), (84, (.iload 0, 1, (3, 0, 0), 0, 0, [])), (85, (.iload 0, 2, (4, 0, 0), 0, 0, [])), (87, (.invokevirtual 0, 3, (5, 49, 331), 0, 0, [])), (90, (.ireturn, 1, (0, 0, 0), 0, 0, []))]]
set_option maxRecDepth 20000 in
def tX6_days : List (List (Nat × XE)) := [[(0, (.iload 0, 1, (1, 0, 0), 0, 0, [])), (1, (.iconst 0, 1, (0, 0, 0), 1, 0, [])), (2, (.iconst 0, 2, (0, 0, 0), 60, 0, [])), (4, (.invokevirtual 0, 3, (3, 120, 86), 0, 0, [])), (7, (.ifCond .ne 0, 3, (18, 0, 0), 0, 0, [])), (10, (.aload 0, 1, (0, 0, 0), 0, 0, [])), (11, (.iconst 0, 3, (0, 0, 0), (-1002), 0, [])), (14, (.invokevirtual 0, 3, (2, 124, 90), 0, 0, [])), (17, (.ireturn, 1, (0, 0, 0), 0, 0, [])), (18, (.iconst 0, 1, (0, 0, 0), 0, 0, [])), (19, (.istore 0, 1, (2, 0, 0), 0, 0, [])), (20, (.iload 0, 1, (2, 0, 0), 0, 0, [])), (21, (.iload 0, 1, (1, 0, 0), 0, 0, [])), (22, (.if_icmp .ge 0, 3, (39, 0, 0), 0, 0, [])), (25, (.aload 0, 1, (0, 0, 0), 0, 0, [])), (26, (.getfield 0, 3, (6, 0, 10), 0, 0, [])), (29, (.invokevirtual 0, 3, (1, 61, 334), 0, 0, []))],
  [(32, (.pop, 1, (0, 0, 0), 0, 0, [])), (33, (.iinc 0 0, 3, (2, 0, 0), 1, 0, [])), (36, (.goto 0, 3, (20, 0, 0), 0, 0, [])), (39, (.aload 0, 1, (0, 0, 0), 0, 0, [])), (40, (.getfield 0, 3, (6, 0, 10), 0, 0, [])), (43, (.getfield 0, 3, (5, 3, 337), 0, 0, [])), (46, (.ireturn, 1, (0, 0, 0), 0, 0, []))]]
set_option maxRecDepth 20000 in
def tX6_drawn : List (List (Nat × XE)) := [[(0, (.iload 0, 1, (1, 0, 0), 0, 0, [])), (1, (.iconst 0, 1, (0, 0, 0), 1, 0, [])), (2, (.iconst 0, 2, (0, 0, 0), 60, 0, [])), (4, (.invokevirtual 0, 3, (3, 120, 86), 0, 0, [])), (7, (.ifCond .ne 0, 3, (18, 0, 0), 0, 0, [])), (10, (.aload 0, 1, (0, 0, 0), 0, 0, [])), (11, (.iconst 0, 3, (0, 0, 0), (-1002), 0, [])), (14, (.invokevirtual 0, 3, (2, 124, 90), 0, 0, [])), (17, (.ireturn, 1, (0, 0, 0), 0, 0, [])), (18, (.aload 0, 1, (0, 0, 0), 0, 0, [])), (19, (.getfield 0, 3, (6, 0, 10), 0, 0, [])), (22, (.getfield 0, 3, (5, 5, 301), 0, 0, [])), (25, (.ifCond .ne 0, 3, (36, 0, 0), 0, 0, [])), (28, (.aload 0, 1, (0, 0, 0), 0, 0, [])), (29, (.iconst 0, 3, (0, 0, 0), (-1005), 0, []))],
  [(32, (.invokevirtual 0, 3, (2, 124, 90), 0, 0, [])), (35, (.ireturn, 1, (0, 0, 0), 0, 0, [])), (36, (.iconst 0, 1, (0, 0, 0), 0, 0, [])), (37, (.istore 0, 1, (2, 0, 0), 0, 0, [])), (38, (.iconst 0, 1, (0, 0, 0), 0, 0, [])), (39, (.istore 0, 1, (3, 0, 0), 0, 0, [])), (40, (.iload 0, 1, (3, 0, 0), 0, 0, [])), (41, (.iload 0, 1, (1, 0, 0), 0, 0, [])), (42, (.if_icmp .ge 0, 3, (61, 0, 0), 0, 0, [])), (45, (.iload 0, 1, (2, 0, 0), 0, 0, [])), (46, (.aload 0, 1, (0, 0, 0), 0, 0, [])), (47, (.getfield 0, 3, (6, 0, 10), 0, 0, [])), (50, (.invokevirtual 0, 3, (1, 62, 340), 0, 0, [])), (53, (.iadd, 1, (0, 0, 0), 0, 0, [])), (54, (.istore 0, 1, (2, 0, 0), 0, 0, [])), (55, (.iinc 0 0, 3, (3, 0, 0), 1, 0, [])), (58, (.goto 0, 3, (40, 0, 0), 0, 0, [])), (61, (.iload 0, 1, (2, 0, 0), 0, 0, [])), (62, (.ireturn, 1, (0, 0, 0), 0, 0, []))]]
set_option maxRecDepth 20000 in
def tX6_seed : List (List (Nat × XE)) := [[(0, (.aload 0, 1, (0, 0, 0), 0, 0, [])), (1, (.getfield 0, 3, (6, 0, 10), 0, 0, [])), (4, (.getfield 0, 3, (5, 4, 343), 0, 0, [])), (7, (.istore 0, 1, (2, 0, 0), 0, 0, [])), (8, (.aload 0, 1, (0, 0, 0), 0, 0, [])), (9, (.getfield 0, 3, (6, 0, 10), 0, 0, [])), (12, (.iload 0, 1, (1, 0, 0), 0, 0, [])), (13, (.putfield 0, 3, (5, 4, 343), 0, 0, [])), (16, (.iload 0, 1, (2, 0, 0), 0, 0, [])), (17, (.ireturn, 1, (0, 0, 0), 0, 0, []))]]
set_option maxRecDepth 20000 in
def tX6_image : List (List (Nat × XE)) := [[(0, (.aload 0, 1, (0, 0, 0), 0, 0, [])), (1, (.getfield 0, 3, (6, 1, 16), 0, 0, [])), (4, (.aload 0, 1, (0, 0, 0), 0, 0, [])), (5, (.getfield 0, 3, (6, 0, 10), 0, 0, [])), (8, (.invokevirtual 0, 3, (2, 41, 212), 0, 0, [])), (11, (.aload 0, 1, (0, 0, 0), 0, 0, [])), (12, (.iconst 0, 1, (0, 0, 0), 1, 0, [])), (13, (.putfield 0, 3, (6, 3, 22), 0, 0, [])), (16, (.iconst 0, 1, (0, 0, 0), 1, 0, [])), (17, (.ireturn, 1, (0, 0, 0), 0, 0, []))]]
set_option maxRecDepth 20000 in
def tX6_back : List (List (Nat × XE)) := [[(0, (.aload 0, 1, (0, 0, 0), 0, 0, [])), (1, (.getfield 0, 3, (6, 3, 22), 0, 0, [])), (4, (.ifCond .ne 0, 3, (15, 0, 0), 0, 0, [])), (7, (.aload 0, 1, (0, 0, 0), 0, 0, [])), (8, (.iconst 0, 3, (0, 0, 0), (-1005), 0, [])), (11, (.invokevirtual 0, 3, (2, 124, 90), 0, 0, [])), (14, (.ireturn, 1, (0, 0, 0), 0, 0, [])), (15, (.aload 0, 1, (0, 0, 0), 0, 0, [])), (16, (.getfield 0, 3, (6, 0, 10), 0, 0, [])), (19, (.aload 0, 1, (0, 0, 0), 0, 0, [])), (20, (.getfield 0, 3, (6, 1, 16), 0, 0, [])), (23, (.invokevirtual 0, 3, (2, 41, 212), 0, 0, [])), (26, (.iconst 0, 1, (0, 0, 0), 0, 0, [])), (27, (.istore 0, 1, (1, 0, 0), 0, 0, [])), (28, (.iload 0, 1, (1, 0, 0), 0, 0, [])), (29, (.aload 0, 1, (0, 0, 0), 0, 0, [])), (30, (.getfield 0, 3, (6, 4, 28), 0, 0, []))],
  [(33, (.arraylength, 1, (0, 0, 0), 0, 0, [])), (34, (.if_icmp .ge 0, 3, (82, 0, 0), 0, 0, [])), (37, (.aload 0, 1, (0, 0, 0), 0, 0, [])), (38, (.iload 0, 1, (1, 0, 0), 0, 0, [])), (39, (.invokevirtual 0, 3, (2, 125, 82), 0, 0, [])), (42, (.astore 0, 1, (2, 0, 0), 0, 0, [])), (43, (.aload 0, 1, (2, 0, 0), 0, 0, [])), (44, (.ifnull 0, 3, (76, 0, 0), 0, 0, [])), (47, (.aload 0, 1, (2, 0, 0), 0, 0, [])), (48, (.invokevirtual 0, 3, (1, 7, 114), 0, 0, [])), (51, (.ifCond .eq 0, 3, (76, 0, 0), 0, 0, [])), (54, (.aload 0, 1, (0, 0, 0), 0, 0, [])), (55, (.getfield 0, 3, (6, 0, 10), 0, 0, [])), (58, (.aload 0, 1, (2, 0, 0), 0, 0, [])), (59, (.getfield 0, 3, (1, 0, 117), 0, 0, [])), (62, (.iconst 0, 2, (0, 0, 0), 10, 0, []))],
  [(64, (.isub, 1, (0, 0, 0), 0, 0, [])), (65, (.invokevirtual 0, 3, (2, 42, 139), 0, 0, [])), (68, (.ifnonnull 0, 3, (76, 0, 0), 0, 0, [])), (71, (.aload 0, 1, (2, 0, 0), 0, 0, [])), (72, (.iconst 0, 1, (0, 0, 0), (-1), 0, [])), (73, (.putfield 0, 3, (1, 0, 117), 0, 0, [])), (76, (.iinc 0 0, 3, (1, 0, 0), 1, 0, [])), (79, (.goto 0, 3, (28, 0, 0), 0, 0, [])), (82, (.iconst 0, 1, (0, 0, 0), 1, 0, [])), (83, (.ireturn, 1, (0, 0, 0), 0, 0, []))]]
set_option maxRecDepth 20000 in
def tX6_status : List (List (Nat × XE)) := [[(0, (.iload 0, 1, (1, 0, 0), 0, 0, [])), (1, (.tableswitch 0 0 0 #[], 55, (134, 0, 0), 0, 0, [(0, 56), (1, 64), (2, 72), (3, 80), (4, 88), (5, 96), (6, 104), (7, 113), (8, 121), (9, 129)]))],
  [(56, (.aload 0, 1, (0, 0, 0), 0, 0, [])), (57, (.getfield 0, 3, (6, 0, 10), 0, 0, [])), (60, (.getfield 0, 3, (5, 5, 301), 0, 0, [])), (63, (.ireturn, 1, (0, 0, 0), 0, 0, []))],
  [(64, (.aload 0, 1, (0, 0, 0), 0, 0, [])), (65, (.getfield 0, 3, (6, 0, 10), 0, 0, [])), (68, (.getfield 0, 3, (5, 6, 258), 0, 0, [])), (71, (.ireturn, 1, (0, 0, 0), 0, 0, [])), (72, (.aload 0, 1, (0, 0, 0), 0, 0, [])), (73, (.getfield 0, 3, (6, 0, 10), 0, 0, [])), (76, (.getfield 0, 3, (5, 0, 165), 0, 0, [])), (79, (.ireturn, 1, (0, 0, 0), 0, 0, [])), (80, (.aload 0, 1, (0, 0, 0), 0, 0, [])), (81, (.getfield 0, 3, (6, 0, 10), 0, 0, [])), (84, (.getfield 0, 3, (5, 1, 200), 0, 0, [])), (87, (.ireturn, 1, (0, 0, 0), 0, 0, [])), (88, (.aload 0, 1, (0, 0, 0), 0, 0, [])), (89, (.getfield 0, 3, (6, 0, 10), 0, 0, [])), (92, (.getfield 0, 3, (5, 2, 158), 0, 0, [])), (95, (.ireturn, 1, (0, 0, 0), 0, 0, []))],
  [(96, (.aload 0, 1, (0, 0, 0), 0, 0, [])), (97, (.getfield 0, 3, (6, 0, 10), 0, 0, [])), (100, (.getfield 0, 3, (5, 3, 337), 0, 0, [])), (103, (.ireturn, 1, (0, 0, 0), 0, 0, [])), (104, (.aload 0, 1, (0, 0, 0), 0, 0, [])), (105, (.iconst 0, 1, (0, 0, 0), 0, 0, [])), (106, (.invokevirtual 0, 3, (2, 99, 346), 0, 0, [])), (109, (.invokevirtual 0, 3, (1, 237, 349), 0, 0, [])), (112, (.ireturn, 1, (0, 0, 0), 0, 0, [])), (113, (.aload 0, 1, (0, 0, 0), 0, 0, [])), (114, (.getfield 0, 3, (6, 5, 35), 0, 0, [])), (117, (.getfield 0, 3, (2, 0, 209), 0, 0, [])), (120, (.ireturn, 1, (0, 0, 0), 0, 0, [])), (121, (.aload 0, 1, (0, 0, 0), 0, 0, [])), (122, (.getfield 0, 3, (6, 0, 10), 0, 0, [])), (125, (.getfield 0, 3, (5, 4, 343), 0, 0, []))],
  [(128, (.ireturn, 1, (0, 0, 0), 0, 0, [])), (129, (.aload 0, 1, (0, 0, 0), 0, 0, [])), (130, (.invokevirtual 0, 3, (1, 126, 354), 0, 0, [])), (133, (.ireturn, 1, (0, 0, 0), 0, 0, [])), (134, (.iload 0, 1, (1, 0, 0), 0, 0, [])), (135, (.iconst 0, 2, (0, 0, 0), 12, 0, [])), (137, (.iconst 0, 2, (0, 0, 0), 16, 0, [])), (139, (.invokevirtual 0, 3, (3, 120, 86), 0, 0, [])), (142, (.ifCond .eq 0, 3, (157, 0, 0), 0, 0, [])), (145, (.aload 0, 1, (0, 0, 0), 0, 0, [])), (146, (.getfield 0, 3, (6, 6, 39), 0, 0, [])), (149, (.iload 0, 1, (1, 0, 0), 0, 0, [])), (150, (.iconst 0, 2, (0, 0, 0), 12, 0, [])), (152, (.isub, 1, (0, 0, 0), 0, 0, [])), (153, (.iaload, 1, (0, 0, 0), 0, 0, [])), (154, (.goto 0, 3, (158, 0, 0), 0, 0, [])), (157, (.iconst 0, 1, (0, 0, 0), (-1), 0, [])), (158, (.ireturn, 1, (0, 0, 0), 0, 0, []))]]
set_option maxRecDepth 20000 in
def tX6_within : List (List (Nat × XE)) := [[(0, (.iload 0, 1, (0, 0, 0), 0, 0, [])), (1, (.iload 0, 1, (1, 0, 0), 0, 0, [])), (2, (.if_icmp .lt 0, 3, (14, 0, 0), 0, 0, [])), (5, (.iload 0, 1, (0, 0, 0), 0, 0, [])), (6, (.iload 0, 1, (2, 0, 0), 0, 0, [])), (7, (.if_icmp .gt 0, 3, (14, 0, 0), 0, 0, [])), (10, (.iconst 0, 1, (0, 0, 0), 1, 0, [])), (11, (.goto 0, 3, (15, 0, 0), 0, 0, [])), (14, (.iconst 0, 1, (0, 0, 0), 0, 0, [])), (15, (.ireturn, 1, (0, 0, 0), 0, 0, []))]]
set_option maxRecDepth 20000 in
def tX6_isKind : List (List (Nat × XE)) := [[(0, (.iload 0, 1, (0, 0, 0), 0, 0, [])), (1, (.iconst 0, 1, (0, 0, 0), 0, 0, [])), (2, (.iconst 0, 1, (0, 0, 0), 5, 0, [])), (3, (.invokevirtual 0, 3, (3, 120, 86), 0, 0, [])), (6, (.ireturn, 1, (0, 0, 0), 0, 0, []))]]
set_option maxRecDepth 20000 in
def tX6_isOrIsUnder : List (List (Nat × XE)) := [[(0, (.iload 0, 1, (0, 0, 0), 0, 0, [])), (1, (.istore 0, 1, (2, 0, 0), 0, 0, [])), (2, (.iconst 0, 1, (0, 0, 0), 0, 0, [])), (3, (.istore 0, 1, (3, 0, 0), 0, 0, [])), (4, (.iload 0, 1, (3, 0, 0), 0, 0, [])), (5, (.iconst 0, 2, (0, 0, 0), 6, 0, [])), (7, (.if_icmp .ge 0, 3, (36, 0, 0), 0, 0, [])), (10, (.iload 0, 1, (2, 0, 0), 0, 0, [])), (11, (.invokevirtual 0, 3, (1, 121, 143), 0, 0, [])), (14, (.ifCond .eq 0, 3, (36, 0, 0), 0, 0, [])), (17, (.iload 0, 1, (2, 0, 0), 0, 0, [])), (18, (.iload 0, 1, (1, 0, 0), 0, 0, [])), (19, (.if_icmp .ne 0, 3, (24, 0, 0), 0, 0, [])), (22, (.iconst 0, 1, (0, 0, 0), 1, 0, [])), (23, (.ireturn, 1, (0, 0, 0), 0, 0, [])), (24, (.getstatic 0, 3, (32, 0, 357), 0, 0, [])), (27, (.iload 0, 1, (2, 0, 0), 0, 0, [])), (28, (.iaload, 1, (0, 0, 0), 0, 0, [])), (29, (.istore 0, 1, (2, 0, 0), 0, 0, [])), (30, (.iinc 0 0, 3, (3, 0, 0), 1, 0, []))],
  [(33, (.goto 0, 3, (4, 0, 0), 0, 0, [])), (36, (.iconst 0, 1, (0, 0, 0), 0, 0, [])), (37, (.ireturn, 1, (0, 0, 0), 0, 0, []))]]
set_option maxRecDepth 20000 in
def tX6_toughnessOf : List (List (Nat × XE)) := [[(0, (.iload 0, 1, (0, 0, 0), 0, 0, [])), (1, (.tableswitch 0 0 0 #[], 35, (51, 0, 0), 0, 0, [(1, 36), (2, 40), (3, 38), (4, 42), (5, 48)]))],
  [(36, (.iconst 0, 1, (0, 0, 0), 5, 0, [])), (37, (.ireturn, 1, (0, 0, 0), 0, 0, [])), (38, (.iconst 0, 1, (0, 0, 0), 5, 0, [])), (39, (.ireturn, 1, (0, 0, 0), 0, 0, [])), (40, (.iconst 0, 1, (0, 0, 0), 4, 0, [])), (41, (.ireturn, 1, (0, 0, 0), 0, 0, [])), (42, (.iconst 0, 1, (0, 0, 0), 4, 0, [])), (43, (.iload 0, 1, (1, 0, 0), 0, 0, [])), (44, (.iconst 0, 1, (0, 0, 0), 3, 0, [])), (45, (.idiv, 1, (0, 0, 0), 0, 0, [])), (46, (.iadd, 1, (0, 0, 0), 0, 0, [])), (47, (.ireturn, 1, (0, 0, 0), 0, 0, [])), (48, (.iconst 0, 2, (0, 0, 0), 99, 0, [])), (50, (.ireturn, 1, (0, 0, 0), 0, 0, [])), (51, (.iconst 0, 1, (0, 0, 0), 3, 0, [])), (52, (.ireturn, 1, (0, 0, 0), 0, 0, []))]]
set_option maxRecDepth 20000 in
def tX6_refuse : List (List (Nat × XE)) := [[(0, (.iconst 0, 3, (0, 0, 0), (-1002), 0, [])), (3, (.iload 0, 1, (1, 0, 0), 0, 0, [])), (4, (.isub, 1, (0, 0, 0), 0, 0, [])), (5, (.istore 0, 1, (2, 0, 0), 0, 0, [])), (6, (.iload 0, 1, (2, 0, 0), 0, 0, [])), (7, (.ifCond .lt 0, 3, (29, 0, 0), 0, 0, [])), (10, (.iload 0, 1, (2, 0, 0), 0, 0, [])), (11, (.aload 0, 1, (0, 0, 0), 0, 0, [])), (12, (.getfield 0, 3, (6, 6, 39), 0, 0, [])), (15, (.arraylength, 1, (0, 0, 0), 0, 0, [])), (16, (.if_icmp .ge 0, 3, (29, 0, 0), 0, 0, [])), (19, (.aload 0, 1, (0, 0, 0), 0, 0, [])), (20, (.getfield 0, 3, (6, 6, 39), 0, 0, [])), (23, (.iload 0, 1, (2, 0, 0), 0, 0, [])), (24, (.dup2, 1, (0, 0, 0), 0, 0, [])), (25, (.iaload, 1, (0, 0, 0), 0, 0, [])), (26, (.iconst 0, 1, (0, 0, 0), 1, 0, [])), (27, (.iadd, 1, (0, 0, 0), 0, 0, [])), (28, (.iastore, 1, (0, 0, 0), 0, 0, [])), (29, (.iload 0, 1, (1, 0, 0), 0, 0, [])), (30, (.ireturn, 1, (0, 0, 0), 0, 0, []))]]
set_option maxRecDepth 20000 in
def tX6_shelfAt : List (List (Nat × XE)) := [[(0, (.iload 0, 1, (1, 0, 0), 0, 0, [])), (1, (.ifCond .lt 0, 3, (22, 0, 0), 0, 0, [])), (4, (.iload 0, 1, (1, 0, 0), 0, 0, [])), (5, (.aload 0, 1, (0, 0, 0), 0, 0, [])), (6, (.getfield 0, 3, (6, 4, 28), 0, 0, [])), (9, (.arraylength, 1, (0, 0, 0), 0, 0, [])), (10, (.if_icmp .ge 0, 3, (22, 0, 0), 0, 0, [])), (13, (.aload 0, 1, (0, 0, 0), 0, 0, [])), (14, (.getfield 0, 3, (6, 4, 28), 0, 0, [])), (17, (.iload 0, 1, (1, 0, 0), 0, 0, [])), (18, (.aaload, 1, (0, 0, 0), 0, 0, [])), (19, (.goto 0, 3, (23, 0, 0), 0, 0, [])), (22, (.aconst_null, 1, (0, 0, 0), 0, 0, [])), (23, (.areturn, 1, (0, 0, 0), 0, 0, []))]]
set_option maxRecDepth 20000 in
def tX6_shelvesInUse : List (List (Nat × XE)) := [[(0, (.iconst 0, 1, (0, 0, 0), 0, 0, [])), (1, (.istore 0, 1, (1, 0, 0), 0, 0, [])), (2, (.iconst 0, 1, (0, 0, 0), 0, 0, [])), (3, (.istore 0, 1, (2, 0, 0), 0, 0, [])), (4, (.iload 0, 1, (2, 0, 0), 0, 0, [])), (5, (.aload 0, 1, (0, 0, 0), 0, 0, [])), (6, (.getfield 0, 3, (6, 4, 28), 0, 0, [])), (9, (.arraylength, 1, (0, 0, 0), 0, 0, [])), (10, (.if_icmp .ge 0, 3, (31, 0, 0), 0, 0, [])), (13, (.aload 0, 1, (0, 0, 0), 0, 0, [])), (14, (.iload 0, 1, (2, 0, 0), 0, 0, [])), (15, (.invokevirtual 0, 3, (2, 69, 360), 0, 0, [])), (18, (.iconst 0, 1, (0, 0, 0), (-1), 0, [])), (19, (.if_icmp .eq 0, 3, (25, 0, 0), 0, 0, [])), (22, (.iinc 0 0, 3, (1, 0, 0), 1, 0, [])), (25, (.iinc 0 0, 3, (2, 0, 0), 1, 0, [])), (28, (.goto 0, 3, (4, 0, 0), 0, 0, [])), (31, (.iload 0, 1, (1, 0, 0), 0, 0, []))],
  [(32, (.ireturn, 1, (0, 0, 0), 0, 0, []))]]
set_option maxRecDepth 20000 in
def tX6_firstMeeting : List (List (Nat × XE)) := [[(0, (.aload 0, 1, (1, 0, 0), 0, 0, [])), (1, (.ifnonnull 0, 3, (6, 0, 0), 0, 0, [])), (4, (.iconst 0, 1, (0, 0, 0), (-1), 0, [])), (5, (.ireturn, 1, (0, 0, 0), 0, 0, [])), (6, (.aload 0, 1, (0, 0, 0), 0, 0, [])), (7, (.getfield 0, 3, (6, 10, 63), 0, 0, [])), (10, (.aload 0, 1, (1, 0, 0), 0, 0, [])), (11, (.invokevirtual 0, 3, (2, 37, 240), 0, 0, [])), (14, (.iconst 0, 1, (0, 0, 0), 1, 0, [])), (15, (.istore 0, 1, (3, 0, 0), 0, 0, [])), (16, (.iload 0, 1, (3, 0, 0), 0, 0, [])), (17, (.iload 0, 1, (2, 0, 0), 0, 0, [])), (18, (.if_icmp .gt 0, 3, (72, 0, 0), 0, 0, [])), (21, (.aload 0, 1, (0, 0, 0), 0, 0, [])), (22, (.getfield 0, 3, (6, 10, 63), 0, 0, [])), (25, (.aload 0, 1, (0, 0, 0), 0, 0, [])), (26, (.getfield 0, 3, (6, 0, 10), 0, 0, [])), (29, (.getfield 0, 3, (5, 0, 165), 0, 0, []))],
  [(32, (.invokevirtual 0, 3, (2, 39, 243), 0, 0, [])), (35, (.aload 0, 1, (0, 0, 0), 0, 0, [])), (36, (.getfield 0, 3, (6, 7, 46), 0, 0, [])), (39, (.iload 0, 1, (3, 0, 0), 0, 0, [])), (40, (.invokevirtual 0, 3, (2, 33, 237), 0, 0, [])), (43, (.ifCond .ne 0, 3, (66, 0, 0), 0, 0, [])), (46, (.aload 0, 1, (0, 0, 0), 0, 0, [])), (47, (.getfield 0, 3, (6, 7, 46), 0, 0, [])), (50, (.iload 0, 1, (3, 0, 0), 0, 0, [])), (51, (.invokevirtual 0, 3, (2, 32, 234), 0, 0, [])), (54, (.aload 0, 1, (0, 0, 0), 0, 0, [])), (55, (.getfield 0, 3, (6, 10, 63), 0, 0, [])), (58, (.getfield 0, 3, (4, 0, 185), 0, 0, [])), (61, (.if_icmp .ne 0, 3, (66, 0, 0), 0, 0, []))],
  [(64, (.iload 0, 1, (3, 0, 0), 0, 0, [])), (65, (.ireturn, 1, (0, 0, 0), 0, 0, [])), (66, (.iinc 0 0, 3, (3, 0, 0), 1, 0, [])), (69, (.goto 0, 3, (16, 0, 0), 0, 0, [])), (72, (.iconst 0, 1, (0, 0, 0), (-1), 0, [])), (73, (.ireturn, 1, (0, 0, 0), 0, 0, []))]]
set_option maxRecDepth 20000 in
def tX6_foundWalking : List (List (Nat × XE)) := [[(0, (.aload 0, 1, (0, 0, 0), 0, 0, [])), (1, (.getfield 0, 3, (6, 0, 10), 0, 0, [])), (4, (.iload 0, 1, (1, 0, 0), 0, 0, [])), (5, (.invokevirtual 0, 3, (2, 43, 178), 0, 0, [])), (8, (.astore 0, 2, (5, 0, 0), 0, 0, [])), (10, (.aload 0, 2, (5, 0, 0), 0, 0, [])), (12, (.ifnonnull 0, 3, (17, 0, 0), 0, 0, [])), (15, (.iconst 0, 1, (0, 0, 0), 0, 0, [])), (16, (.ireturn, 1, (0, 0, 0), 0, 0, [])), (17, (.aload 0, 1, (0, 0, 0), 0, 0, [])), (18, (.getfield 0, 3, (6, 11, 67), 0, 0, [])), (21, (.aload 0, 2, (5, 0, 0), 0, 0, [])), (23, (.getfield 0, 3, (4, 0, 185), 0, 0, [])), (26, (.iload 0, 1, (2, 0, 0), 0, 0, [])), (27, (.iload 0, 1, (3, 0, 0), 0, 0, [])), (28, (.invokevirtual 0, 3, (4, 36, 363), 0, 0, [])), (31, (.iconst 0, 1, (0, 0, 0), 0, 0, []))],
  [(32, (.istore 0, 2, (6, 0, 0), 0, 0, [])), (34, (.iconst 0, 1, (0, 0, 0), 0, 0, [])), (35, (.istore 0, 2, (7, 0, 0), 0, 0, [])), (37, (.iload 0, 2, (7, 0, 0), 0, 0, [])), (39, (.aload 0, 1, (0, 0, 0), 0, 0, [])), (40, (.getfield 0, 3, (6, 0, 10), 0, 0, [])), (43, (.getfield 0, 3, (5, 5, 301), 0, 0, [])), (46, (.if_icmp .ge 0, 3, (110, 0, 0), 0, 0, [])), (49, (.aload 0, 1, (0, 0, 0), 0, 0, [])), (50, (.getfield 0, 3, (6, 0, 10), 0, 0, [])), (53, (.iload 0, 2, (7, 0, 0), 0, 0, [])), (55, (.invokevirtual 0, 3, (2, 42, 139), 0, 0, [])), (58, (.astore 0, 2, (8, 0, 0), 0, 0, [])), (60, (.aload 0, 2, (8, 0, 0), 0, 0, [])), (62, (.ifnull 0, 3, (104, 0, 0), 0, 0, []))],
  [(65, (.aload 0, 2, (8, 0, 0), 0, 0, [])), (67, (.getfield 0, 3, (0, 3, 227), 0, 0, [])), (70, (.iload 0, 1, (1, 0, 0), 0, 0, [])), (71, (.if_icmp .ne 0, 3, (104, 0, 0), 0, 0, [])), (74, (.aload 0, 2, (8, 0, 0), 0, 0, [])), (76, (.getfield 0, 3, (0, 4, 304), 0, 0, [])), (79, (.ifCond .ne 0, 3, (104, 0, 0), 0, 0, [])), (82, (.aload 0, 1, (0, 0, 0), 0, 0, [])), (83, (.getfield 0, 3, (6, 0, 10), 0, 0, [])), (86, (.aload 0, 2, (8, 0, 0), 0, 0, [])), (88, (.aload 0, 1, (0, 0, 0), 0, 0, [])), (89, (.getfield 0, 3, (6, 11, 67), 0, 0, [])), (92, (.iload 0, 2, (4, 0, 0), 0, 0, [])), (94, (.invokevirtual 0, 3, (4, 58, 264), 0, 0, []))],
  [(97, (.iconst 0, 1, (0, 0, 0), (-1), 0, [])), (98, (.if_icmp .eq 0, 3, (104, 0, 0), 0, 0, [])), (101, (.iinc 0 0, 3, (6, 0, 0), 1, 0, [])), (104, (.iinc 0 0, 3, (7, 0, 0), 1, 0, [])), (107, (.goto 0, 3, (37, 0, 0), 0, 0, [])), (110, (.iload 0, 2, (6, 0, 0), 0, 0, [])), (112, (.ireturn, 1, (0, 0, 0), 0, 0, []))]]
set_option maxRecDepth 20000 in
def tX6_driftsAlong : List (List (Nat × XE)) := [[(0, (.aload 0, 1, (1, 0, 0), 0, 0, [])), (1, (.iconst 0, 1, (0, 0, 0), 0, 0, [])), (2, (.invokevirtual 0, 3, (2, 13, 135), 0, 0, [])), (5, (.lstore 0, 2, (5, 0, 0), 0, 0, [])), (7, (.lload 0, 2, (5, 0, 0), 0, 0, [])), (9, (.lconst 0, 1, (0, 0, 0), 0, 0, [])), (10, (.lcmp, 1, (0, 0, 0), 0, 0, [])), (11, (.ifCond .lt 0, 3, (28, 0, 0), 0, 0, [])), (14, (.lload 0, 2, (5, 0, 0), 0, 0, [])), (16, (.aload 0, 1, (0, 0, 0), 0, 0, [])), (17, (.getfield 0, 3, (6, 2, 19), 0, 0, [])), (20, (.getfield 0, 3, (5, 0, 165), 0, 0, [])), (23, (.i2l, 1, (0, 0, 0), 0, 0, [])), (24, (.lcmp, 1, (0, 0, 0), 0, 0, [])), (25, (.ifCond .lt 0, 3, (30, 0, 0), 0, 0, [])), (28, (.iconst 0, 1, (0, 0, 0), 0, 0, [])), (29, (.ireturn, 1, (0, 0, 0), 0, 0, [])), (30, (.aload 0, 1, (0, 0, 0), 0, 0, [])), (31, (.getfield 0, 3, (6, 9, 56), 0, 0, []))],
  [(34, (.iload 0, 1, (3, 0, 0), 0, 0, [])), (35, (.iload 0, 2, (4, 0, 0), 0, 0, [])), (37, (.lload 0, 2, (5, 0, 0), 0, 0, [])), (39, (.l2i, 1, (0, 0, 0), 0, 0, [])), (40, (.iconst 0, 1, (0, 0, 0), (-1), 0, [])), (41, (.invokevirtual 0, 3, (5, 1, 261), 0, 0, [])), (44, (.iconst 0, 1, (0, 0, 0), 1, 0, [])), (45, (.istore 0, 2, (7, 0, 0), 0, 0, [])), (47, (.iload 0, 2, (7, 0, 0), 0, 0, [])), (49, (.iload 0, 1, (2, 0, 0), 0, 0, [])), (50, (.if_icmp .ge 0, 3, (113, 0, 0), 0, 0, [])), (53, (.aload 0, 1, (0, 0, 0), 0, 0, [])), (54, (.getfield 0, 3, (6, 2, 19), 0, 0, [])), (57, (.aload 0, 1, (0, 0, 0), 0, 0, [])), (58, (.getfield 0, 3, (6, 9, 56), 0, 0, [])), (61, (.aload 0, 1, (0, 0, 0), 0, 0, [])), (62, (.getfield 0, 3, (6, 2, 19), 0, 0, []))],
  [(65, (.iload 0, 2, (7, 0, 0), 0, 0, [])), (67, (.iconst 0, 1, (0, 0, 0), 1, 0, [])), (68, (.isub, 1, (0, 0, 0), 0, 0, [])), (69, (.invokevirtual 0, 3, (2, 54, 366), 0, 0, [])), (72, (.iconst 0, 1, (0, 0, 0), (-1), 0, [])), (73, (.invokevirtual 0, 3, (4, 56, 324), 0, 0, [])), (76, (.aload 0, 1, (0, 0, 0), 0, 0, [])), (77, (.getfield 0, 3, (6, 9, 56), 0, 0, [])), (80, (.getfield 0, 3, (0, 4, 304), 0, 0, [])), (83, (.iconst 0, 1, (0, 0, 0), 2, 0, [])), (84, (.if_icmp .eq 0, 3, (105, 0, 0), 0, 0, [])), (87, (.aload 0, 1, (0, 0, 0), 0, 0, [])), (88, (.getfield 0, 3, (6, 9, 56), 0, 0, [])), (91, (.getfield 0, 3, (0, 2, 155), 0, 0, [])), (94, (.i2l, 1, (0, 0, 0), 0, 0, [])), (95, (.aload 0, 1, (1, 0, 0), 0, 0, []))],
  [(96, (.iload 0, 2, (7, 0, 0), 0, 0, [])), (98, (.invokevirtual 0, 3, (2, 13, 135), 0, 0, [])), (101, (.lcmp, 1, (0, 0, 0), 0, 0, [])), (102, (.ifCond .eq 0, 3, (107, 0, 0), 0, 0, [])), (105, (.iconst 0, 1, (0, 0, 0), 0, 0, [])), (106, (.ireturn, 1, (0, 0, 0), 0, 0, [])), (107, (.iinc 0 0, 3, (7, 0, 0), 1, 0, [])), (110, (.goto 0, 3, (47, 0, 0), 0, 0, [])), (113, (.iconst 0, 1, (0, 0, 0), 1, 0, [])), (114, (.ireturn, 1, (0, 0, 0), 0, 0, []))]]
set_option maxRecDepth 20000 in
def tX6_endsBy : List (List (Nat × XE)) := [[(0, (.aload 0, 1, (0, 0, 0), 0, 0, [])), (1, (.getfield 0, 3, (6, 0, 10), 0, 0, [])), (4, (.aload 0, 1, (1, 0, 0), 0, 0, [])), (5, (.getfield 0, 3, (0, 3, 227), 0, 0, [])), (8, (.invokevirtual 0, 3, (2, 43, 178), 0, 0, [])), (11, (.astore 0, 2, (4, 0, 0), 0, 0, [])), (13, (.aload 0, 2, (4, 0, 0), 0, 0, [])), (15, (.ifnonnull 0, 3, (23, 0, 0), 0, 0, [])), (18, (.aload 0, 1, (1, 0, 0), 0, 0, [])), (19, (.getfield 0, 3, (0, 4, 304), 0, 0, [])), (22, (.ireturn, 1, (0, 0, 0), 0, 0, [])), (23, (.aload 0, 1, (0, 0, 0), 0, 0, [])), (24, (.getfield 0, 3, (6, 9, 56), 0, 0, [])), (27, (.aload 0, 1, (1, 0, 0), 0, 0, [])), (28, (.invokevirtual 0, 3, (2, 2, 369), 0, 0, [])), (31, (.aload 0, 1, (0, 0, 0), 0, 0, []))],
  [(32, (.getfield 0, 3, (6, 10, 63), 0, 0, [])), (35, (.aload 0, 2, (4, 0, 0), 0, 0, [])), (37, (.invokevirtual 0, 3, (2, 37, 240), 0, 0, [])), (40, (.iload 0, 1, (3, 0, 0), 0, 0, [])), (41, (.istore 0, 2, (5, 0, 0), 0, 0, [])), (43, (.iconst 0, 1, (0, 0, 0), 0, 0, [])), (44, (.istore 0, 2, (6, 0, 0), 0, 0, [])), (46, (.iload 0, 2, (6, 0, 0), 0, 0, [])), (48, (.iload 0, 1, (2, 0, 0), 0, 0, [])), (49, (.if_icmp .ge 0, 3, (116, 0, 0), 0, 0, [])), (52, (.aload 0, 1, (0, 0, 0), 0, 0, [])), (53, (.getfield 0, 3, (6, 2, 19), 0, 0, [])), (56, (.iload 0, 2, (5, 0, 0), 0, 0, [])), (58, (.iconst 0, 1, (0, 0, 0), 5, 0, [])), (59, (.irem, 1, (0, 0, 0), 0, 0, [])), (60, (.putfield 0, 3, (5, 1, 200), 0, 0, [])), (63, (.iload 0, 2, (5, 0, 0), 0, 0, []))],
  [(65, (.iconst 0, 1, (0, 0, 0), 5, 0, [])), (66, (.idiv, 1, (0, 0, 0), 0, 0, [])), (67, (.istore 0, 2, (5, 0, 0), 0, 0, [])), (69, (.aload 0, 1, (0, 0, 0), 0, 0, [])), (70, (.getfield 0, 3, (6, 10, 63), 0, 0, [])), (73, (.aload 0, 1, (0, 0, 0), 0, 0, [])), (74, (.getfield 0, 3, (6, 2, 19), 0, 0, [])), (77, (.getfield 0, 3, (5, 0, 165), 0, 0, [])), (80, (.invokevirtual 0, 3, (2, 39, 243), 0, 0, [])), (83, (.aload 0, 1, (0, 0, 0), 0, 0, [])), (84, (.getfield 0, 3, (6, 2, 19), 0, 0, [])), (87, (.aload 0, 1, (0, 0, 0), 0, 0, [])), (88, (.getfield 0, 3, (6, 9, 56), 0, 0, [])), (91, (.aload 0, 1, (0, 0, 0), 0, 0, [])), (92, (.getfield 0, 3, (6, 2, 19), 0, 0, [])), (95, (.iload 0, 2, (6, 0, 0), 0, 0, []))],
  [(97, (.invokevirtual 0, 3, (2, 54, 366), 0, 0, [])), (100, (.aload 0, 1, (0, 0, 0), 0, 0, [])), (101, (.getfield 0, 3, (6, 10, 63), 0, 0, [])), (104, (.getfield 0, 3, (4, 0, 185), 0, 0, [])), (107, (.invokevirtual 0, 3, (4, 56, 324), 0, 0, [])), (110, (.iinc 0 0, 3, (6, 0, 0), 1, 0, [])), (113, (.goto 0, 3, (46, 0, 0), 0, 0, [])), (116, (.aload 0, 1, (0, 0, 0), 0, 0, [])), (117, (.getfield 0, 3, (6, 9, 56), 0, 0, [])), (120, (.getfield 0, 3, (0, 4, 304), 0, 0, [])), (123, (.ireturn, 1, (0, 0, 0), 0, 0, []))]]
set_option maxRecDepth 20000 in
def tX6_fillVisited : List (List (Nat × XE)) := [[(0, (.iconst 0, 1, (0, 0, 0), 0, 0, [])), (1, (.istore 0, 1, (1, 0, 0), 0, 0, [])), (2, (.iload 0, 1, (1, 0, 0), 0, 0, [])), (3, (.aload 0, 1, (0, 0, 0), 0, 0, [])), (4, (.getfield 0, 3, (6, 12, 70), 0, 0, [])), (7, (.arraylength, 1, (0, 0, 0), 0, 0, [])), (8, (.if_icmp .ge 0, 3, (67, 0, 0), 0, 0, [])), (11, (.aload 0, 1, (0, 0, 0), 0, 0, [])), (12, (.getfield 0, 3, (6, 0, 10), 0, 0, [])), (15, (.iload 0, 1, (1, 0, 0), 0, 0, [])), (16, (.invokevirtual 0, 3, (2, 42, 139), 0, 0, [])), (19, (.astore 0, 1, (2, 0, 0), 0, 0, [])), (20, (.aload 0, 1, (0, 0, 0), 0, 0, [])), (21, (.getfield 0, 3, (6, 12, 70), 0, 0, [])), (24, (.iload 0, 1, (1, 0, 0), 0, 0, [])), (25, (.iconst 0, 1, (0, 0, 0), 0, 0, [])), (26, (.iastore, 1, (0, 0, 0), 0, 0, [])), (27, (.aload 0, 1, (2, 0, 0), 0, 0, [])), (28, (.ifnull 0, 3, (61, 0, 0), 0, 0, [])), (31, (.aload 0, 1, (0, 0, 0), 0, 0, []))],
  [(32, (.getfield 0, 3, (6, 0, 10), 0, 0, [])), (35, (.aload 0, 1, (0, 0, 0), 0, 0, [])), (36, (.getfield 0, 3, (6, 7, 46), 0, 0, [])), (39, (.aload 0, 1, (2, 0, 0), 0, 0, [])), (40, (.aconst_null, 1, (0, 0, 0), 0, 0, [])), (41, (.iconst 0, 2, (0, 0, 0), 60, 0, [])), (43, (.invokevirtual 0, 3, (5, 57, 230), 0, 0, [])), (46, (.aload 0, 1, (0, 0, 0), 0, 0, [])), (47, (.getfield 0, 3, (6, 12, 70), 0, 0, [])), (50, (.iload 0, 1, (1, 0, 0), 0, 0, [])), (51, (.aload 0, 1, (0, 0, 0), 0, 0, [])), (52, (.getfield 0, 3, (6, 7, 46), 0, 0, [])), (55, (.iconst 0, 2, (0, 0, 0), 60, 0, [])), (57, (.invokevirtual 0, 3, (2, 34, 293), 0, 0, [])), (60, (.iastore, 1, (0, 0, 0), 0, 0, [])), (61, (.iinc 0 0, 3, (1, 0, 0), 1, 0, []))],
  [(64, (.goto 0, 3, (2, 0, 0), 0, 0, [])), (67, (.return_, 1, (0, 0, 0), 0, 0, []))]]
set_option maxRecDepth 20000 in
def tX6_fillMeetings : List (List (Nat × XE)) := [[(0, (.iconst 0, 1, (0, 0, 0), 0, 0, [])), (1, (.istore 0, 1, (2, 0, 0), 0, 0, [])), (2, (.iload 0, 1, (2, 0, 0), 0, 0, [])), (3, (.iconst 0, 2, (0, 0, 0), 8, 0, [])), (5, (.if_icmp .ge 0, 3, (88, 0, 0), 0, 0, [])), (8, (.aload 0, 1, (0, 0, 0), 0, 0, [])), (9, (.getfield 0, 3, (6, 0, 10), 0, 0, [])), (12, (.iload 0, 1, (2, 0, 0), 0, 0, [])), (13, (.invokevirtual 0, 3, (2, 42, 139), 0, 0, [])), (16, (.astore 0, 1, (3, 0, 0), 0, 0, [])), (17, (.aload 0, 1, (3, 0, 0), 0, 0, [])), (18, (.ifnull 0, 3, (35, 0, 0), 0, 0, [])), (21, (.aload 0, 1, (0, 0, 0), 0, 0, [])), (22, (.getfield 0, 3, (6, 0, 10), 0, 0, [])), (25, (.aload 0, 1, (0, 0, 0), 0, 0, [])), (26, (.getfield 0, 3, (6, 7, 46), 0, 0, [])), (29, (.aload 0, 1, (3, 0, 0), 0, 0, [])), (30, (.aconst_null, 1, (0, 0, 0), 0, 0, [])), (31, (.iload 0, 1, (1, 0, 0), 0, 0, []))],
  [(32, (.invokevirtual 0, 3, (5, 57, 230), 0, 0, [])), (35, (.iconst 0, 1, (0, 0, 0), 0, 0, [])), (36, (.istore 0, 2, (4, 0, 0), 0, 0, [])), (38, (.iload 0, 2, (4, 0, 0), 0, 0, [])), (40, (.iconst 0, 2, (0, 0, 0), 6, 0, [])), (42, (.if_icmp .ge 0, 3, (82, 0, 0), 0, 0, [])), (45, (.aload 0, 1, (0, 0, 0), 0, 0, [])), (46, (.getfield 0, 3, (6, 13, 75), 0, 0, [])), (49, (.iload 0, 1, (2, 0, 0), 0, 0, [])), (50, (.aaload, 1, (0, 0, 0), 0, 0, [])), (51, (.iload 0, 2, (4, 0, 0), 0, 0, [])), (53, (.aload 0, 1, (3, 0, 0), 0, 0, [])), (54, (.ifnonnull 0, 3, (61, 0, 0), 0, 0, [])), (57, (.iconst 0, 1, (0, 0, 0), (-1), 0, [])), (58, (.goto 0, 3, (75, 0, 0), 0, 0, [])), (61, (.aload 0, 1, (0, 0, 0), 0, 0, [])), (62, (.aload 0, 1, (0, 0, 0), 0, 0, [])), (63, (.getfield 0, 3, (6, 0, 10), 0, 0, []))],
  [(66, (.iload 0, 2, (4, 0, 0), 0, 0, [])), (68, (.invokevirtual 0, 3, (2, 43, 178), 0, 0, [])), (71, (.iload 0, 1, (1, 0, 0), 0, 0, [])), (72, (.invokevirtual 0, 3, (3, 127, 254), 0, 0, [])), (75, (.iastore, 1, (0, 0, 0), 0, 0, [])), (76, (.iinc 0 0, 3, (4, 0, 0), 1, 0, [])), (79, (.goto 0, 3, (38, 0, 0), 0, 0, [])), (82, (.iinc 0 0, 3, (2, 0, 0), 1, 0, [])), (85, (.goto 0, 3, (2, 0, 0), 0, 0, [])), (88, (.return_, 1, (0, 0, 0), 0, 0, []))]]
set_option maxRecDepth 20000 in
def tX6_fillBestPairs : List (List (Nat × XE)) := [[(0, (.iconst 0, 1, (0, 0, 0), 0, 0, [])), (1, (.istore 0, 1, (1, 0, 0), 0, 0, [])), (2, (.iload 0, 1, (1, 0, 0), 0, 0, [])), (3, (.iconst 0, 2, (0, 0, 0), 64, 0, [])), (5, (.if_icmp .ge 0, 3, (24, 0, 0), 0, 0, [])), (8, (.aload 0, 1, (0, 0, 0), 0, 0, [])), (9, (.getfield 0, 3, (6, 14, 78), 0, 0, [])), (12, (.iconst 0, 2, (0, 0, 0), 8, 0, [])), (14, (.aaload, 1, (0, 0, 0), 0, 0, [])), (15, (.iload 0, 1, (1, 0, 0), 0, 0, [])), (16, (.iconst 0, 1, (0, 0, 0), 0, 0, [])), (17, (.iastore, 1, (0, 0, 0), 0, 0, [])), (18, (.iinc 0 0, 3, (1, 0, 0), 1, 0, [])), (21, (.goto 0, 3, (2, 0, 0), 0, 0, [])), (24, (.iconst 0, 2, (0, 0, 0), 7, 0, [])), (26, (.istore 0, 1, (1, 0, 0), 0, 0, [])), (27, (.iload 0, 1, (1, 0, 0), 0, 0, [])), (28, (.ifCond .lt 0, 3, (98, 0, 0), 0, 0, [])), (31, (.iconst 0, 1, (0, 0, 0), 0, 0, []))],
  [(32, (.istore 0, 1, (2, 0, 0), 0, 0, [])), (33, (.iload 0, 1, (2, 0, 0), 0, 0, [])), (34, (.iconst 0, 2, (0, 0, 0), 64, 0, [])), (36, (.if_icmp .ge 0, 3, (92, 0, 0), 0, 0, [])), (39, (.aload 0, 1, (0, 0, 0), 0, 0, [])), (40, (.iload 0, 1, (1, 0, 0), 0, 0, [])), (41, (.iconst 0, 1, (0, 0, 0), 1, 0, [])), (42, (.iadd, 1, (0, 0, 0), 0, 0, [])), (43, (.iload 0, 1, (2, 0, 0), 0, 0, [])), (44, (.invokevirtual 0, 3, (3, 134, 289), 0, 0, [])), (47, (.istore 0, 1, (3, 0, 0), 0, 0, [])), (48, (.iconst 0, 1, (0, 0, 0), 0, 0, [])), (49, (.istore 0, 2, (4, 0, 0), 0, 0, [])), (51, (.iload 0, 2, (4, 0, 0), 0, 0, [])), (53, (.iconst 0, 2, (0, 0, 0), 6, 0, [])), (55, (.if_icmp .ge 0, 3, (77, 0, 0), 0, 0, [])), (58, (.iload 0, 1, (3, 0, 0), 0, 0, [])), (59, (.aload 0, 1, (0, 0, 0), 0, 0, [])), (60, (.iload 0, 1, (1, 0, 0), 0, 0, [])), (61, (.iload 0, 2, (4, 0, 0), 0, 0, [])), (63, (.iload 0, 1, (2, 0, 0), 0, 0, []))],
  [(64, (.invokevirtual 0, 3, (4, 135, 372), 0, 0, [])), (67, (.dadd, 3, (0, 0, 318), 0, 0, [])), (70, (.istore 0, 1, (3, 0, 0), 0, 0, [])), (71, (.iinc 0 0, 3, (4, 0, 0), 1, 0, [])), (74, (.goto 0, 3, (51, 0, 0), 0, 0, [])), (77, (.aload 0, 1, (0, 0, 0), 0, 0, [])), (78, (.getfield 0, 3, (6, 14, 78), 0, 0, [])), (81, (.iload 0, 1, (1, 0, 0), 0, 0, [])), (82, (.aaload, 1, (0, 0, 0), 0, 0, [])), (83, (.iload 0, 1, (2, 0, 0), 0, 0, [])), (84, (.iload 0, 1, (3, 0, 0), 0, 0, [])), (85, (.iastore, 1, (0, 0, 0), 0, 0, [])), (86, (.iinc 0 0, 3, (2, 0, 0), 1, 0, [])), (89, (.goto 0, 3, (33, 0, 0), 0, 0, [])), (92, (.iinc 0 0, 3, (1, 0, 0), (-1), 0, [])), (95, (.goto 0, 3, (27, 0, 0), 0, 0, []))],
  [(98, (.return_, 1, (0, 0, 0), 0, 0, []))]]
set_option maxRecDepth 20000 in
def tX6_bestFrom : List (List (Nat × XE)) := [[(0, (.iload 0, 1, (1, 0, 0), 0, 0, [])), (1, (.iconst 0, 1, (0, 0, 0), 0, 0, [])), (2, (.iconst 0, 2, (0, 0, 0), 8, 0, [])), (4, (.invokevirtual 0, 3, (3, 120, 86), 0, 0, [])), (7, (.ifCond .eq 0, 3, (31, 0, 0), 0, 0, [])), (10, (.iload 0, 1, (2, 0, 0), 0, 0, [])), (11, (.iconst 0, 1, (0, 0, 0), 0, 0, [])), (12, (.iconst 0, 2, (0, 0, 0), 63, 0, [])), (14, (.invokevirtual 0, 3, (3, 120, 86), 0, 0, [])), (17, (.ifCond .eq 0, 3, (31, 0, 0), 0, 0, [])), (20, (.aload 0, 1, (0, 0, 0), 0, 0, [])), (21, (.getfield 0, 3, (6, 14, 78), 0, 0, [])), (24, (.iload 0, 1, (1, 0, 0), 0, 0, [])), (25, (.aaload, 1, (0, 0, 0), 0, 0, [])), (26, (.iload 0, 1, (2, 0, 0), 0, 0, [])), (27, (.iaload, 1, (0, 0, 0), 0, 0, [])), (28, (.goto 0, 3, (32, 0, 0), 0, 0, [])), (31, (.iconst 0, 1, (0, 0, 0), 0, 0, []))],
  [(32, (.ireturn, 1, (0, 0, 0), 0, 0, []))]]
set_option maxRecDepth 20000 in
def tX6_pairingScore : List (List (Nat × XE)) := [[(0, (.iload 0, 1, (1, 0, 0), 0, 0, [])), (1, (.iconst 0, 1, (0, 0, 0), 0, 0, [])), (2, (.iconst 0, 2, (0, 0, 0), 7, 0, [])), (4, (.invokevirtual 0, 3, (3, 120, 86), 0, 0, [])), (7, (.ifCond .eq 0, 3, (19, 0, 0), 0, 0, [])), (10, (.iload 0, 1, (2, 0, 0), 0, 0, [])), (11, (.iconst 0, 1, (0, 0, 0), 0, 0, [])), (12, (.iconst 0, 1, (0, 0, 0), 5, 0, [])), (13, (.invokevirtual 0, 3, (3, 120, 86), 0, 0, [])), (16, (.ifCond .ne 0, 3, (21, 0, 0), 0, 0, [])), (19, (.iconst 0, 1, (0, 0, 0), (-1), 0, [])), (20, (.ireturn, 1, (0, 0, 0), 0, 0, [])), (21, (.aload 0, 1, (0, 0, 0), 0, 0, [])), (22, (.getfield 0, 3, (6, 13, 75), 0, 0, [])), (25, (.iload 0, 1, (1, 0, 0), 0, 0, [])), (26, (.aaload, 1, (0, 0, 0), 0, 0, [])), (27, (.iload 0, 1, (2, 0, 0), 0, 0, [])), (28, (.iaload, 1, (0, 0, 0), 0, 0, [])), (29, (.istore 0, 2, (4, 0, 0), 0, 0, [])), (31, (.iload 0, 2, (4, 0, 0), 0, 0, []))],
  [(33, (.iconst 0, 1, (0, 0, 0), (-1), 0, [])), (34, (.if_icmp .eq 0, 3, (45, 0, 0), 0, 0, [])), (37, (.iload 0, 1, (3, 0, 0), 0, 0, [])), (38, (.iload 0, 1, (2, 0, 0), 0, 0, [])), (39, (.ishr, 1, (0, 0, 0), 0, 0, [])), (40, (.iconst 0, 1, (0, 0, 0), 1, 0, [])), (41, (.iand, 1, (0, 0, 0), 0, 0, [])), (42, (.ifCond .eq 0, 3, (47, 0, 0), 0, 0, [])), (45, (.iconst 0, 1, (0, 0, 0), (-1), 0, [])), (46, (.ireturn, 1, (0, 0, 0), 0, 0, [])), (47, (.iconst 0, 3, (0, 0, 0), 1000, 0, [])), (50, (.iload 0, 2, (4, 0, 0), 0, 0, [])), (52, (.isub, 1, (0, 0, 0), 0, 0, [])), (53, (.aload 0, 1, (0, 0, 0), 0, 0, [])), (54, (.iload 0, 1, (1, 0, 0), 0, 0, [])), (55, (.iconst 0, 1, (0, 0, 0), 1, 0, [])), (56, (.iadd, 1, (0, 0, 0), 0, 0, [])), (57, (.iload 0, 1, (3, 0, 0), 0, 0, [])), (58, (.iconst 0, 1, (0, 0, 0), 1, 0, [])), (59, (.iload 0, 1, (2, 0, 0), 0, 0, [])), (60, (.ishl, 1, (0, 0, 0), 0, 0, [])), (61, (.ior, 1, (0, 0, 0), 0, 0, [])), (62, (.invokevirtual 0, 3, (3, 134, 289), 0, 0, []))],
  [(65, (.iadd, 1, (0, 0, 0), 0, 0, [])), (66, (.ireturn, 1, (0, 0, 0), 0, 0, []))]]
set_option maxRecDepth 20000 in
def tX6_partnerOf : List (List (Nat × XE)) := [[(0, (.iconst 0, 1, (0, 0, 0), 0, 0, [])), (1, (.istore 0, 1, (2, 0, 0), 0, 0, [])), (2, (.iconst 0, 1, (0, 0, 0), (-1), 0, [])), (3, (.istore 0, 1, (3, 0, 0), 0, 0, [])), (4, (.iconst 0, 1, (0, 0, 0), 0, 0, [])), (5, (.istore 0, 2, (4, 0, 0), 0, 0, [])), (7, (.iload 0, 2, (4, 0, 0), 0, 0, [])), (9, (.iload 0, 1, (1, 0, 0), 0, 0, [])), (10, (.if_icmp .gt 0, 3, (82, 0, 0), 0, 0, [])), (13, (.iload 0, 2, (4, 0, 0), 0, 0, [])), (15, (.iconst 0, 2, (0, 0, 0), 8, 0, [])), (17, (.if_icmp .ge 0, 3, (82, 0, 0), 0, 0, [])), (20, (.iconst 0, 1, (0, 0, 0), (-1), 0, [])), (21, (.istore 0, 1, (3, 0, 0), 0, 0, [])), (22, (.iconst 0, 1, (0, 0, 0), 0, 0, [])), (23, (.istore 0, 2, (5, 0, 0), 0, 0, [])), (25, (.iload 0, 2, (5, 0, 0), 0, 0, [])), (27, (.iconst 0, 2, (0, 0, 0), 6, 0, [])), (29, (.if_icmp .ge 0, 3, (65, 0, 0), 0, 0, []))],
  [(32, (.iload 0, 1, (3, 0, 0), 0, 0, [])), (33, (.iconst 0, 1, (0, 0, 0), (-1), 0, [])), (34, (.if_icmp .ne 0, 3, (65, 0, 0), 0, 0, [])), (37, (.aload 0, 1, (0, 0, 0), 0, 0, [])), (38, (.iload 0, 2, (4, 0, 0), 0, 0, [])), (40, (.iload 0, 2, (5, 0, 0), 0, 0, [])), (42, (.iload 0, 1, (2, 0, 0), 0, 0, [])), (43, (.invokevirtual 0, 3, (4, 135, 372), 0, 0, [])), (46, (.aload 0, 1, (0, 0, 0), 0, 0, [])), (47, (.iload 0, 2, (4, 0, 0), 0, 0, [])), (49, (.iload 0, 1, (2, 0, 0), 0, 0, [])), (50, (.invokevirtual 0, 3, (3, 134, 289), 0, 0, [])), (53, (.if_icmp .ne 0, 3, (59, 0, 0), 0, 0, [])), (56, (.iload 0, 2, (5, 0, 0), 0, 0, [])), (58, (.istore 0, 1, (3, 0, 0), 0, 0, [])), (59, (.iinc 0 0, 3, (5, 0, 0), 1, 0, [])), (62, (.goto 0, 3, (25, 0, 0), 0, 0, []))],
  [(65, (.iload 0, 1, (3, 0, 0), 0, 0, [])), (66, (.iconst 0, 1, (0, 0, 0), (-1), 0, [])), (67, (.if_icmp .eq 0, 3, (76, 0, 0), 0, 0, [])), (70, (.iload 0, 1, (2, 0, 0), 0, 0, [])), (71, (.iconst 0, 1, (0, 0, 0), 1, 0, [])), (72, (.iload 0, 1, (3, 0, 0), 0, 0, [])), (73, (.ishl, 1, (0, 0, 0), 0, 0, [])), (74, (.ior, 1, (0, 0, 0), 0, 0, [])), (75, (.istore 0, 1, (2, 0, 0), 0, 0, [])), (76, (.iinc 0 0, 3, (4, 0, 0), 1, 0, [])), (79, (.goto 0, 3, (7, 0, 0), 0, 0, [])), (82, (.iload 0, 1, (3, 0, 0), 0, 0, [])), (83, (.ireturn, 1, (0, 0, 0), 0, 0, []))]]
set_option maxRecDepth 20000 in
def tX7_init : List (List (Nat × XE)) := [[(0, (.aload 0, 1, (0, 0, 0), 0, 0, [])), (1, (.nop, 3, (0, 0, 1), 0, 0, [])), (4, (.aload 0, 1, (0, 0, 0), 0, 0, [])), (5, (.iconst 0, 2, (0, 0, 0), 30, 0, [])), (7, (.newarray .int, 2, (50, 0, 0), 0, 0, [])), (9, (.putfield 0, 3, (7, 1, 7), 0, 0, [])), (12, (.aload 0, 1, (0, 0, 0), 0, 0, [])), (13, (.iconst 0, 1, (0, 0, 0), 2, 0, [])), (14, (.newarray .int, 2, (51, 0, 0), 0, 0, [])), (16, (.putfield 0, 3, (7, 2, 13), 0, 0, [])), (19, (.aload 0, 1, (0, 0, 0), 0, 0, [])), (20, (.iconst 0, 2, (0, 0, 0), 9, 0, [])), (22, (.newarray .int, 2, (52, 0, 0), 0, 0, [])), (24, (.putfield 0, 3, (7, 5, 16), 0, 0, [])), (27, (.aload 0, 1, (0, 0, 0), 0, 0, [])), (28, (.iconst 0, 2, (0, 0, 0), 9, 0, [])), (30, (.newarray .int, 2, (53, 0, 0), 0, 0, []))],
  [(32, (.putfield 0, 3, (7, 6, 19), 0, 0, [])), (35, (.aload 0, 1, (0, 0, 0), 0, 0, [])), (36, (.iconst 0, 2, (0, 0, 0), 9, 0, [])), (38, (.newarray .int, 2, (54, 0, 0), 0, 0, [])), (40, (.putfield 0, 3, (7, 7, 22), 0, 0, [])), (43, (.aload 0, 1, (0, 0, 0), 0, 0, [])), (44, (.iconst 0, 2, (0, 0, 0), 9, 0, [])), (46, (.newarray .int, 2, (55, 0, 0), 0, 0, [])), (48, (.putfield 0, 3, (7, 8, 25), 0, 0, [])), (51, (.aload 0, 1, (0, 0, 0), 0, 0, [])), (52, (.iconst 0, 2, (0, 0, 0), 9, 0, [])), (54, (.newarray .int, 2, (56, 0, 0), 0, 0, [])), (56, (.putfield 0, 3, (7, 9, 28), 0, 0, [])), (59, (.aload 0, 1, (0, 0, 0), 0, 0, [])), (60, (.iconst 0, 2, (0, 0, 0), 18, 0, [])), (62, (.newarray .int, 2, (57, 0, 0), 0, 0, []))],
  [(64, (.putfield 0, 3, (7, 11, 31), 0, 0, [])), (67, (.aload 0, 1, (0, 0, 0), 0, 0, [])), (68, (.iconst 0, 3, (0, 0, 0), 250, 0, [])), (71, (.newarray .int, 2, (58, 0, 0), 0, 0, [])), (73, (.putfield 0, 3, (7, 14, 34), 0, 0, [])), (76, (.aload 0, 1, (0, 0, 0), 0, 0, [])), (77, (.iconst 0, 2, (0, 0, 0), 8, 0, [])), (79, (.newarray .int, 2, (59, 0, 0), 0, 0, [])), (81, (.putfield 0, 3, (7, 19, 37), 0, 0, [])), (84, (.aload 0, 1, (0, 0, 0), 0, 0, [])), (85, (.iconst 0, 2, (0, 0, 0), 8, 0, [])), (87, (.newarray .int, 2, (60, 0, 0), 0, 0, [])), (89, (.putfield 0, 3, (7, 20, 40), 0, 0, [])), (92, (.aload 0, 1, (0, 0, 0), 0, 0, [])), (93, (.iconst 0, 3, (0, 0, 0), 320, 0, []))],
  [(96, (.newarray .long, 2, (21, 0, 0), 0, 0, [])), (98, (.putfield 0, 3, (7, 21, 43), 0, 0, [])), (101, (.aload 0, 1, (0, 0, 0), 0, 0, [])), (102, (.iconst 0, 2, (0, 0, 0), 7, 0, [])), (104, (.newarray .int, 2, (61, 0, 0), 0, 0, [])), (106, (.putfield 0, 3, (7, 22, 47), 0, 0, [])), (109, (.aload 0, 1, (0, 0, 0), 0, 0, [])), (110, (.iconst 0, 2, (0, 0, 0), 102, 0, [])), (112, (.newarray .int, 2, (62, 0, 0), 0, 0, [])), (114, (.putfield 0, 3, (7, 24, 50), 0, 0, [])), (117, (.aload 0, 1, (0, 0, 0), 0, 0, [])), (118, (.iconst 0, 2, (0, 0, 0), 102, 0, [])), (120, (.newarray .int, 2, (62, 0, 0), 0, 0, [])), (122, (.putfield 0, 3, (7, 25, 53), 0, 0, [])), (125, (.aload 0, 1, (0, 0, 0), 0, 0, [])), (126, (.iconst 0, 2, (0, 0, 0), 102, 0, []))],
  [(128, (.newarray .int, 2, (62, 0, 0), 0, 0, [])), (130, (.putfield 0, 3, (7, 26, 56), 0, 0, [])), (133, (.aload 0, 1, (0, 0, 0), 0, 0, [])), (134, (.iconst 0, 2, (0, 0, 0), 48, 0, [])), (136, (.newarray .int, 2, (65, 0, 0), 0, 0, [])), (138, (.putfield 0, 3, (7, 27, 59), 0, 0, [])), (141, (.aload 0, 1, (0, 0, 0), 0, 0, [])), (142, (.iconst 0, 2, (0, 0, 0), 8, 0, [])), (144, (.newarray .int, 2, (66, 0, 0), 0, 0, [])), (146, (.putfield 0, 3, (7, 28, 62), 0, 0, [])), (149, (.aload 0, 1, (0, 0, 0), 0, 0, [])), (150, (.iconst 0, 2, (0, 0, 0), 8, 0, [])), (152, (.newarray .int, 2, (67, 0, 0), 0, 0, [])), (154, (.putfield 0, 3, (7, 29, 65), 0, 0, [])), (157, (.aload 0, 1, (0, 0, 0), 0, 0, [])), (158, (.iconst 0, 2, (0, 0, 0), 30, 0, []))],
  [(160, (.newarray .int, 2, (68, 0, 0), 0, 0, [])), (162, (.putfield 0, 3, (7, 32, 68), 0, 0, [])), (165, (.aload 0, 1, (0, 0, 0), 0, 0, [])), (166, (.iconst 0, 2, (0, 0, 0), 16, 0, [])), (168, (.putfield 0, 3, (7, 0, 71), 0, 0, [])), (171, (.iconst 0, 1, (0, 0, 0), 0, 0, [])), (172, (.istore 0, 1, (1, 0, 0), 0, 0, [])), (173, (.iload 0, 1, (1, 0, 0), 0, 0, [])), (174, (.iconst 0, 2, (0, 0, 0), 30, 0, [])), (176, (.if_icmp .ge 0, 3, (192, 0, 0), 0, 0, [])), (179, (.aload 0, 1, (0, 0, 0), 0, 0, [])), (180, (.getfield 0, 3, (7, 1, 7), 0, 0, [])), (183, (.iload 0, 1, (1, 0, 0), 0, 0, [])), (184, (.iconst 0, 1, (0, 0, 0), 3, 0, [])), (185, (.iastore, 1, (0, 0, 0), 0, 0, [])), (186, (.iinc 0 0, 3, (1, 0, 0), 1, 0, [])), (189, (.goto 0, 3, (173, 0, 0), 0, 0, []))],
  [(192, (.aload 0, 1, (0, 0, 0), 0, 0, [])), (193, (.getfield 0, 3, (7, 2, 13), 0, 0, [])), (196, (.iconst 0, 1, (0, 0, 0), 0, 0, [])), (197, (.iconst 0, 1, (0, 0, 0), 2, 0, [])), (198, (.iastore, 1, (0, 0, 0), 0, 0, [])), (199, (.aload 0, 1, (0, 0, 0), 0, 0, [])), (200, (.iconst 0, 1, (0, 0, 0), 1, 0, [])), (201, (.putfield 0, 3, (7, 12, 75), 0, 0, [])), (204, (.iconst 0, 1, (0, 0, 0), 0, 0, [])), (205, (.istore 0, 1, (1, 0, 0), 0, 0, [])), (206, (.iload 0, 1, (1, 0, 0), 0, 0, [])), (207, (.iconst 0, 2, (0, 0, 0), 8, 0, [])), (209, (.if_icmp .ge 0, 3, (225, 0, 0), 0, 0, [])), (212, (.aload 0, 1, (0, 0, 0), 0, 0, [])), (213, (.getfield 0, 3, (7, 19, 37), 0, 0, [])), (216, (.iload 0, 1, (1, 0, 0), 0, 0, [])), (217, (.iconst 0, 1, (0, 0, 0), (-1), 0, [])), (218, (.iastore, 1, (0, 0, 0), 0, 0, [])), (219, (.iinc 0 0, 3, (1, 0, 0), 1, 0, [])), (222, (.goto 0, 3, (206, 0, 0), 0, 0, []))],
  [(225, (.return_, 1, (0, 0, 0), 0, 0, []))]]
set_option maxRecDepth 20000 in
def tX7_no : List (List (Nat × XE)) := [[(0, (.aload 0, 1, (0, 0, 0), 0, 0, [])), (1, (.getfield 0, 3, (7, 22, 47), 0, 0, [])), (4, (.iconst 0, 3, (0, 0, 0), (-1000), 0, [])), (7, (.iload 0, 1, (1, 0, 0), 0, 0, [])), (8, (.isub, 1, (0, 0, 0), 0, 0, [])), (9, (.dup2, 1, (0, 0, 0), 0, 0, [])), (10, (.iaload, 1, (0, 0, 0), 0, 0, [])), (11, (.iconst 0, 1, (0, 0, 0), 1, 0, [])), (12, (.iadd, 1, (0, 0, 0), 0, 0, [])), (13, (.iastore, 1, (0, 0, 0), 0, 0, [])), (14, (.iload 0, 1, (1, 0, 0), 0, 0, [])), (15, (.ireturn, 1, (0, 0, 0), 0, 0, []))]]
set_option maxRecDepth 20000 in
def tX7_within : List (List (Nat × XE)) := [[(0, (.iload 0, 1, (0, 0, 0), 0, 0, [])), (1, (.iload 0, 1, (1, 0, 0), 0, 0, [])), (2, (.if_icmp .lt 0, 3, (14, 0, 0), 0, 0, [])), (5, (.iload 0, 1, (0, 0, 0), 0, 0, [])), (6, (.iload 0, 1, (2, 0, 0), 0, 0, [])), (7, (.if_icmp .gt 0, 3, (14, 0, 0), 0, 0, [])), (10, (.iconst 0, 1, (0, 0, 0), 1, 0, [])), (11, (.goto 0, 3, (15, 0, 0), 0, 0, [])), (14, (.iconst 0, 1, (0, 0, 0), 0, 0, [])), (15, (.ireturn, 1, (0, 0, 0), 0, 0, []))]]
set_option maxRecDepth 20000 in
def tX7_isCell : List (List (Nat × XE)) := [[(0, (.iload 0, 1, (1, 0, 0), 0, 0, [])), (1, (.iconst 0, 1, (0, 0, 0), 0, 0, [])), (2, (.aload 0, 1, (0, 0, 0), 0, 0, [])), (3, (.getfield 0, 3, (7, 0, 71), 0, 0, [])), (6, (.iconst 0, 1, (0, 0, 0), 1, 0, [])), (7, (.isub, 1, (0, 0, 0), 0, 0, [])), (8, (.invokevirtual 0, 3, (3, 139, 78), 0, 0, [])), (11, (.ireturn, 1, (0, 0, 0), 0, 0, []))]]
set_option maxRecDepth 20000 in
def tX7_isBottle : List (List (Nat × XE)) := [[(0, (.iload 0, 1, (1, 0, 0), 0, 0, [])), (1, (.iconst 0, 1, (0, 0, 0), 0, 0, [])), (2, (.aload 0, 1, (0, 0, 0), 0, 0, [])), (3, (.getfield 0, 3, (7, 4, 82), 0, 0, [])), (6, (.iconst 0, 1, (0, 0, 0), 1, 0, [])), (7, (.isub, 1, (0, 0, 0), 0, 0, [])), (8, (.invokevirtual 0, 3, (3, 139, 78), 0, 0, [])), (11, (.ireturn, 1, (0, 0, 0), 0, 0, []))]]
set_option maxRecDepth 20000 in
def tX7_isWalker : List (List (Nat × XE)) := [[(0, (.iload 0, 1, (1, 0, 0), 0, 0, [])), (1, (.iconst 0, 1, (0, 0, 0), 0, 0, [])), (2, (.aload 0, 1, (0, 0, 0), 0, 0, [])), (3, (.getfield 0, 3, (7, 10, 85), 0, 0, [])), (6, (.iconst 0, 1, (0, 0, 0), 1, 0, [])), (7, (.isub, 1, (0, 0, 0), 0, 0, [])), (8, (.invokevirtual 0, 3, (3, 139, 78), 0, 0, [])), (11, (.ireturn, 1, (0, 0, 0), 0, 0, []))]]
set_option maxRecDepth 20000 in
def tX7_isSuch : List (List (Nat × XE)) := [[(0, (.iload 0, 1, (0, 0, 0), 0, 0, [])), (1, (.iconst 0, 1, (0, 0, 0), 0, 0, [])), (2, (.iconst 0, 1, (0, 0, 0), 5, 0, [])), (3, (.invokevirtual 0, 3, (3, 139, 78), 0, 0, [])), (6, (.ifCond .eq 0, 3, (23, 0, 0), 0, 0, [])), (9, (.iload 0, 1, (1, 0, 0), 0, 0, [])), (10, (.iconst 0, 1, (0, 0, 0), 0, 0, [])), (11, (.iconst 0, 2, (0, 0, 0), 9, 0, [])), (13, (.invokevirtual 0, 3, (3, 139, 78), 0, 0, [])), (16, (.ifCond .eq 0, 3, (23, 0, 0), 0, 0, [])), (19, (.iconst 0, 1, (0, 0, 0), 1, 0, [])), (20, (.goto 0, 3, (24, 0, 0), 0, 0, [])), (23, (.iconst 0, 1, (0, 0, 0), 0, 0, [])), (24, (.ireturn, 1, (0, 0, 0), 0, 0, []))]]
set_option maxRecDepth 20000 in
def tX7_isTime : List (List (Nat × XE)) := [[(0, (.iload 0, 1, (0, 0, 0), 0, 0, [])), (1, (.iconst 0, 1, (0, 0, 0), 0, 0, [])), (2, (.iconst 0, 2, (0, 0, 0), 60, 0, [])), (4, (.invokevirtual 0, 3, (3, 139, 78), 0, 0, [])), (7, (.ireturn, 1, (0, 0, 0), 0, 0, []))]]
set_option maxRecDepth 20000 in
def tX7_isShelf : List (List (Nat × XE)) := [[(0, (.iload 0, 1, (0, 0, 0), 0, 0, [])), (1, (.iconst 0, 1, (0, 0, 0), 0, 0, [])), (2, (.iconst 0, 2, (0, 0, 0), 7, 0, [])), (4, (.invokevirtual 0, 3, (3, 139, 78), 0, 0, [])), (7, (.ireturn, 1, (0, 0, 0), 0, 0, []))]]
set_option maxRecDepth 20000 in
def tX7_isRow : List (List (Nat × XE)) := [[(0, (.aload 0, 1, (0, 0, 0), 0, 0, [])), (1, (.getfield 0, 3, (7, 19, 37), 0, 0, [])), (4, (.iload 0, 1, (1, 0, 0), 0, 0, [])), (5, (.iaload, 1, (0, 0, 0), 0, 0, [])), (6, (.iconst 0, 1, (0, 0, 0), 0, 0, [])), (7, (.iconst 0, 1, (0, 0, 0), 4, 0, [])), (8, (.invokevirtual 0, 3, (3, 139, 78), 0, 0, [])), (11, (.ireturn, 1, (0, 0, 0), 0, 0, []))]]
set_option maxRecDepth 20000 in
def tX7_row : List (List (Nat × XE)) := [[(0, (.iload 0, 1, (1, 0, 0), 0, 0, [])), (1, (.invokevirtual 0, 3, (1, 145, 88), 0, 0, [])), (4, (.ifCond .eq 0, 3, (26, 0, 0), 0, 0, [])), (7, (.iload 0, 1, (2, 0, 0), 0, 0, [])), (8, (.iconst 0, 1, (0, 0, 0), 0, 0, [])), (9, (.iconst 0, 1, (0, 0, 0), 4, 0, [])), (10, (.invokevirtual 0, 3, (3, 139, 78), 0, 0, [])), (13, (.ifCond .eq 0, 3, (26, 0, 0), 0, 0, [])), (16, (.iload 0, 1, (3, 0, 0), 0, 0, [])), (17, (.iconst 0, 1, (0, 0, 0), 0, 0, [])), (18, (.iconst 0, 2, (0, 0, 0), 40, 0, [])), (20, (.invokevirtual 0, 3, (3, 139, 78), 0, 0, [])), (23, (.ifCond .ne 0, 3, (34, 0, 0), 0, 0, [])), (26, (.aload 0, 1, (0, 0, 0), 0, 0, [])), (27, (.iconst 0, 3, (0, 0, 0), (-1002), 0, [])), (30, (.invokevirtual 0, 3, (2, 138, 92), 0, 0, []))],
  [(33, (.ireturn, 1, (0, 0, 0), 0, 0, [])), (34, (.aload 0, 1, (0, 0, 0), 0, 0, [])), (35, (.getfield 0, 3, (7, 19, 37), 0, 0, [])), (38, (.iload 0, 1, (1, 0, 0), 0, 0, [])), (39, (.iload 0, 1, (2, 0, 0), 0, 0, [])), (40, (.iastore, 1, (0, 0, 0), 0, 0, [])), (41, (.aload 0, 1, (0, 0, 0), 0, 0, [])), (42, (.getfield 0, 3, (7, 20, 40), 0, 0, [])), (45, (.iload 0, 1, (1, 0, 0), 0, 0, [])), (46, (.iload 0, 1, (3, 0, 0), 0, 0, [])), (47, (.iastore, 1, (0, 0, 0), 0, 0, [])), (48, (.iconst 0, 1, (0, 0, 0), 0, 0, [])), (49, (.istore 0, 2, (4, 0, 0), 0, 0, [])), (51, (.iload 0, 2, (4, 0, 0), 0, 0, [])), (53, (.iconst 0, 2, (0, 0, 0), 40, 0, [])), (55, (.if_icmp .ge 0, 3, (77, 0, 0), 0, 0, [])), (58, (.aload 0, 1, (0, 0, 0), 0, 0, [])), (59, (.getfield 0, 3, (7, 21, 43), 0, 0, [])), (62, (.iconst 0, 2, (0, 0, 0), 40, 0, []))],
  [(64, (.iload 0, 1, (1, 0, 0), 0, 0, [])), (65, (.imul, 1, (0, 0, 0), 0, 0, [])), (66, (.iload 0, 2, (4, 0, 0), 0, 0, [])), (68, (.iadd, 1, (0, 0, 0), 0, 0, [])), (69, (.lconst 0, 1, (0, 0, 0), 0, 0, [])), (70, (.lastore, 1, (0, 0, 0), 0, 0, [])), (71, (.iinc 0 0, 3, (4, 0, 0), 1, 0, [])), (74, (.goto 0, 3, (51, 0, 0), 0, 0, [])), (77, (.iconst 0, 1, (0, 0, 0), 1, 0, [])), (78, (.ireturn, 1, (0, 0, 0), 0, 0, []))]]
set_option maxRecDepth 20000 in
def tX7_noRow : List (List (Nat × XE)) := [[(0, (.aload 0, 1, (0, 0, 0), 0, 0, [])), (1, (.getfield 0, 3, (7, 19, 37), 0, 0, [])), (4, (.iload 0, 1, (1, 0, 0), 0, 0, [])), (5, (.iaload, 1, (0, 0, 0), 0, 0, [])), (6, (.iconst 0, 2, (0, 0, 0), 10, 0, [])), (8, (.if_icmp .lt 0, 3, (17, 0, 0), 0, 0, [])), (11, (.iconst 0, 3, (0, 0, 0), (-1003), 0, [])), (14, (.goto 0, 3, (33, 0, 0), 0, 0, [])), (17, (.aload 0, 1, (0, 0, 0), 0, 0, [])), (18, (.getfield 0, 3, (7, 19, 37), 0, 0, [])), (21, (.iload 0, 1, (1, 0, 0), 0, 0, [])), (22, (.iaload, 1, (0, 0, 0), 0, 0, [])), (23, (.ifCond .ge 0, 3, (32, 0, 0), 0, 0, [])), (26, (.iconst 0, 3, (0, 0, 0), (-1004), 0, [])), (29, (.goto 0, 3, (33, 0, 0), 0, 0, []))],
  [(32, (.iconst 0, 1, (0, 0, 0), 0, 0, [])), (33, (.ireturn, 1, (0, 0, 0), 0, 0, []))]]
set_option maxRecDepth 20000 in
def tX7_kept : List (List (Nat × XE)) := [[(0, (.iload 0, 1, (0, 0, 0), 0, 0, [])), (1, (.tableswitch 0 0 0 #[], 31, (48, 0, 0), 0, 0, [(0, 32), (1, 37), (2, 42), (3, 46)]))],
  [(32, (.lload 0, 1, (1, 0, 0), 0, 0, [])), (33, (.l2i, 1, (0, 0, 0), 0, 0, [])), (34, (.i2b, 1, (0, 0, 0), 0, 0, [])), (35, (.i2l, 1, (0, 0, 0), 0, 0, [])), (36, (.lreturn, 1, (0, 0, 0), 0, 0, [])), (37, (.lload 0, 1, (1, 0, 0), 0, 0, [])), (38, (.l2i, 1, (0, 0, 0), 0, 0, [])), (39, (.i2s, 1, (0, 0, 0), 0, 0, [])), (40, (.i2l, 1, (0, 0, 0), 0, 0, [])), (41, (.lreturn, 1, (0, 0, 0), 0, 0, [])), (42, (.lload 0, 1, (1, 0, 0), 0, 0, [])), (43, (.l2i, 1, (0, 0, 0), 0, 0, [])), (44, (.i2l, 1, (0, 0, 0), 0, 0, [])), (45, (.lreturn, 1, (0, 0, 0), 0, 0, [])), (46, (.lload 0, 1, (1, 0, 0), 0, 0, [])), (47, (.lreturn, 1, (0, 0, 0), 0, 0, [])), (48, (.lload 0, 1, (1, 0, 0), 0, 0, [])), (49, (.lconst 0, 1, (0, 0, 0), 0, 0, [])), (50, (.lcmp, 1, (0, 0, 0), 0, 0, [])), (51, (.ifCond .eq 0, 3, (58, 0, 0), 0, 0, [])), (54, (.lconst 0, 1, (0, 0, 0), 0, 1, [])), (55, (.goto 0, 3, (59, 0, 0), 0, 0, [])), (58, (.lconst 0, 1, (0, 0, 0), 0, 0, [])), (59, (.lreturn, 1, (0, 0, 0), 0, 0, []))]]
set_option maxRecDepth 20000 in
def tX7_set : List (List (Nat × XE)) := [[(0, (.iload 0, 1, (1, 0, 0), 0, 0, [])), (1, (.invokevirtual 0, 3, (1, 145, 88), 0, 0, [])), (4, (.ifCond .ne 0, 3, (15, 0, 0), 0, 0, [])), (7, (.aload 0, 1, (0, 0, 0), 0, 0, [])), (8, (.iconst 0, 3, (0, 0, 0), (-1002), 0, [])), (11, (.invokevirtual 0, 3, (2, 138, 92), 0, 0, [])), (14, (.ireturn, 1, (0, 0, 0), 0, 0, [])), (15, (.aload 0, 1, (0, 0, 0), 0, 0, [])), (16, (.iload 0, 1, (1, 0, 0), 0, 0, [])), (17, (.invokevirtual 0, 3, (2, 146, 96), 0, 0, [])), (20, (.ifCond .ne 0, 3, (33, 0, 0), 0, 0, [])), (23, (.aload 0, 1, (0, 0, 0), 0, 0, [])), (24, (.aload 0, 1, (0, 0, 0), 0, 0, [])), (25, (.iload 0, 1, (1, 0, 0), 0, 0, [])), (26, (.invokevirtual 0, 3, (2, 148, 99), 0, 0, [])), (29, (.invokevirtual 0, 3, (2, 138, 92), 0, 0, []))],
  [(32, (.ireturn, 1, (0, 0, 0), 0, 0, [])), (33, (.iload 0, 1, (2, 0, 0), 0, 0, [])), (34, (.iconst 0, 1, (0, 0, 0), 0, 0, [])), (35, (.aload 0, 1, (0, 0, 0), 0, 0, [])), (36, (.getfield 0, 3, (7, 20, 40), 0, 0, [])), (39, (.iload 0, 1, (1, 0, 0), 0, 0, [])), (40, (.iaload, 1, (0, 0, 0), 0, 0, [])), (41, (.iconst 0, 1, (0, 0, 0), 1, 0, [])), (42, (.isub, 1, (0, 0, 0), 0, 0, [])), (43, (.invokevirtual 0, 3, (3, 139, 78), 0, 0, [])), (46, (.ifCond .ne 0, 3, (57, 0, 0), 0, 0, [])), (49, (.aload 0, 1, (0, 0, 0), 0, 0, [])), (50, (.iconst 0, 3, (0, 0, 0), (-1002), 0, [])), (53, (.invokevirtual 0, 3, (2, 138, 92), 0, 0, [])), (56, (.ireturn, 1, (0, 0, 0), 0, 0, [])), (57, (.aload 0, 1, (0, 0, 0), 0, 0, [])), (58, (.getfield 0, 3, (7, 21, 43), 0, 0, [])), (61, (.iconst 0, 2, (0, 0, 0), 40, 0, [])), (63, (.iload 0, 1, (1, 0, 0), 0, 0, []))],
  [(64, (.imul, 1, (0, 0, 0), 0, 0, [])), (65, (.iload 0, 1, (2, 0, 0), 0, 0, [])), (66, (.iadd, 1, (0, 0, 0), 0, 0, [])), (67, (.aload 0, 1, (0, 0, 0), 0, 0, [])), (68, (.getfield 0, 3, (7, 19, 37), 0, 0, [])), (71, (.iload 0, 1, (1, 0, 0), 0, 0, [])), (72, (.iaload, 1, (0, 0, 0), 0, 0, [])), (73, (.lload 0, 1, (3, 0, 0), 0, 0, [])), (74, (.invokevirtual 0, 3, (2, 149, 102), 0, 0, [])), (77, (.lastore, 1, (0, 0, 0), 0, 0, [])), (78, (.iconst 0, 1, (0, 0, 0), 1, 0, [])), (79, (.ireturn, 1, (0, 0, 0), 0, 0, []))]]
set_option maxRecDepth 20000 in
def tX7_copy : List (List (Nat × XE)) := [[(0, (.iload 0, 1, (1, 0, 0), 0, 0, [])), (1, (.invokevirtual 0, 3, (1, 145, 88), 0, 0, [])), (4, (.ifCond .eq 0, 3, (14, 0, 0), 0, 0, [])), (7, (.iload 0, 1, (2, 0, 0), 0, 0, [])), (8, (.invokevirtual 0, 3, (1, 145, 88), 0, 0, [])), (11, (.ifCond .ne 0, 3, (22, 0, 0), 0, 0, [])), (14, (.aload 0, 1, (0, 0, 0), 0, 0, [])), (15, (.iconst 0, 3, (0, 0, 0), (-1002), 0, [])), (18, (.invokevirtual 0, 3, (2, 138, 92), 0, 0, [])), (21, (.ireturn, 1, (0, 0, 0), 0, 0, [])), (22, (.aload 0, 1, (0, 0, 0), 0, 0, [])), (23, (.getfield 0, 3, (7, 19, 37), 0, 0, [])), (26, (.iload 0, 1, (1, 0, 0), 0, 0, [])), (27, (.iaload, 1, (0, 0, 0), 0, 0, [])), (28, (.iconst 0, 2, (0, 0, 0), 10, 0, [])), (30, (.if_icmp .ge 0, 3, (75, 0, 0), 0, 0, []))],
  [(33, (.aload 0, 1, (0, 0, 0), 0, 0, [])), (34, (.getfield 0, 3, (7, 19, 37), 0, 0, [])), (37, (.iload 0, 1, (2, 0, 0), 0, 0, [])), (38, (.iaload, 1, (0, 0, 0), 0, 0, [])), (39, (.iconst 0, 2, (0, 0, 0), 10, 0, [])), (41, (.if_icmp .ge 0, 3, (75, 0, 0), 0, 0, [])), (44, (.aload 0, 1, (0, 0, 0), 0, 0, [])), (45, (.iload 0, 1, (1, 0, 0), 0, 0, [])), (46, (.invokevirtual 0, 3, (2, 146, 96), 0, 0, [])), (49, (.ifCond .eq 0, 3, (83, 0, 0), 0, 0, [])), (52, (.aload 0, 1, (0, 0, 0), 0, 0, [])), (53, (.iload 0, 1, (2, 0, 0), 0, 0, [])), (54, (.invokevirtual 0, 3, (2, 146, 96), 0, 0, [])), (57, (.ifCond .eq 0, 3, (83, 0, 0), 0, 0, [])), (60, (.aload 0, 1, (0, 0, 0), 0, 0, [])), (61, (.getfield 0, 3, (7, 19, 37), 0, 0, []))],
  [(64, (.iload 0, 1, (1, 0, 0), 0, 0, [])), (65, (.iaload, 1, (0, 0, 0), 0, 0, [])), (66, (.aload 0, 1, (0, 0, 0), 0, 0, [])), (67, (.getfield 0, 3, (7, 19, 37), 0, 0, [])), (70, (.iload 0, 1, (2, 0, 0), 0, 0, [])), (71, (.iaload, 1, (0, 0, 0), 0, 0, [])), (72, (.if_icmp .eq 0, 3, (83, 0, 0), 0, 0, [])), (75, (.aload 0, 1, (0, 0, 0), 0, 0, [])), (76, (.iconst 0, 3, (0, 0, 0), (-1003), 0, [])), (79, (.invokevirtual 0, 3, (2, 138, 92), 0, 0, [])), (82, (.ireturn, 1, (0, 0, 0), 0, 0, [])), (83, (.aload 0, 1, (0, 0, 0), 0, 0, [])), (84, (.getfield 0, 3, (7, 19, 37), 0, 0, [])), (87, (.iload 0, 1, (1, 0, 0), 0, 0, [])), (88, (.iaload, 1, (0, 0, 0), 0, 0, [])), (89, (.ifCond .lt 0, 3, (101, 0, 0), 0, 0, [])), (92, (.aload 0, 1, (0, 0, 0), 0, 0, [])), (93, (.getfield 0, 3, (7, 19, 37), 0, 0, []))],
  [(96, (.iload 0, 1, (2, 0, 0), 0, 0, [])), (97, (.iaload, 1, (0, 0, 0), 0, 0, [])), (98, (.ifCond .ge 0, 3, (109, 0, 0), 0, 0, [])), (101, (.aload 0, 1, (0, 0, 0), 0, 0, [])), (102, (.iconst 0, 3, (0, 0, 0), (-1004), 0, [])), (105, (.invokevirtual 0, 3, (2, 138, 92), 0, 0, [])), (108, (.ireturn, 1, (0, 0, 0), 0, 0, [])), (109, (.iload 0, 2, (5, 0, 0), 0, 0, [])), (111, (.ifCond .lt 0, 3, (158, 0, 0), 0, 0, [])), (114, (.iload 0, 1, (3, 0, 0), 0, 0, [])), (115, (.ifCond .lt 0, 3, (158, 0, 0), 0, 0, [])), (118, (.iload 0, 2, (4, 0, 0), 0, 0, [])), (120, (.ifCond .lt 0, 3, (158, 0, 0), 0, 0, [])), (123, (.iload 0, 1, (3, 0, 0), 0, 0, [])), (124, (.i2l, 1, (0, 0, 0), 0, 0, [])), (125, (.iload 0, 2, (5, 0, 0), 0, 0, [])), (127, (.i2l, 1, (0, 0, 0), 0, 0, []))],
  [(128, (.ladd, 1, (0, 0, 0), 0, 0, [])), (129, (.aload 0, 1, (0, 0, 0), 0, 0, [])), (130, (.getfield 0, 3, (7, 20, 40), 0, 0, [])), (133, (.iload 0, 1, (1, 0, 0), 0, 0, [])), (134, (.iaload, 1, (0, 0, 0), 0, 0, [])), (135, (.i2l, 1, (0, 0, 0), 0, 0, [])), (136, (.lcmp, 1, (0, 0, 0), 0, 0, [])), (137, (.ifCond .gt 0, 3, (158, 0, 0), 0, 0, [])), (140, (.iload 0, 2, (4, 0, 0), 0, 0, [])), (142, (.i2l, 1, (0, 0, 0), 0, 0, [])), (143, (.iload 0, 2, (5, 0, 0), 0, 0, [])), (145, (.i2l, 1, (0, 0, 0), 0, 0, [])), (146, (.ladd, 1, (0, 0, 0), 0, 0, [])), (147, (.aload 0, 1, (0, 0, 0), 0, 0, [])), (148, (.getfield 0, 3, (7, 20, 40), 0, 0, [])), (151, (.iload 0, 1, (2, 0, 0), 0, 0, [])), (152, (.iaload, 1, (0, 0, 0), 0, 0, [])), (153, (.i2l, 1, (0, 0, 0), 0, 0, [])), (154, (.lcmp, 1, (0, 0, 0), 0, 0, [])), (155, (.ifCond .le 0, 3, (166, 0, 0), 0, 0, [])), (158, (.aload 0, 1, (0, 0, 0), 0, 0, [])), (159, (.iconst 0, 3, (0, 0, 0), (-1002), 0, []))],
  [(162, (.invokevirtual 0, 3, (2, 138, 92), 0, 0, [])), (165, (.ireturn, 1, (0, 0, 0), 0, 0, [])), (166, (.iload 0, 1, (1, 0, 0), 0, 0, [])), (167, (.iload 0, 1, (2, 0, 0), 0, 0, [])), (168, (.if_icmp .ne 0, 3, (226, 0, 0), 0, 0, [])), (171, (.iload 0, 1, (3, 0, 0), 0, 0, [])), (172, (.iload 0, 2, (4, 0, 0), 0, 0, [])), (174, (.if_icmp .ge 0, 3, (226, 0, 0), 0, 0, [])), (177, (.iload 0, 2, (5, 0, 0), 0, 0, [])), (179, (.iconst 0, 1, (0, 0, 0), 1, 0, [])), (180, (.isub, 1, (0, 0, 0), 0, 0, [])), (181, (.istore 0, 2, (6, 0, 0), 0, 0, [])), (183, (.iload 0, 2, (6, 0, 0), 0, 0, [])), (185, (.ifCond .lt 0, 3, (223, 0, 0), 0, 0, [])), (188, (.aload 0, 1, (0, 0, 0), 0, 0, [])), (189, (.getfield 0, 3, (7, 21, 43), 0, 0, []))],
  [(192, (.iconst 0, 2, (0, 0, 0), 40, 0, [])), (194, (.iload 0, 1, (2, 0, 0), 0, 0, [])), (195, (.imul, 1, (0, 0, 0), 0, 0, [])), (196, (.iload 0, 2, (4, 0, 0), 0, 0, [])), (198, (.iadd, 1, (0, 0, 0), 0, 0, [])), (199, (.iload 0, 2, (6, 0, 0), 0, 0, [])), (201, (.iadd, 1, (0, 0, 0), 0, 0, [])), (202, (.aload 0, 1, (0, 0, 0), 0, 0, [])), (203, (.getfield 0, 3, (7, 21, 43), 0, 0, [])), (206, (.iconst 0, 2, (0, 0, 0), 40, 0, [])), (208, (.iload 0, 1, (1, 0, 0), 0, 0, [])), (209, (.imul, 1, (0, 0, 0), 0, 0, [])), (210, (.iload 0, 1, (3, 0, 0), 0, 0, [])), (211, (.iadd, 1, (0, 0, 0), 0, 0, [])), (212, (.iload 0, 2, (6, 0, 0), 0, 0, [])), (214, (.iadd, 1, (0, 0, 0), 0, 0, [])), (215, (.laload, 1, (0, 0, 0), 0, 0, [])), (216, (.lastore, 1, (0, 0, 0), 0, 0, [])), (217, (.iinc 0 0, 3, (6, 0, 0), (-1), 0, [])), (220, (.goto 0, 3, (183, 0, 0), 0, 0, [])), (223, (.goto 0, 3, (271, 0, 0), 0, 0, []))],
  [(226, (.iconst 0, 1, (0, 0, 0), 0, 0, [])), (227, (.istore 0, 2, (6, 0, 0), 0, 0, [])), (229, (.iload 0, 2, (6, 0, 0), 0, 0, [])), (231, (.iload 0, 2, (5, 0, 0), 0, 0, [])), (233, (.if_icmp .ge 0, 3, (271, 0, 0), 0, 0, [])), (236, (.aload 0, 1, (0, 0, 0), 0, 0, [])), (237, (.getfield 0, 3, (7, 21, 43), 0, 0, [])), (240, (.iconst 0, 2, (0, 0, 0), 40, 0, [])), (242, (.iload 0, 1, (2, 0, 0), 0, 0, [])), (243, (.imul, 1, (0, 0, 0), 0, 0, [])), (244, (.iload 0, 2, (4, 0, 0), 0, 0, [])), (246, (.iadd, 1, (0, 0, 0), 0, 0, [])), (247, (.iload 0, 2, (6, 0, 0), 0, 0, [])), (249, (.iadd, 1, (0, 0, 0), 0, 0, [])), (250, (.aload 0, 1, (0, 0, 0), 0, 0, [])), (251, (.getfield 0, 3, (7, 21, 43), 0, 0, [])), (254, (.iconst 0, 2, (0, 0, 0), 40, 0, []))],
  [(256, (.iload 0, 1, (1, 0, 0), 0, 0, [])), (257, (.imul, 1, (0, 0, 0), 0, 0, [])), (258, (.iload 0, 1, (3, 0, 0), 0, 0, [])), (259, (.iadd, 1, (0, 0, 0), 0, 0, [])), (260, (.iload 0, 2, (6, 0, 0), 0, 0, [])), (262, (.iadd, 1, (0, 0, 0), 0, 0, [])), (263, (.laload, 1, (0, 0, 0), 0, 0, [])), (264, (.lastore, 1, (0, 0, 0), 0, 0, [])), (265, (.iinc 0 0, 3, (6, 0, 0), 1, 0, [])), (268, (.goto 0, 3, (229, 0, 0), 0, 0, [])), (271, (.iload 0, 2, (5, 0, 0), 0, 0, [])), (273, (.ireturn, 1, (0, 0, 0), 0, 0, []))]]
set_option maxRecDepth 20000 in
def tX7_element : List (List (Nat × XE)) := [[(0, (.iload 0, 1, (1, 0, 0), 0, 0, [])), (1, (.invokevirtual 0, 3, (1, 145, 88), 0, 0, [])), (4, (.ifCond .eq 0, 3, (45, 0, 0), 0, 0, [])), (7, (.aload 0, 1, (0, 0, 0), 0, 0, [])), (8, (.iload 0, 1, (1, 0, 0), 0, 0, [])), (9, (.invokevirtual 0, 3, (2, 146, 96), 0, 0, [])), (12, (.ifCond .eq 0, 3, (45, 0, 0), 0, 0, [])), (15, (.iload 0, 1, (2, 0, 0), 0, 0, [])), (16, (.iconst 0, 1, (0, 0, 0), 0, 0, [])), (17, (.aload 0, 1, (0, 0, 0), 0, 0, [])), (18, (.getfield 0, 3, (7, 20, 40), 0, 0, [])), (21, (.iload 0, 1, (1, 0, 0), 0, 0, [])), (22, (.iaload, 1, (0, 0, 0), 0, 0, [])), (23, (.iconst 0, 1, (0, 0, 0), 1, 0, [])), (24, (.isub, 1, (0, 0, 0), 0, 0, [])), (25, (.invokevirtual 0, 3, (3, 139, 78), 0, 0, [])), (28, (.ifCond .eq 0, 3, (45, 0, 0), 0, 0, [])), (31, (.aload 0, 1, (0, 0, 0), 0, 0, []))],
  [(32, (.getfield 0, 3, (7, 21, 43), 0, 0, [])), (35, (.iconst 0, 2, (0, 0, 0), 40, 0, [])), (37, (.iload 0, 1, (1, 0, 0), 0, 0, [])), (38, (.imul, 1, (0, 0, 0), 0, 0, [])), (39, (.iload 0, 1, (2, 0, 0), 0, 0, [])), (40, (.iadd, 1, (0, 0, 0), 0, 0, [])), (41, (.laload, 1, (0, 0, 0), 0, 0, [])), (42, (.goto 0, 3, (46, 0, 0), 0, 0, [])), (45, (.lconst 0, 1, (0, 0, 0), 0, 0, [])), (46, (.lreturn, 1, (0, 0, 0), 0, 0, []))]]
set_option maxRecDepth 20000 in
def tX7_holds : List (List (Nat × XE)) := [[(0, (.iload 0, 1, (1, 0, 0), 0, 0, [])), (1, (.invokevirtual 0, 3, (1, 145, 88), 0, 0, [])), (4, (.ifCond .eq 0, 3, (16, 0, 0), 0, 0, [])), (7, (.aload 0, 1, (0, 0, 0), 0, 0, [])), (8, (.getfield 0, 3, (7, 19, 37), 0, 0, [])), (11, (.iload 0, 1, (1, 0, 0), 0, 0, [])), (12, (.iaload, 1, (0, 0, 0), 0, 0, [])), (13, (.goto 0, 3, (17, 0, 0), 0, 0, [])), (16, (.iconst 0, 1, (0, 0, 0), (-1), 0, [])), (17, (.ireturn, 1, (0, 0, 0), 0, 0, []))]]
set_option maxRecDepth 20000 in
def tX7_show : List (List (Nat × XE)) := [[(0, (.iload 0, 1, (1, 0, 0), 0, 0, [])), (1, (.invokevirtual 0, 3, (1, 145, 88), 0, 0, [])), (4, (.ifCond .eq 0, 3, (20, 0, 0), 0, 0, [])), (7, (.iload 0, 1, (2, 0, 0), 0, 0, [])), (8, (.iconst 0, 1, (0, 0, 0), (-1), 0, [])), (9, (.if_icmp .eq 0, 3, (28, 0, 0), 0, 0, [])), (12, (.aload 0, 1, (0, 0, 0), 0, 0, [])), (13, (.iload 0, 1, (2, 0, 0), 0, 0, [])), (14, (.invokevirtual 0, 3, (2, 141, 106), 0, 0, [])), (17, (.ifCond .ne 0, 3, (28, 0, 0), 0, 0, [])), (20, (.aload 0, 1, (0, 0, 0), 0, 0, [])), (21, (.iconst 0, 3, (0, 0, 0), (-1002), 0, [])), (24, (.invokevirtual 0, 3, (2, 138, 92), 0, 0, [])), (27, (.ireturn, 1, (0, 0, 0), 0, 0, [])), (28, (.aload 0, 1, (0, 0, 0), 0, 0, [])), (29, (.getfield 0, 3, (7, 19, 37), 0, 0, []))],
  [(32, (.iload 0, 1, (1, 0, 0), 0, 0, [])), (33, (.iload 0, 1, (2, 0, 0), 0, 0, [])), (34, (.iconst 0, 1, (0, 0, 0), (-1), 0, [])), (35, (.if_icmp .ne 0, 3, (42, 0, 0), 0, 0, [])), (38, (.iconst 0, 1, (0, 0, 0), (-1), 0, [])), (39, (.goto 0, 3, (46, 0, 0), 0, 0, [])), (42, (.iconst 0, 2, (0, 0, 0), 10, 0, [])), (44, (.iload 0, 1, (2, 0, 0), 0, 0, [])), (45, (.iadd, 1, (0, 0, 0), 0, 0, [])), (46, (.iastore, 1, (0, 0, 0), 0, 0, [])), (47, (.iconst 0, 1, (0, 0, 0), 1, 0, [])), (48, (.ireturn, 1, (0, 0, 0), 0, 0, []))]]
set_option maxRecDepth 20000 in
def tX7_isUnder : List (List (Nat × XE)) := [[(0, (.iload 0, 1, (1, 0, 0), 0, 0, [])), (1, (.ifCond .eq 0, 3, (29, 0, 0), 0, 0, [])), (4, (.iload 0, 1, (0, 0, 0), 0, 0, [])), (5, (.iload 0, 1, (1, 0, 0), 0, 0, [])), (6, (.if_icmp .eq 0, 3, (29, 0, 0), 0, 0, [])), (9, (.iload 0, 1, (0, 0, 0), 0, 0, [])), (10, (.iconst 0, 1, (0, 0, 0), 3, 0, [])), (11, (.if_icmp .ne 0, 3, (19, 0, 0), 0, 0, [])), (14, (.iload 0, 1, (1, 0, 0), 0, 0, [])), (15, (.iconst 0, 1, (0, 0, 0), 1, 0, [])), (16, (.if_icmp .eq 0, 3, (29, 0, 0), 0, 0, [])), (19, (.iload 0, 1, (0, 0, 0), 0, 0, [])), (20, (.iconst 0, 1, (0, 0, 0), 4, 0, [])), (21, (.if_icmp .ne 0, 3, (33, 0, 0), 0, 0, [])), (24, (.iload 0, 1, (1, 0, 0), 0, 0, [])), (25, (.iconst 0, 1, (0, 0, 0), 2, 0, [])), (26, (.if_icmp .ne 0, 3, (33, 0, 0), 0, 0, [])), (29, (.iconst 0, 1, (0, 0, 0), 1, 0, [])), (30, (.goto 0, 3, (34, 0, 0), 0, 0, []))],
  [(33, (.iconst 0, 1, (0, 0, 0), 0, 0, [])), (34, (.ireturn, 1, (0, 0, 0), 0, 0, []))]]
set_option maxRecDepth 20000 in
def tX7_says : List (List (Nat × XE)) := [[(0, (.iload 0, 1, (1, 0, 0), 0, 0, [])), (1, (.invokevirtual 0, 3, (1, 145, 88), 0, 0, [])), (4, (.ifCond .eq 0, 3, (16, 0, 0), 0, 0, [])), (7, (.iload 0, 1, (2, 0, 0), 0, 0, [])), (8, (.iconst 0, 1, (0, 0, 0), 0, 0, [])), (9, (.iconst 0, 1, (0, 0, 0), 5, 0, [])), (10, (.invokevirtual 0, 3, (3, 139, 78), 0, 0, [])), (13, (.ifCond .ne 0, 3, (24, 0, 0), 0, 0, [])), (16, (.aload 0, 1, (0, 0, 0), 0, 0, [])), (17, (.iconst 0, 3, (0, 0, 0), (-1002), 0, [])), (20, (.invokevirtual 0, 3, (2, 138, 92), 0, 0, [])), (23, (.ireturn, 1, (0, 0, 0), 0, 0, [])), (24, (.aload 0, 1, (0, 0, 0), 0, 0, [])), (25, (.iload 0, 1, (1, 0, 0), 0, 0, [])), (26, (.invokevirtual 0, 3, (2, 146, 96), 0, 0, [])), (29, (.ifCond .eq 0, 3, (40, 0, 0), 0, 0, []))],
  [(32, (.aload 0, 1, (0, 0, 0), 0, 0, [])), (33, (.iconst 0, 3, (0, 0, 0), (-1003), 0, [])), (36, (.invokevirtual 0, 3, (2, 138, 92), 0, 0, [])), (39, (.ireturn, 1, (0, 0, 0), 0, 0, [])), (40, (.aload 0, 1, (0, 0, 0), 0, 0, [])), (41, (.getfield 0, 3, (7, 19, 37), 0, 0, [])), (44, (.iload 0, 1, (1, 0, 0), 0, 0, [])), (45, (.iaload, 1, (0, 0, 0), 0, 0, [])), (46, (.ifCond .ge 0, 3, (57, 0, 0), 0, 0, [])), (49, (.aload 0, 1, (0, 0, 0), 0, 0, [])), (50, (.iconst 0, 3, (0, 0, 0), (-1004), 0, [])), (53, (.invokevirtual 0, 3, (2, 138, 92), 0, 0, [])), (56, (.ireturn, 1, (0, 0, 0), 0, 0, [])), (57, (.aload 0, 1, (0, 0, 0), 0, 0, [])), (58, (.getfield 0, 3, (7, 19, 37), 0, 0, [])), (61, (.iload 0, 1, (1, 0, 0), 0, 0, [])), (62, (.iaload, 1, (0, 0, 0), 0, 0, [])), (63, (.iconst 0, 2, (0, 0, 0), 10, 0, []))],
  [(65, (.isub, 1, (0, 0, 0), 0, 0, [])), (66, (.istore 0, 1, (3, 0, 0), 0, 0, [])), (67, (.aload 0, 1, (0, 0, 0), 0, 0, [])), (68, (.getfield 0, 3, (7, 5, 16), 0, 0, [])), (71, (.iload 0, 1, (3, 0, 0), 0, 0, [])), (72, (.iaload, 1, (0, 0, 0), 0, 0, [])), (73, (.iload 0, 1, (2, 0, 0), 0, 0, [])), (74, (.invokevirtual 0, 3, (2, 155, 109), 0, 0, [])), (77, (.ifCond .ne 0, 3, (88, 0, 0), 0, 0, [])), (80, (.aload 0, 1, (0, 0, 0), 0, 0, [])), (81, (.iconst 0, 3, (0, 0, 0), (-1003), 0, [])), (84, (.invokevirtual 0, 3, (2, 138, 92), 0, 0, [])), (87, (.ireturn, 1, (0, 0, 0), 0, 0, [])), (88, (.iload 0, 1, (2, 0, 0), 0, 0, [])), (89, (.ifCond .ne 0, 3, (101, 0, 0), 0, 0, [])), (92, (.aload 0, 1, (0, 0, 0), 0, 0, [])), (93, (.getfield 0, 3, (7, 7, 22), 0, 0, []))],
  [(96, (.iload 0, 1, (3, 0, 0), 0, 0, [])), (97, (.iaload, 1, (0, 0, 0), 0, 0, [])), (98, (.goto 0, 3, (106, 0, 0), 0, 0, [])), (101, (.aload 0, 1, (0, 0, 0), 0, 0, [])), (102, (.iload 0, 1, (3, 0, 0), 0, 0, [])), (103, (.invokevirtual 0, 3, (2, 182, 113), 0, 0, [])), (106, (.ireturn, 1, (0, 0, 0), 0, 0, []))]]
set_option maxRecDepth 20000 in
def tX7_paves : List (List (Nat × XE)) := [[(0, (.iload 0, 1, (1, 0, 0), 0, 0, [])), (1, (.aload 0, 1, (0, 0, 0), 0, 0, [])), (2, (.getfield 0, 3, (7, 0, 71), 0, 0, [])), (5, (.iconst 0, 2, (0, 0, 0), 30, 0, [])), (7, (.invokevirtual 0, 3, (3, 139, 78), 0, 0, [])), (10, (.ifCond .ne 0, 3, (21, 0, 0), 0, 0, [])), (13, (.aload 0, 1, (0, 0, 0), 0, 0, [])), (14, (.iconst 0, 3, (0, 0, 0), (-1002), 0, [])), (17, (.invokevirtual 0, 3, (2, 138, 92), 0, 0, [])), (20, (.ireturn, 1, (0, 0, 0), 0, 0, [])), (21, (.aload 0, 1, (0, 0, 0), 0, 0, [])), (22, (.getfield 0, 3, (7, 0, 71), 0, 0, [])), (25, (.istore 0, 1, (2, 0, 0), 0, 0, [])), (26, (.aload 0, 1, (0, 0, 0), 0, 0, [])), (27, (.iload 0, 1, (1, 0, 0), 0, 0, [])), (28, (.putfield 0, 3, (7, 0, 71), 0, 0, [])), (31, (.iload 0, 1, (2, 0, 0), 0, 0, []))],
  [(32, (.ireturn, 1, (0, 0, 0), 0, 0, []))]]
set_option maxRecDepth 20000 in
def tX7_newWalker : List (List (Nat × XE)) := [[(0, (.aload 0, 1, (0, 0, 0), 0, 0, [])), (1, (.getfield 0, 3, (7, 11, 31), 0, 0, [])), (4, (.aload 0, 1, (0, 0, 0), 0, 0, [])), (5, (.getfield 0, 3, (7, 10, 85), 0, 0, [])), (8, (.iload 0, 1, (1, 0, 0), 0, 0, [])), (9, (.iastore, 1, (0, 0, 0), 0, 0, [])), (10, (.aload 0, 1, (0, 0, 0), 0, 0, [])), (11, (.getfield 0, 3, (7, 11, 31), 0, 0, [])), (14, (.iconst 0, 2, (0, 0, 0), 6, 0, [])), (16, (.aload 0, 1, (0, 0, 0), 0, 0, [])), (17, (.getfield 0, 3, (7, 10, 85), 0, 0, [])), (20, (.iadd, 1, (0, 0, 0), 0, 0, [])), (21, (.iload 0, 1, (2, 0, 0), 0, 0, [])), (22, (.iastore, 1, (0, 0, 0), 0, 0, [])), (23, (.aload 0, 1, (0, 0, 0), 0, 0, [])), (24, (.getfield 0, 3, (7, 11, 31), 0, 0, [])), (27, (.iconst 0, 2, (0, 0, 0), 12, 0, [])), (29, (.aload 0, 1, (0, 0, 0), 0, 0, [])), (30, (.getfield 0, 3, (7, 10, 85), 0, 0, []))],
  [(33, (.iadd, 1, (0, 0, 0), 0, 0, [])), (34, (.iload 0, 1, (3, 0, 0), 0, 0, [])), (35, (.iastore, 1, (0, 0, 0), 0, 0, [])), (36, (.aload 0, 1, (0, 0, 0), 0, 0, [])), (37, (.dup, 1, (0, 0, 0), 0, 0, [])), (38, (.getfield 0, 3, (7, 10, 85), 0, 0, [])), (41, (.dup_x1, 1, (0, 0, 0), 0, 0, [])), (42, (.iconst 0, 1, (0, 0, 0), 1, 0, [])), (43, (.iadd, 1, (0, 0, 0), 0, 0, [])), (44, (.putfield 0, 3, (7, 10, 85), 0, 0, [])), (47, (.ireturn, 1, (0, 0, 0), 0, 0, []))]]
set_option maxRecDepth 20000 in
def tX7_walker : List (List (Nat × XE)) := [[(0, (.aload 0, 1, (0, 0, 0), 0, 0, [])), (1, (.iload 0, 1, (1, 0, 0), 0, 0, [])), (2, (.invokevirtual 0, 3, (2, 140, 116), 0, 0, [])), (5, (.ifCond .eq 0, 3, (26, 0, 0), 0, 0, [])), (8, (.iload 0, 1, (2, 0, 0), 0, 0, [])), (9, (.iconst 0, 1, (0, 0, 0), 0, 0, [])), (10, (.iconst 0, 1, (0, 0, 0), 3, 0, [])), (11, (.invokevirtual 0, 3, (3, 139, 78), 0, 0, [])), (14, (.ifCond .eq 0, 3, (26, 0, 0), 0, 0, [])), (17, (.iload 0, 1, (3, 0, 0), 0, 0, [])), (18, (.iconst 0, 1, (0, 0, 0), 0, 0, [])), (19, (.iconst 0, 1, (0, 0, 0), 1, 0, [])), (20, (.invokevirtual 0, 3, (3, 139, 78), 0, 0, [])), (23, (.ifCond .ne 0, 3, (34, 0, 0), 0, 0, [])), (26, (.aload 0, 1, (0, 0, 0), 0, 0, [])), (27, (.iconst 0, 3, (0, 0, 0), (-1002), 0, [])), (30, (.invokevirtual 0, 3, (2, 138, 92), 0, 0, []))],
  [(33, (.ireturn, 1, (0, 0, 0), 0, 0, [])), (34, (.aload 0, 1, (0, 0, 0), 0, 0, [])), (35, (.getfield 0, 3, (7, 10, 85), 0, 0, [])), (38, (.iconst 0, 2, (0, 0, 0), 6, 0, [])), (40, (.if_icmp .ne 0, 3, (53, 0, 0), 0, 0, [])), (43, (.aload 0, 1, (0, 0, 0), 0, 0, [])), (44, (.iconst 0, 3, (0, 0, 0), (-1006), 0, [])), (47, (.invokevirtual 0, 3, (2, 138, 92), 0, 0, [])), (50, (.goto 0, 3, (60, 0, 0), 0, 0, [])), (53, (.aload 0, 1, (0, 0, 0), 0, 0, [])), (54, (.iload 0, 1, (1, 0, 0), 0, 0, [])), (55, (.iload 0, 1, (2, 0, 0), 0, 0, [])), (56, (.iload 0, 1, (3, 0, 0), 0, 0, [])), (57, (.invokevirtual 0, 3, (4, 158, 119), 0, 0, [])), (60, (.ireturn, 1, (0, 0, 0), 0, 0, []))]]
set_option maxRecDepth 20000 in
def tX7_sends : List (List (Nat × XE)) := [[(0, (.aload 0, 1, (0, 0, 0), 0, 0, [])), (1, (.iload 0, 1, (1, 0, 0), 0, 0, [])), (2, (.invokevirtual 0, 3, (2, 142, 123), 0, 0, [])), (5, (.ifCond .eq 0, 3, (17, 0, 0), 0, 0, [])), (8, (.iload 0, 1, (2, 0, 0), 0, 0, [])), (9, (.iconst 0, 1, (0, 0, 0), 0, 0, [])), (10, (.iconst 0, 1, (0, 0, 0), 2, 0, [])), (11, (.invokevirtual 0, 3, (3, 139, 78), 0, 0, [])), (14, (.ifCond .ne 0, 3, (25, 0, 0), 0, 0, [])), (17, (.aload 0, 1, (0, 0, 0), 0, 0, [])), (18, (.iconst 0, 3, (0, 0, 0), (-1002), 0, [])), (21, (.invokevirtual 0, 3, (2, 138, 92), 0, 0, [])), (24, (.ireturn, 1, (0, 0, 0), 0, 0, [])), (25, (.iload 0, 1, (2, 0, 0), 0, 0, [])), (26, (.ifCond .ne 0, 3, (40, 0, 0), 0, 0, [])), (29, (.aload 0, 1, (0, 0, 0), 0, 0, [])), (30, (.iload 0, 1, (3, 0, 0), 0, 0, [])), (31, (.invokevirtual 0, 3, (2, 140, 116), 0, 0, []))],
  [(34, (.ifCond .ne 0, 3, (66, 0, 0), 0, 0, [])), (37, (.goto 0, 3, (58, 0, 0), 0, 0, [])), (40, (.iload 0, 1, (3, 0, 0), 0, 0, [])), (41, (.iconst 0, 1, (0, 0, 0), 0, 0, [])), (42, (.iload 0, 1, (2, 0, 0), 0, 0, [])), (43, (.iconst 0, 1, (0, 0, 0), 1, 0, [])), (44, (.if_icmp .ne 0, 3, (51, 0, 0), 0, 0, [])), (47, (.iconst 0, 1, (0, 0, 0), 3, 0, [])), (48, (.goto 0, 3, (52, 0, 0), 0, 0, [])), (51, (.iconst 0, 1, (0, 0, 0), 1, 0, [])), (52, (.invokevirtual 0, 3, (3, 139, 78), 0, 0, [])), (55, (.ifCond .ne 0, 3, (66, 0, 0), 0, 0, [])), (58, (.aload 0, 1, (0, 0, 0), 0, 0, [])), (59, (.iconst 0, 3, (0, 0, 0), (-1002), 0, [])), (62, (.invokevirtual 0, 3, (2, 138, 92), 0, 0, []))],
  [(65, (.ireturn, 1, (0, 0, 0), 0, 0, [])), (66, (.aload 0, 1, (0, 0, 0), 0, 0, [])), (67, (.getfield 0, 3, (7, 11, 31), 0, 0, [])), (70, (.iconst 0, 2, (0, 0, 0), 6, 0, [])), (72, (.iload 0, 1, (2, 0, 0), 0, 0, [])), (73, (.imul, 1, (0, 0, 0), 0, 0, [])), (74, (.iload 0, 1, (1, 0, 0), 0, 0, [])), (75, (.iadd, 1, (0, 0, 0), 0, 0, [])), (76, (.iaload, 1, (0, 0, 0), 0, 0, [])), (77, (.istore 0, 2, (4, 0, 0), 0, 0, [])), (79, (.aload 0, 1, (0, 0, 0), 0, 0, [])), (80, (.getfield 0, 3, (7, 11, 31), 0, 0, [])), (83, (.iconst 0, 2, (0, 0, 0), 6, 0, [])), (85, (.iload 0, 1, (2, 0, 0), 0, 0, [])), (86, (.imul, 1, (0, 0, 0), 0, 0, [])), (87, (.iload 0, 1, (1, 0, 0), 0, 0, [])), (88, (.iadd, 1, (0, 0, 0), 0, 0, [])), (89, (.iload 0, 1, (3, 0, 0), 0, 0, [])), (90, (.iastore, 1, (0, 0, 0), 0, 0, [])), (91, (.iload 0, 2, (4, 0, 0), 0, 0, [])), (93, (.ireturn, 1, (0, 0, 0), 0, 0, []))]]
set_option maxRecDepth 20000 in
def tX7_current : List (List (Nat × XE)) := [[(0, (.aload 0, 1, (0, 0, 0), 0, 0, [])), (1, (.iload 0, 1, (1, 0, 0), 0, 0, [])), (2, (.invokevirtual 0, 3, (2, 140, 116), 0, 0, [])), (5, (.ifCond .eq 0, 3, (18, 0, 0), 0, 0, [])), (8, (.iload 0, 1, (2, 0, 0), 0, 0, [])), (9, (.iconst 0, 1, (0, 0, 0), 0, 0, [])), (10, (.iconst 0, 2, (0, 0, 0), 6, 0, [])), (12, (.invokevirtual 0, 3, (3, 139, 78), 0, 0, [])), (15, (.ifCond .ne 0, 3, (26, 0, 0), 0, 0, [])), (18, (.aload 0, 1, (0, 0, 0), 0, 0, [])), (19, (.iconst 0, 3, (0, 0, 0), (-1002), 0, [])), (22, (.invokevirtual 0, 3, (2, 138, 92), 0, 0, [])), (25, (.ireturn, 1, (0, 0, 0), 0, 0, [])), (26, (.aload 0, 1, (0, 0, 0), 0, 0, [])), (27, (.getfield 0, 3, (7, 1, 7), 0, 0, [])), (30, (.iload 0, 1, (1, 0, 0), 0, 0, [])), (31, (.iaload, 1, (0, 0, 0), 0, 0, []))],
  [(32, (.istore 0, 1, (3, 0, 0), 0, 0, [])), (33, (.aload 0, 1, (0, 0, 0), 0, 0, [])), (34, (.getfield 0, 3, (7, 1, 7), 0, 0, [])), (37, (.iload 0, 1, (1, 0, 0), 0, 0, [])), (38, (.iload 0, 1, (2, 0, 0), 0, 0, [])), (39, (.iastore, 1, (0, 0, 0), 0, 0, [])), (40, (.iload 0, 1, (3, 0, 0), 0, 0, [])), (41, (.ireturn, 1, (0, 0, 0), 0, 0, []))]]
set_option maxRecDepth 20000 in
def tX7_tell : List (List (Nat × XE)) := [[(0, (.iload 0, 1, (1, 0, 0), 0, 0, [])), (1, (.iconst 0, 1, (0, 0, 0), 0, 0, [])), (2, (.iconst 0, 1, (0, 0, 0), 1, 0, [])), (3, (.invokevirtual 0, 3, (3, 139, 78), 0, 0, [])), (6, (.ifCond .eq 0, 3, (28, 0, 0), 0, 0, [])), (9, (.iload 0, 1, (2, 0, 0), 0, 0, [])), (10, (.iconst 0, 1, (0, 0, 0), 0, 0, [])), (11, (.iload 0, 1, (1, 0, 0), 0, 0, [])), (12, (.ifCond .ne 0, 3, (19, 0, 0), 0, 0, [])), (15, (.iconst 0, 1, (0, 0, 0), 4, 0, [])), (16, (.goto 0, 3, (22, 0, 0), 0, 0, [])), (19, (.iconst 0, 3, (0, 0, 0), 999, 0, [])), (22, (.invokevirtual 0, 3, (3, 139, 78), 0, 0, [])), (25, (.ifCond .ne 0, 3, (36, 0, 0), 0, 0, [])), (28, (.aload 0, 1, (0, 0, 0), 0, 0, [])), (29, (.iconst 0, 3, (0, 0, 0), (-1002), 0, []))],
  [(32, (.invokevirtual 0, 3, (2, 138, 92), 0, 0, [])), (35, (.ireturn, 1, (0, 0, 0), 0, 0, [])), (36, (.aload 0, 1, (0, 0, 0), 0, 0, [])), (37, (.getfield 0, 3, (7, 2, 13), 0, 0, [])), (40, (.iload 0, 1, (1, 0, 0), 0, 0, [])), (41, (.iaload, 1, (0, 0, 0), 0, 0, [])), (42, (.istore 0, 1, (3, 0, 0), 0, 0, [])), (43, (.aload 0, 1, (0, 0, 0), 0, 0, [])), (44, (.getfield 0, 3, (7, 2, 13), 0, 0, [])), (47, (.iload 0, 1, (1, 0, 0), 0, 0, [])), (48, (.iload 0, 1, (2, 0, 0), 0, 0, [])), (49, (.iastore, 1, (0, 0, 0), 0, 0, [])), (50, (.iload 0, 1, (3, 0, 0), 0, 0, [])), (51, (.ireturn, 1, (0, 0, 0), 0, 0, []))]]
set_option maxRecDepth 20000 in
def tX7_becomes : List (List (Nat × XE)) := [[(0, (.aload 0, 1, (0, 0, 0), 0, 0, [])), (1, (.getfield 0, 3, (7, 5, 16), 0, 0, [])), (4, (.iload 0, 1, (1, 0, 0), 0, 0, [])), (5, (.iload 0, 1, (2, 0, 0), 0, 0, [])), (6, (.iastore, 1, (0, 0, 0), 0, 0, [])), (7, (.aload 0, 1, (0, 0, 0), 0, 0, [])), (8, (.getfield 0, 3, (7, 6, 19), 0, 0, [])), (11, (.iload 0, 1, (1, 0, 0), 0, 0, [])), (12, (.iload 0, 1, (3, 0, 0), 0, 0, [])), (13, (.iastore, 1, (0, 0, 0), 0, 0, [])), (14, (.aload 0, 1, (0, 0, 0), 0, 0, [])), (15, (.getfield 0, 3, (7, 7, 22), 0, 0, [])), (18, (.iload 0, 1, (1, 0, 0), 0, 0, [])), (19, (.iload 0, 2, (4, 0, 0), 0, 0, [])), (21, (.iastore, 1, (0, 0, 0), 0, 0, [])), (22, (.aload 0, 1, (0, 0, 0), 0, 0, [])), (23, (.getfield 0, 3, (7, 8, 25), 0, 0, [])), (26, (.iload 0, 1, (1, 0, 0), 0, 0, [])), (27, (.iload 0, 2, (5, 0, 0), 0, 0, [])), (29, (.iastore, 1, (0, 0, 0), 0, 0, [])), (30, (.aload 0, 1, (0, 0, 0), 0, 0, [])), (31, (.getfield 0, 3, (7, 9, 28), 0, 0, []))],
  [(34, (.iload 0, 1, (1, 0, 0), 0, 0, [])), (35, (.iconst 0, 1, (0, 0, 0), 0, 0, [])), (36, (.iastore, 1, (0, 0, 0), 0, 0, [])), (37, (.return_, 1, (0, 0, 0), 0, 0, []))]]
set_option maxRecDepth 20000 in
def tX7_thrown : List (List (Nat × XE)) := [[(0, (.iload 0, 1, (1, 0, 0), 0, 0, [])), (1, (.iload 0, 1, (2, 0, 0), 0, 0, [])), (2, (.invokevirtual 0, 3, (2, 143, 126), 0, 0, [])), (5, (.ifCond .eq 0, 3, (25, 0, 0), 0, 0, [])), (8, (.aload 0, 1, (0, 0, 0), 0, 0, [])), (9, (.iload 0, 1, (3, 0, 0), 0, 0, [])), (10, (.invokevirtual 0, 3, (2, 140, 116), 0, 0, [])), (13, (.ifCond .eq 0, 3, (25, 0, 0), 0, 0, [])), (16, (.aload 0, 1, (0, 0, 0), 0, 0, [])), (17, (.iload 0, 2, (4, 0, 0), 0, 0, [])), (19, (.invokevirtual 0, 3, (2, 142, 123), 0, 0, [])), (22, (.ifCond .ne 0, 3, (33, 0, 0), 0, 0, [])), (25, (.aload 0, 1, (0, 0, 0), 0, 0, [])), (26, (.iconst 0, 3, (0, 0, 0), (-1002), 0, [])), (29, (.invokevirtual 0, 3, (2, 138, 92), 0, 0, []))],
  [(32, (.ireturn, 1, (0, 0, 0), 0, 0, [])), (33, (.aload 0, 1, (0, 0, 0), 0, 0, [])), (34, (.getfield 0, 3, (7, 4, 82), 0, 0, [])), (37, (.iconst 0, 2, (0, 0, 0), 8, 0, [])), (39, (.if_icmp .ne 0, 3, (50, 0, 0), 0, 0, [])), (42, (.aload 0, 1, (0, 0, 0), 0, 0, [])), (43, (.iconst 0, 3, (0, 0, 0), (-1006), 0, [])), (46, (.invokevirtual 0, 3, (2, 138, 92), 0, 0, [])), (49, (.ireturn, 1, (0, 0, 0), 0, 0, [])), (50, (.aload 0, 1, (0, 0, 0), 0, 0, [])), (51, (.aload 0, 1, (0, 0, 0), 0, 0, [])), (52, (.getfield 0, 3, (7, 4, 82), 0, 0, [])), (55, (.iload 0, 1, (1, 0, 0), 0, 0, [])), (56, (.iload 0, 1, (2, 0, 0), 0, 0, [])), (57, (.iload 0, 1, (3, 0, 0), 0, 0, [])), (58, (.iload 0, 2, (4, 0, 0), 0, 0, [])), (60, (.invokevirtual 0, 3, (6, 163, 129), 0, 0, [])), (63, (.aload 0, 1, (0, 0, 0), 0, 0, []))],
  [(64, (.dup, 1, (0, 0, 0), 0, 0, [])), (65, (.getfield 0, 3, (7, 4, 82), 0, 0, [])), (68, (.dup_x1, 1, (0, 0, 0), 0, 0, [])), (69, (.iconst 0, 1, (0, 0, 0), 1, 0, [])), (70, (.iadd, 1, (0, 0, 0), 0, 0, [])), (71, (.putfield 0, 3, (7, 4, 82), 0, 0, [])), (74, (.ireturn, 1, (0, 0, 0), 0, 0, []))]]
set_option maxRecDepth 20000 in
def tX7_feed : List (List (Nat × XE)) := [[(0, (.iload 0, 1, (1, 0, 0), 0, 0, [])), (1, (.iconst 0, 1, (0, 0, 0), 0, 0, [])), (2, (.iconst 0, 3, (0, 0, 0), 255, 0, [])), (5, (.invokevirtual 0, 3, (3, 139, 78), 0, 0, [])), (8, (.ifCond .ne 0, 3, (19, 0, 0), 0, 0, [])), (11, (.aload 0, 1, (0, 0, 0), 0, 0, [])), (12, (.iconst 0, 3, (0, 0, 0), (-1002), 0, [])), (15, (.invokevirtual 0, 3, (2, 138, 92), 0, 0, [])), (18, (.ireturn, 1, (0, 0, 0), 0, 0, [])), (19, (.aload 0, 1, (0, 0, 0), 0, 0, [])), (20, (.getfield 0, 3, (7, 13, 133), 0, 0, [])), (23, (.iconst 0, 3, (0, 0, 0), 250, 0, [])), (26, (.if_icmp .ne 0, 3, (37, 0, 0), 0, 0, [])), (29, (.aload 0, 1, (0, 0, 0), 0, 0, [])), (30, (.iconst 0, 3, (0, 0, 0), (-1006), 0, []))],
  [(33, (.invokevirtual 0, 3, (2, 138, 92), 0, 0, [])), (36, (.ireturn, 1, (0, 0, 0), 0, 0, [])), (37, (.aload 0, 1, (0, 0, 0), 0, 0, [])), (38, (.getfield 0, 3, (7, 14, 34), 0, 0, [])), (41, (.aload 0, 1, (0, 0, 0), 0, 0, [])), (42, (.dup, 1, (0, 0, 0), 0, 0, [])), (43, (.getfield 0, 3, (7, 13, 133), 0, 0, [])), (46, (.dup_x1, 1, (0, 0, 0), 0, 0, [])), (47, (.iconst 0, 1, (0, 0, 0), 1, 0, [])), (48, (.iadd, 1, (0, 0, 0), 0, 0, [])), (49, (.putfield 0, 3, (7, 13, 133), 0, 0, [])), (52, (.iload 0, 1, (1, 0, 0), 0, 0, [])), (53, (.iastore, 1, (0, 0, 0), 0, 0, [])), (54, (.aload 0, 1, (0, 0, 0), 0, 0, [])), (55, (.getfield 0, 3, (7, 13, 133), 0, 0, [])), (58, (.ireturn, 1, (0, 0, 0), 0, 0, []))]]
set_option maxRecDepth 20000 in
def tX7_wipe : List (List (Nat × XE)) := [[(0, (.aload 0, 1, (0, 0, 0), 0, 0, [])), (1, (.getfield 0, 3, (7, 13, 133), 0, 0, [])), (4, (.istore 0, 1, (1, 0, 0), 0, 0, [])), (5, (.aload 0, 1, (0, 0, 0), 0, 0, [])), (6, (.iconst 0, 1, (0, 0, 0), 0, 0, [])), (7, (.putfield 0, 3, (7, 13, 133), 0, 0, [])), (10, (.iload 0, 1, (1, 0, 0), 0, 0, [])), (11, (.ireturn, 1, (0, 0, 0), 0, 0, []))]]
set_option maxRecDepth 20000 in
def tX7_isLetter : List (List (Nat × XE)) := [[(0, (.iload 0, 1, (0, 0, 0), 0, 0, [])), (1, (.iconst 0, 2, (0, 0, 0), 97, 0, [])), (3, (.if_icmp .lt 0, 3, (16, 0, 0), 0, 0, [])), (6, (.iload 0, 1, (0, 0, 0), 0, 0, [])), (7, (.iconst 0, 2, (0, 0, 0), 122, 0, [])), (9, (.if_icmp .gt 0, 3, (16, 0, 0), 0, 0, [])), (12, (.iconst 0, 1, (0, 0, 0), 1, 0, [])), (13, (.goto 0, 3, (17, 0, 0), 0, 0, [])), (16, (.iconst 0, 1, (0, 0, 0), 0, 0, [])), (17, (.ireturn, 1, (0, 0, 0), 0, 0, []))]]
set_option maxRecDepth 20000 in
def tX7_isDigit : List (List (Nat × XE)) := [[(0, (.iload 0, 1, (0, 0, 0), 0, 0, [])), (1, (.iconst 0, 2, (0, 0, 0), 48, 0, [])), (3, (.if_icmp .lt 0, 3, (16, 0, 0), 0, 0, [])), (6, (.iload 0, 1, (0, 0, 0), 0, 0, [])), (7, (.iconst 0, 2, (0, 0, 0), 57, 0, [])), (9, (.if_icmp .gt 0, 3, (16, 0, 0), 0, 0, [])), (12, (.iconst 0, 1, (0, 0, 0), 1, 0, [])), (13, (.goto 0, 3, (17, 0, 0), 0, 0, [])), (16, (.iconst 0, 1, (0, 0, 0), 0, 0, [])), (17, (.ireturn, 1, (0, 0, 0), 0, 0, []))]]
set_option maxRecDepth 20000 in
def tX7_next : List (List (Nat × XE)) := [[(0, (.aload 0, 1, (0, 0, 0), 0, 0, [])), (1, (.aload 0, 1, (0, 0, 0), 0, 0, [])), (2, (.getfield 0, 3, (7, 16, 136), 0, 0, [])), (5, (.putfield 0, 3, (7, 15, 139), 0, 0, [])), (8, (.aload 0, 1, (0, 0, 0), 0, 0, [])), (9, (.getfield 0, 3, (7, 15, 139), 0, 0, [])), (12, (.aload 0, 1, (0, 0, 0), 0, 0, [])), (13, (.getfield 0, 3, (7, 13, 133), 0, 0, [])), (16, (.if_icmp .ge 0, 3, (46, 0, 0), 0, 0, [])), (19, (.aload 0, 1, (0, 0, 0), 0, 0, [])), (20, (.getfield 0, 3, (7, 14, 34), 0, 0, [])), (23, (.aload 0, 1, (0, 0, 0), 0, 0, [])), (24, (.getfield 0, 3, (7, 15, 139), 0, 0, [])), (27, (.iaload, 1, (0, 0, 0), 0, 0, [])), (28, (.iconst 0, 2, (0, 0, 0), 32, 0, [])), (30, (.if_icmp .ne 0, 3, (46, 0, 0), 0, 0, []))],
  [(33, (.aload 0, 1, (0, 0, 0), 0, 0, [])), (34, (.dup, 1, (0, 0, 0), 0, 0, [])), (35, (.getfield 0, 3, (7, 15, 139), 0, 0, [])), (38, (.iconst 0, 1, (0, 0, 0), 1, 0, [])), (39, (.iadd, 1, (0, 0, 0), 0, 0, [])), (40, (.putfield 0, 3, (7, 15, 139), 0, 0, [])), (43, (.goto 0, 3, (8, 0, 0), 0, 0, [])), (46, (.aload 0, 1, (0, 0, 0), 0, 0, [])), (47, (.aload 0, 1, (0, 0, 0), 0, 0, [])), (48, (.getfield 0, 3, (7, 15, 139), 0, 0, [])), (51, (.putfield 0, 3, (7, 16, 136), 0, 0, [])), (54, (.aload 0, 1, (0, 0, 0), 0, 0, [])), (55, (.getfield 0, 3, (7, 15, 139), 0, 0, [])), (58, (.aload 0, 1, (0, 0, 0), 0, 0, [])), (59, (.getfield 0, 3, (7, 13, 133), 0, 0, [])), (62, (.if_icmp .ne 0, 3, (72, 0, 0), 0, 0, []))],
  [(65, (.aload 0, 1, (0, 0, 0), 0, 0, [])), (66, (.iconst 0, 2, (0, 0, 0), 101, 0, [])), (68, (.putfield 0, 3, (7, 17, 142), 0, 0, [])), (71, (.return_, 1, (0, 0, 0), 0, 0, [])), (72, (.aload 0, 1, (0, 0, 0), 0, 0, [])), (73, (.getfield 0, 3, (7, 14, 34), 0, 0, [])), (76, (.aload 0, 1, (0, 0, 0), 0, 0, [])), (77, (.dup, 1, (0, 0, 0), 0, 0, [])), (78, (.getfield 0, 3, (7, 16, 136), 0, 0, [])), (81, (.dup_x1, 1, (0, 0, 0), 0, 0, [])), (82, (.iconst 0, 1, (0, 0, 0), 1, 0, [])), (83, (.iadd, 1, (0, 0, 0), 0, 0, [])), (84, (.putfield 0, 3, (7, 16, 136), 0, 0, [])), (87, (.iaload, 1, (0, 0, 0), 0, 0, [])), (88, (.istore 0, 1, (1, 0, 0), 0, 0, [])), (89, (.iload 0, 1, (1, 0, 0), 0, 0, [])), (90, (.invokevirtual 0, 3, (1, 167, 145), 0, 0, [])), (93, (.ifCond .eq 0, 3, (144, 0, 0), 0, 0, []))],
  [(96, (.aload 0, 1, (0, 0, 0), 0, 0, [])), (97, (.getfield 0, 3, (7, 16, 136), 0, 0, [])), (100, (.aload 0, 1, (0, 0, 0), 0, 0, [])), (101, (.getfield 0, 3, (7, 13, 133), 0, 0, [])), (104, (.if_icmp .ge 0, 3, (135, 0, 0), 0, 0, [])), (107, (.aload 0, 1, (0, 0, 0), 0, 0, [])), (108, (.getfield 0, 3, (7, 14, 34), 0, 0, [])), (111, (.aload 0, 1, (0, 0, 0), 0, 0, [])), (112, (.getfield 0, 3, (7, 16, 136), 0, 0, [])), (115, (.iaload, 1, (0, 0, 0), 0, 0, [])), (116, (.invokevirtual 0, 3, (1, 167, 145), 0, 0, [])), (119, (.ifCond .eq 0, 3, (135, 0, 0), 0, 0, [])), (122, (.aload 0, 1, (0, 0, 0), 0, 0, [])), (123, (.dup, 1, (0, 0, 0), 0, 0, [])), (124, (.getfield 0, 3, (7, 16, 136), 0, 0, [])), (127, (.iconst 0, 1, (0, 0, 0), 1, 0, []))],
  [(128, (.iadd, 1, (0, 0, 0), 0, 0, [])), (129, (.putfield 0, 3, (7, 16, 136), 0, 0, [])), (132, (.goto 0, 3, (96, 0, 0), 0, 0, [])), (135, (.aload 0, 1, (0, 0, 0), 0, 0, [])), (136, (.iconst 0, 2, (0, 0, 0), 119, 0, [])), (138, (.putfield 0, 3, (7, 17, 142), 0, 0, [])), (141, (.goto 0, 3, (279, 0, 0), 0, 0, [])), (144, (.iload 0, 1, (1, 0, 0), 0, 0, [])), (145, (.invokevirtual 0, 3, (1, 168, 148), 0, 0, [])), (148, (.ifCond .eq 0, 3, (262, 0, 0), 0, 0, [])), (151, (.aload 0, 1, (0, 0, 0), 0, 0, [])), (152, (.iload 0, 1, (1, 0, 0), 0, 0, [])), (153, (.iconst 0, 2, (0, 0, 0), 48, 0, [])), (155, (.isub, 1, (0, 0, 0), 0, 0, [])), (156, (.putfield 0, 3, (7, 18, 151), 0, 0, [])), (159, (.aload 0, 1, (0, 0, 0), 0, 0, []))],
  [(160, (.getfield 0, 3, (7, 16, 136), 0, 0, [])), (163, (.aload 0, 1, (0, 0, 0), 0, 0, [])), (164, (.getfield 0, 3, (7, 13, 133), 0, 0, [])), (167, (.if_icmp .ge 0, 3, (235, 0, 0), 0, 0, [])), (170, (.aload 0, 1, (0, 0, 0), 0, 0, [])), (171, (.getfield 0, 3, (7, 14, 34), 0, 0, [])), (174, (.aload 0, 1, (0, 0, 0), 0, 0, [])), (175, (.getfield 0, 3, (7, 16, 136), 0, 0, [])), (178, (.iaload, 1, (0, 0, 0), 0, 0, [])), (179, (.invokevirtual 0, 3, (1, 168, 148), 0, 0, [])), (182, (.ifCond .eq 0, 3, (235, 0, 0), 0, 0, [])), (185, (.aload 0, 1, (0, 0, 0), 0, 0, [])), (186, (.getfield 0, 3, (7, 16, 136), 0, 0, [])), (189, (.aload 0, 1, (0, 0, 0), 0, 0, [])), (190, (.getfield 0, 3, (7, 15, 139), 0, 0, []))],
  [(193, (.isub, 1, (0, 0, 0), 0, 0, [])), (194, (.iconst 0, 1, (0, 0, 0), 3, 0, [])), (195, (.if_icmp .ge 0, 3, (222, 0, 0), 0, 0, [])), (198, (.aload 0, 1, (0, 0, 0), 0, 0, [])), (199, (.iconst 0, 2, (0, 0, 0), 10, 0, [])), (201, (.aload 0, 1, (0, 0, 0), 0, 0, [])), (202, (.getfield 0, 3, (7, 18, 151), 0, 0, [])), (205, (.imul, 1, (0, 0, 0), 0, 0, [])), (206, (.aload 0, 1, (0, 0, 0), 0, 0, [])), (207, (.getfield 0, 3, (7, 14, 34), 0, 0, [])), (210, (.aload 0, 1, (0, 0, 0), 0, 0, [])), (211, (.getfield 0, 3, (7, 16, 136), 0, 0, [])), (214, (.iaload, 1, (0, 0, 0), 0, 0, [])), (215, (.iadd, 1, (0, 0, 0), 0, 0, [])), (216, (.iconst 0, 2, (0, 0, 0), 48, 0, [])), (218, (.isub, 1, (0, 0, 0), 0, 0, [])), (219, (.putfield 0, 3, (7, 18, 151), 0, 0, [])), (222, (.aload 0, 1, (0, 0, 0), 0, 0, [])), (223, (.dup, 1, (0, 0, 0), 0, 0, []))],
  [(224, (.getfield 0, 3, (7, 16, 136), 0, 0, [])), (227, (.iconst 0, 1, (0, 0, 0), 1, 0, [])), (228, (.iadd, 1, (0, 0, 0), 0, 0, [])), (229, (.putfield 0, 3, (7, 16, 136), 0, 0, [])), (232, (.goto 0, 3, (159, 0, 0), 0, 0, [])), (235, (.aload 0, 1, (0, 0, 0), 0, 0, [])), (236, (.aload 0, 1, (0, 0, 0), 0, 0, [])), (237, (.getfield 0, 3, (7, 16, 136), 0, 0, [])), (240, (.aload 0, 1, (0, 0, 0), 0, 0, [])), (241, (.getfield 0, 3, (7, 15, 139), 0, 0, [])), (244, (.isub, 1, (0, 0, 0), 0, 0, [])), (245, (.iconst 0, 1, (0, 0, 0), 3, 0, [])), (246, (.if_icmp .le 0, 3, (254, 0, 0), 0, 0, [])), (249, (.iconst 0, 2, (0, 0, 0), 120, 0, [])), (251, (.goto 0, 3, (256, 0, 0), 0, 0, [])), (254, (.iconst 0, 2, (0, 0, 0), 48, 0, []))],
  [(256, (.putfield 0, 3, (7, 17, 142), 0, 0, [])), (259, (.goto 0, 3, (279, 0, 0), 0, 0, [])), (262, (.aload 0, 1, (0, 0, 0), 0, 0, [])), (263, (.iload 0, 1, (1, 0, 0), 0, 0, [])), (264, (.iconst 0, 2, (0, 0, 0), 59, 0, [])), (266, (.if_icmp .ne 0, 3, (274, 0, 0), 0, 0, [])), (269, (.iconst 0, 2, (0, 0, 0), 59, 0, [])), (271, (.goto 0, 3, (276, 0, 0), 0, 0, [])), (274, (.iconst 0, 2, (0, 0, 0), 120, 0, [])), (276, (.putfield 0, 3, (7, 17, 142), 0, 0, [])), (279, (.return_, 1, (0, 0, 0), 0, 0, []))]]
set_option maxRecDepth 20000 in
def tX7_isWord : List (List (Nat × XE)) := [[(0, (.aload 0, 1, (0, 0, 0), 0, 0, [])), (1, (.getfield 0, 3, (7, 17, 142), 0, 0, [])), (4, (.iconst 0, 2, (0, 0, 0), 119, 0, [])), (6, (.if_icmp .ne 0, 3, (25, 0, 0), 0, 0, [])), (9, (.aload 0, 1, (0, 0, 0), 0, 0, [])), (10, (.getfield 0, 3, (7, 16, 136), 0, 0, [])), (13, (.aload 0, 1, (0, 0, 0), 0, 0, [])), (14, (.getfield 0, 3, (7, 15, 139), 0, 0, [])), (17, (.isub, 1, (0, 0, 0), 0, 0, [])), (18, (.aload 0, 1, (1, 0, 0), 0, 0, [])), (19, (.invokevirtual 0, 3, (1, 238, 154), 0, 0, [])), (22, (.if_icmp .eq 0, 3, (27, 0, 0), 0, 0, [])), (25, (.iconst 0, 1, (0, 0, 0), 0, 0, [])), (26, (.ireturn, 1, (0, 0, 0), 0, 0, [])), (27, (.iconst 0, 1, (0, 0, 0), 0, 0, [])), (28, (.istore 0, 1, (2, 0, 0), 0, 0, [])), (29, (.iload 0, 1, (2, 0, 0), 0, 0, [])), (30, (.aload 0, 1, (1, 0, 0), 0, 0, [])), (31, (.invokevirtual 0, 3, (1, 238, 154), 0, 0, []))],
  [(34, (.if_icmp .ge 0, 3, (64, 0, 0), 0, 0, [])), (37, (.aload 0, 1, (0, 0, 0), 0, 0, [])), (38, (.getfield 0, 3, (7, 14, 34), 0, 0, [])), (41, (.aload 0, 1, (0, 0, 0), 0, 0, [])), (42, (.getfield 0, 3, (7, 15, 139), 0, 0, [])), (45, (.iload 0, 1, (2, 0, 0), 0, 0, [])), (46, (.iadd, 1, (0, 0, 0), 0, 0, [])), (47, (.iaload, 1, (0, 0, 0), 0, 0, [])), (48, (.aload 0, 1, (1, 0, 0), 0, 0, [])), (49, (.iload 0, 1, (2, 0, 0), 0, 0, [])), (50, (.invokevirtual 0, 3, (2, 239, 160), 0, 0, [])), (53, (.if_icmp .eq 0, 3, (58, 0, 0), 0, 0, [])), (56, (.iconst 0, 1, (0, 0, 0), 0, 0, [])), (57, (.ireturn, 1, (0, 0, 0), 0, 0, [])), (58, (.iinc 0 0, 3, (2, 0, 0), 1, 0, [])), (61, (.goto 0, 3, (29, 0, 0), 0, 0, []))],
  [(64, (.iconst 0, 1, (0, 0, 0), 1, 0, [])), (65, (.ireturn, 1, (0, 0, 0), 0, 0, []))]]
set_option maxRecDepth 20000 in
def tX7_number : List (List (Nat × XE)) := [[(0, (.aload 0, 1, (0, 0, 0), 0, 0, [])), (1, (.invokevirtual 0, 3, (1, 169, 164), 0, 0, [])), (4, (.aload 0, 1, (0, 0, 0), 0, 0, [])), (5, (.getfield 0, 3, (7, 17, 142), 0, 0, [])), (8, (.iconst 0, 2, (0, 0, 0), 48, 0, [])), (10, (.if_icmp .ne 0, 3, (32, 0, 0), 0, 0, [])), (13, (.aload 0, 1, (0, 0, 0), 0, 0, [])), (14, (.getfield 0, 3, (7, 18, 151), 0, 0, [])), (17, (.iload 0, 1, (1, 0, 0), 0, 0, [])), (18, (.iload 0, 1, (2, 0, 0), 0, 0, [])), (19, (.invokevirtual 0, 3, (3, 139, 78), 0, 0, [])), (22, (.ifCond .eq 0, 3, (32, 0, 0), 0, 0, [])), (25, (.aload 0, 1, (0, 0, 0), 0, 0, [])), (26, (.getfield 0, 3, (7, 18, 151), 0, 0, [])), (29, (.goto 0, 3, (33, 0, 0), 0, 0, []))],
  [(32, (.iconst 0, 1, (0, 0, 0), (-1), 0, [])), (33, (.ireturn, 1, (0, 0, 0), 0, 0, []))]]
set_option maxRecDepth 20000 in
def tX7_cellTold : List (List (Nat × XE)) := [[(0, (.aload 0, 1, (0, 0, 0), 0, 0, [])), (1, (.iconst 0, 1, (0, 0, 0), 0, 0, [])), (2, (.aload 0, 1, (0, 0, 0), 0, 0, [])), (3, (.getfield 0, 3, (7, 0, 71), 0, 0, [])), (6, (.iconst 0, 1, (0, 0, 0), 1, 0, [])), (7, (.isub, 1, (0, 0, 0), 0, 0, [])), (8, (.invokevirtual 0, 3, (3, 171, 167), 0, 0, [])), (11, (.ireturn, 1, (0, 0, 0), 0, 0, []))]]
set_option maxRecDepth 20000 in
def tX7_comesOne : List (List (Nat × XE)) := [[(0, (.aload 0, 1, (0, 0, 0), 0, 0, [])), (1, (.getfield 0, 3, (7, 10, 85), 0, 0, [])), (4, (.iconst 0, 2, (0, 0, 0), 6, 0, [])), (6, (.if_icmp .ne 0, 3, (11, 0, 0), 0, 0, [])), (9, (.iconst 0, 1, (0, 0, 0), 0, 0, [])), (10, (.ireturn, 1, (0, 0, 0), 0, 0, [])), (11, (.aload 0, 1, (0, 0, 0), 0, 0, [])), (12, (.invokevirtual 0, 3, (1, 172, 171), 0, 0, [])), (15, (.istore 0, 1, (1, 0, 0), 0, 0, [])), (16, (.iload 0, 1, (1, 0, 0), 0, 0, [])), (17, (.iconst 0, 1, (0, 0, 0), (-1), 0, [])), (18, (.if_icmp .ne 0, 3, (25, 0, 0), 0, 0, [])), (21, (.iconst 0, 1, (0, 0, 0), (-1), 0, [])), (22, (.goto 0, 3, (31, 0, 0), 0, 0, [])), (25, (.aload 0, 1, (0, 0, 0), 0, 0, [])), (26, (.iconst 0, 1, (0, 0, 0), 0, 0, [])), (27, (.iconst 0, 1, (0, 0, 0), 3, 0, [])), (28, (.invokevirtual 0, 3, (3, 171, 167), 0, 0, [])), (31, (.istore 0, 1, (2, 0, 0), 0, 0, []))],
  [(32, (.iload 0, 1, (2, 0, 0), 0, 0, [])), (33, (.iconst 0, 1, (0, 0, 0), (-1), 0, [])), (34, (.if_icmp .ne 0, 3, (41, 0, 0), 0, 0, [])), (37, (.iconst 0, 1, (0, 0, 0), (-1), 0, [])), (38, (.goto 0, 3, (47, 0, 0), 0, 0, [])), (41, (.aload 0, 1, (0, 0, 0), 0, 0, [])), (42, (.iconst 0, 1, (0, 0, 0), 0, 0, [])), (43, (.iconst 0, 1, (0, 0, 0), 1, 0, [])), (44, (.invokevirtual 0, 3, (3, 171, 167), 0, 0, [])), (47, (.istore 0, 1, (3, 0, 0), 0, 0, [])), (48, (.iload 0, 1, (3, 0, 0), 0, 0, [])), (49, (.iconst 0, 1, (0, 0, 0), (-1), 0, [])), (50, (.if_icmp .ne 0, 3, (55, 0, 0), 0, 0, [])), (53, (.iconst 0, 1, (0, 0, 0), 0, 0, [])), (54, (.ireturn, 1, (0, 0, 0), 0, 0, [])), (55, (.aload 0, 1, (0, 0, 0), 0, 0, [])), (56, (.iload 0, 1, (1, 0, 0), 0, 0, [])), (57, (.iload 0, 1, (2, 0, 0), 0, 0, [])), (58, (.iload 0, 1, (3, 0, 0), 0, 0, [])), (59, (.invokevirtual 0, 3, (4, 158, 119), 0, 0, [])), (62, (.pop, 1, (0, 0, 0), 0, 0, [])), (63, (.iconst 0, 1, (0, 0, 0), 1, 0, []))],
  [(64, (.ireturn, 1, (0, 0, 0), 0, 0, []))]]
set_option maxRecDepth 20000 in
def tX7_floats : List (List (Nat × XE)) := [[(0, (.aload 0, 1, (0, 0, 0), 0, 0, [])), (1, (.getfield 0, 3, (7, 4, 82), 0, 0, [])), (4, (.iconst 0, 2, (0, 0, 0), 8, 0, [])), (6, (.if_icmp .ne 0, 3, (11, 0, 0), 0, 0, [])), (9, (.iconst 0, 1, (0, 0, 0), 0, 0, [])), (10, (.ireturn, 1, (0, 0, 0), 0, 0, [])), (11, (.aload 0, 1, (0, 0, 0), 0, 0, [])), (12, (.iconst 0, 1, (0, 0, 0), 0, 0, [])), (13, (.iconst 0, 1, (0, 0, 0), 5, 0, [])), (14, (.invokevirtual 0, 3, (3, 171, 167), 0, 0, [])), (17, (.istore 0, 1, (1, 0, 0), 0, 0, [])), (18, (.iload 0, 1, (1, 0, 0), 0, 0, [])), (19, (.iconst 0, 1, (0, 0, 0), (-1), 0, [])), (20, (.if_icmp .ne 0, 3, (27, 0, 0), 0, 0, [])), (23, (.iconst 0, 1, (0, 0, 0), (-1), 0, [])), (24, (.goto 0, 3, (34, 0, 0), 0, 0, [])), (27, (.aload 0, 1, (0, 0, 0), 0, 0, [])), (28, (.iconst 0, 1, (0, 0, 0), 0, 0, [])), (29, (.iconst 0, 2, (0, 0, 0), 9, 0, [])), (31, (.invokevirtual 0, 3, (3, 171, 167), 0, 0, []))],
  [(34, (.istore 0, 1, (2, 0, 0), 0, 0, [])), (35, (.iload 0, 1, (2, 0, 0), 0, 0, [])), (36, (.iconst 0, 1, (0, 0, 0), (-1), 0, [])), (37, (.if_icmp .ne 0, 3, (44, 0, 0), 0, 0, [])), (40, (.iconst 0, 1, (0, 0, 0), (-1), 0, [])), (41, (.goto 0, 3, (48, 0, 0), 0, 0, [])), (44, (.aload 0, 1, (0, 0, 0), 0, 0, [])), (45, (.invokevirtual 0, 3, (1, 172, 171), 0, 0, [])), (48, (.istore 0, 1, (3, 0, 0), 0, 0, [])), (49, (.iload 0, 1, (3, 0, 0), 0, 0, [])), (50, (.iconst 0, 1, (0, 0, 0), (-1), 0, [])), (51, (.if_icmp .ne 0, 3, (58, 0, 0), 0, 0, [])), (54, (.iconst 0, 1, (0, 0, 0), (-1), 0, [])), (55, (.goto 0, 3, (69, 0, 0), 0, 0, [])), (58, (.aload 0, 1, (0, 0, 0), 0, 0, [])), (59, (.iconst 0, 1, (0, 0, 0), 0, 0, [])), (60, (.aload 0, 1, (0, 0, 0), 0, 0, [])), (61, (.getfield 0, 3, (7, 10, 85), 0, 0, []))],
  [(64, (.iconst 0, 1, (0, 0, 0), 1, 0, [])), (65, (.isub, 1, (0, 0, 0), 0, 0, [])), (66, (.invokevirtual 0, 3, (3, 171, 167), 0, 0, [])), (69, (.istore 0, 2, (4, 0, 0), 0, 0, [])), (71, (.iload 0, 2, (4, 0, 0), 0, 0, [])), (73, (.iconst 0, 1, (0, 0, 0), (-1), 0, [])), (74, (.if_icmp .ne 0, 3, (79, 0, 0), 0, 0, [])), (77, (.iconst 0, 1, (0, 0, 0), 0, 0, [])), (78, (.ireturn, 1, (0, 0, 0), 0, 0, [])), (79, (.aload 0, 1, (0, 0, 0), 0, 0, [])), (80, (.aload 0, 1, (0, 0, 0), 0, 0, [])), (81, (.dup, 1, (0, 0, 0), 0, 0, [])), (82, (.getfield 0, 3, (7, 4, 82), 0, 0, [])), (85, (.dup_x1, 1, (0, 0, 0), 0, 0, [])), (86, (.iconst 0, 1, (0, 0, 0), 1, 0, [])), (87, (.iadd, 1, (0, 0, 0), 0, 0, [])), (88, (.putfield 0, 3, (7, 4, 82), 0, 0, [])), (91, (.iload 0, 1, (1, 0, 0), 0, 0, [])), (92, (.iload 0, 1, (2, 0, 0), 0, 0, [])), (93, (.iload 0, 1, (3, 0, 0), 0, 0, [])), (94, (.iload 0, 2, (4, 0, 0), 0, 0, []))],
  [(96, (.invokevirtual 0, 3, (6, 163, 129), 0, 0, [])), (99, (.iconst 0, 1, (0, 0, 0), 1, 0, [])), (100, (.ireturn, 1, (0, 0, 0), 0, 0, []))]]
set_option maxRecDepth 20000 in
def tX7_statement : List (List (Nat × XE)) := [[(0, (.aload 0, 1, (0, 0, 0), 0, 0, [])), (1, (.ldc 0, 2, (6, 174, 0), 0, 0, [])), (3, (.invokevirtual 0, 3, (2, 170, 176), 0, 0, [])), (6, (.ifCond .eq 0, 3, (14, 0, 0), 0, 0, [])), (9, (.aload 0, 1, (0, 0, 0), 0, 0, [])), (10, (.invokevirtual 0, 3, (1, 173, 180), 0, 0, [])), (13, (.ireturn, 1, (0, 0, 0), 0, 0, [])), (14, (.aload 0, 1, (0, 0, 0), 0, 0, [])), (15, (.ldc 0, 2, (7, 184, 0), 0, 0, [])), (17, (.invokevirtual 0, 3, (2, 170, 176), 0, 0, [])), (20, (.ifCond .eq 0, 3, (28, 0, 0), 0, 0, [])), (23, (.aload 0, 1, (0, 0, 0), 0, 0, [])), (24, (.invokevirtual 0, 3, (1, 174, 186), 0, 0, [])), (27, (.ireturn, 1, (0, 0, 0), 0, 0, [])), (28, (.aload 0, 1, (0, 0, 0), 0, 0, [])), (29, (.ldc 0, 2, (8, 189, 0), 0, 0, [])), (31, (.invokevirtual 0, 3, (2, 170, 176), 0, 0, []))],
  [(34, (.ifCond .eq 0, 3, (62, 0, 0), 0, 0, [])), (37, (.aload 0, 1, (0, 0, 0), 0, 0, [])), (38, (.aload 0, 1, (0, 0, 0), 0, 0, [])), (39, (.getfield 0, 3, (7, 0, 71), 0, 0, [])), (42, (.iconst 0, 2, (0, 0, 0), 30, 0, [])), (44, (.invokevirtual 0, 3, (3, 171, 167), 0, 0, [])), (47, (.istore 0, 1, (1, 0, 0), 0, 0, [])), (48, (.iload 0, 1, (1, 0, 0), 0, 0, [])), (49, (.iconst 0, 1, (0, 0, 0), (-1), 0, [])), (50, (.if_icmp .ne 0, 3, (55, 0, 0), 0, 0, [])), (53, (.iconst 0, 1, (0, 0, 0), 0, 0, [])), (54, (.ireturn, 1, (0, 0, 0), 0, 0, [])), (55, (.aload 0, 1, (0, 0, 0), 0, 0, [])), (56, (.iload 0, 1, (1, 0, 0), 0, 0, [])), (57, (.putfield 0, 3, (7, 0, 71), 0, 0, [])), (60, (.iconst 0, 1, (0, 0, 0), 1, 0, [])), (61, (.ireturn, 1, (0, 0, 0), 0, 0, [])), (62, (.aload 0, 1, (0, 0, 0), 0, 0, [])), (63, (.ldc 0, 2, (9, 191, 0), 0, 0, []))],
  [(65, (.invokevirtual 0, 3, (2, 170, 176), 0, 0, [])), (68, (.ifCond .eq 0, 3, (109, 0, 0), 0, 0, [])), (71, (.aload 0, 1, (0, 0, 0), 0, 0, [])), (72, (.invokevirtual 0, 3, (1, 172, 171), 0, 0, [])), (75, (.istore 0, 1, (1, 0, 0), 0, 0, [])), (76, (.iload 0, 1, (1, 0, 0), 0, 0, [])), (77, (.iconst 0, 1, (0, 0, 0), (-1), 0, [])), (78, (.if_icmp .ne 0, 3, (85, 0, 0), 0, 0, [])), (81, (.iconst 0, 1, (0, 0, 0), (-1), 0, [])), (82, (.goto 0, 3, (92, 0, 0), 0, 0, [])), (85, (.aload 0, 1, (0, 0, 0), 0, 0, [])), (86, (.iconst 0, 1, (0, 0, 0), 0, 0, [])), (87, (.iconst 0, 2, (0, 0, 0), 6, 0, [])), (89, (.invokevirtual 0, 3, (3, 171, 167), 0, 0, [])), (92, (.istore 0, 1, (2, 0, 0), 0, 0, [])), (93, (.iload 0, 1, (2, 0, 0), 0, 0, [])), (94, (.iconst 0, 1, (0, 0, 0), (-1), 0, [])), (95, (.if_icmp .ne 0, 3, (100, 0, 0), 0, 0, []))],
  [(98, (.iconst 0, 1, (0, 0, 0), 0, 0, [])), (99, (.ireturn, 1, (0, 0, 0), 0, 0, [])), (100, (.aload 0, 1, (0, 0, 0), 0, 0, [])), (101, (.getfield 0, 3, (7, 1, 7), 0, 0, [])), (104, (.iload 0, 1, (1, 0, 0), 0, 0, [])), (105, (.iload 0, 1, (2, 0, 0), 0, 0, [])), (106, (.iastore, 1, (0, 0, 0), 0, 0, [])), (107, (.iconst 0, 1, (0, 0, 0), 1, 0, [])), (108, (.ireturn, 1, (0, 0, 0), 0, 0, [])), (109, (.aload 0, 1, (0, 0, 0), 0, 0, [])), (110, (.ldc 0, 2, (10, 192, 0), 0, 0, [])), (112, (.invokevirtual 0, 3, (2, 170, 176), 0, 0, [])), (115, (.ifCond .eq 0, 3, (122, 0, 0), 0, 0, [])), (118, (.iconst 0, 1, (0, 0, 0), 0, 0, [])), (119, (.goto 0, 3, (136, 0, 0), 0, 0, [])), (122, (.aload 0, 1, (0, 0, 0), 0, 0, [])), (123, (.ldc 0, 2, (11, 194, 0), 0, 0, [])), (125, (.invokevirtual 0, 3, (2, 170, 176), 0, 0, []))],
  [(128, (.ifCond .eq 0, 3, (135, 0, 0), 0, 0, [])), (131, (.iconst 0, 1, (0, 0, 0), 1, 0, [])), (132, (.goto 0, 3, (136, 0, 0), 0, 0, [])), (135, (.iconst 0, 1, (0, 0, 0), (-1), 0, [])), (136, (.istore 0, 1, (2, 0, 0), 0, 0, [])), (137, (.iload 0, 1, (2, 0, 0), 0, 0, [])), (138, (.iconst 0, 1, (0, 0, 0), (-1), 0, [])), (139, (.if_icmp .ne 0, 3, (144, 0, 0), 0, 0, [])), (142, (.iconst 0, 1, (0, 0, 0), 0, 0, [])), (143, (.ireturn, 1, (0, 0, 0), 0, 0, [])), (144, (.aload 0, 1, (0, 0, 0), 0, 0, [])), (145, (.iconst 0, 1, (0, 0, 0), 0, 0, [])), (146, (.iload 0, 1, (2, 0, 0), 0, 0, [])), (147, (.ifCond .ne 0, 3, (154, 0, 0), 0, 0, [])), (150, (.iconst 0, 1, (0, 0, 0), 4, 0, [])), (151, (.goto 0, 3, (157, 0, 0), 0, 0, [])), (154, (.iconst 0, 3, (0, 0, 0), 999, 0, [])), (157, (.invokevirtual 0, 3, (3, 171, 167), 0, 0, []))],
  [(160, (.istore 0, 1, (1, 0, 0), 0, 0, [])), (161, (.iload 0, 1, (1, 0, 0), 0, 0, [])), (162, (.iconst 0, 1, (0, 0, 0), (-1), 0, [])), (163, (.if_icmp .ne 0, 3, (168, 0, 0), 0, 0, [])), (166, (.iconst 0, 1, (0, 0, 0), 0, 0, [])), (167, (.ireturn, 1, (0, 0, 0), 0, 0, [])), (168, (.aload 0, 1, (0, 0, 0), 0, 0, [])), (169, (.getfield 0, 3, (7, 2, 13), 0, 0, [])), (172, (.iload 0, 1, (2, 0, 0), 0, 0, [])), (173, (.iload 0, 1, (1, 0, 0), 0, 0, [])), (174, (.iastore, 1, (0, 0, 0), 0, 0, [])), (175, (.iconst 0, 1, (0, 0, 0), 1, 0, [])), (176, (.ireturn, 1, (0, 0, 0), 0, 0, []))]]
set_option maxRecDepth 20000 in
def tX7_coast : List (List (Nat × XE)) := [[(0, (.aload 0, 1, (0, 0, 0), 0, 0, [])), (1, (.aload 0, 1, (0, 0, 0), 0, 0, [])), (2, (.getfield 0, 3, (7, 25, 53), 0, 0, [])), (5, (.invokevirtual 0, 3, (2, 232, 196), 0, 0, [])), (8, (.aload 0, 1, (0, 0, 0), 0, 0, [])), (9, (.iconst 0, 1, (0, 0, 0), 0, 0, [])), (10, (.putfield 0, 3, (7, 16, 136), 0, 0, [])), (13, (.iconst 0, 1, (0, 0, 0), 0, 0, [])), (14, (.istore 0, 1, (1, 0, 0), 0, 0, [])), (15, (.iconst 0, 1, (0, 0, 0), 1, 0, [])), (16, (.istore 0, 1, (2, 0, 0), 0, 0, [])), (17, (.iload 0, 1, (2, 0, 0), 0, 0, [])), (18, (.ifCond .eq 0, 3, (78, 0, 0), 0, 0, [])), (21, (.aload 0, 1, (0, 0, 0), 0, 0, [])), (22, (.invokevirtual 0, 3, (1, 169, 164), 0, 0, [])), (25, (.aload 0, 1, (0, 0, 0), 0, 0, [])), (26, (.invokevirtual 0, 3, (1, 175, 200), 0, 0, [])), (29, (.istore 0, 1, (2, 0, 0), 0, 0, [])), (30, (.iload 0, 1, (2, 0, 0), 0, 0, [])), (31, (.ifCond .ne 0, 3, (37, 0, 0), 0, 0, []))],
  [(34, (.goto 0, 3, (17, 0, 0), 0, 0, [])), (37, (.iinc 0 0, 3, (1, 0, 0), 1, 0, [])), (40, (.aload 0, 1, (0, 0, 0), 0, 0, [])), (41, (.invokevirtual 0, 3, (1, 169, 164), 0, 0, [])), (44, (.aload 0, 1, (0, 0, 0), 0, 0, [])), (45, (.getfield 0, 3, (7, 17, 142), 0, 0, [])), (48, (.iconst 0, 2, (0, 0, 0), 101, 0, [])), (50, (.if_icmp .ne 0, 3, (60, 0, 0), 0, 0, [])), (53, (.aload 0, 1, (0, 0, 0), 0, 0, [])), (54, (.iconst 0, 1, (0, 0, 0), 0, 0, [])), (55, (.putfield 0, 3, (7, 13, 133), 0, 0, [])), (58, (.iload 0, 1, (1, 0, 0), 0, 0, [])), (59, (.ireturn, 1, (0, 0, 0), 0, 0, [])), (60, (.aload 0, 1, (0, 0, 0), 0, 0, [])), (61, (.getfield 0, 3, (7, 17, 142), 0, 0, []))],
  [(64, (.iconst 0, 2, (0, 0, 0), 59, 0, [])), (66, (.if_icmp .ne 0, 3, (73, 0, 0), 0, 0, [])), (69, (.iconst 0, 1, (0, 0, 0), 1, 0, [])), (70, (.goto 0, 3, (74, 0, 0), 0, 0, [])), (73, (.iconst 0, 1, (0, 0, 0), 0, 0, [])), (74, (.istore 0, 1, (2, 0, 0), 0, 0, [])), (75, (.goto 0, 3, (17, 0, 0), 0, 0, [])), (78, (.aload 0, 1, (0, 0, 0), 0, 0, [])), (79, (.aload 0, 1, (0, 0, 0), 0, 0, [])), (80, (.getfield 0, 3, (7, 25, 53), 0, 0, [])), (83, (.invokevirtual 0, 3, (2, 233, 203), 0, 0, [])), (86, (.aload 0, 1, (0, 0, 0), 0, 0, [])), (87, (.iconst 0, 1, (0, 0, 0), 0, 0, [])), (88, (.putfield 0, 3, (7, 13, 133), 0, 0, [])), (91, (.aload 0, 1, (0, 0, 0), 0, 0, [])), (92, (.iconst 0, 3, (0, 0, 0), (-1002), 0, [])), (95, (.invokevirtual 0, 3, (2, 138, 92), 0, 0, []))],
  [(98, (.pop, 1, (0, 0, 0), 0, 0, [])), (99, (.iconst 0, 3, (0, 0, 0), (-2000), 0, [])), (102, (.aload 0, 1, (0, 0, 0), 0, 0, [])), (103, (.getfield 0, 3, (7, 15, 139), 0, 0, [])), (106, (.isub, 1, (0, 0, 0), 0, 0, [])), (107, (.ireturn, 1, (0, 0, 0), 0, 0, []))]]
set_option maxRecDepth 20000 in
def tX7_tough : List (List (Nat × XE)) := [[(0, (.aload 0, 1, (0, 0, 0), 0, 0, [])), (1, (.getfield 0, 3, (7, 5, 16), 0, 0, [])), (4, (.iload 0, 1, (1, 0, 0), 0, 0, [])), (5, (.iaload, 1, (0, 0, 0), 0, 0, [])), (6, (.tableswitch 0 0 0 #[], 34, (58, 0, 0), 0, 0, [(1, 40), (2, 42), (3, 40), (4, 44), (5, 55)]))],
  [(40, (.iconst 0, 1, (0, 0, 0), 5, 0, [])), (41, (.ireturn, 1, (0, 0, 0), 0, 0, [])), (42, (.iconst 0, 1, (0, 0, 0), 4, 0, [])), (43, (.ireturn, 1, (0, 0, 0), 0, 0, [])), (44, (.iconst 0, 1, (0, 0, 0), 4, 0, [])), (45, (.aload 0, 1, (0, 0, 0), 0, 0, [])), (46, (.getfield 0, 3, (7, 6, 19), 0, 0, [])), (49, (.iload 0, 1, (1, 0, 0), 0, 0, [])), (50, (.iaload, 1, (0, 0, 0), 0, 0, [])), (51, (.iconst 0, 1, (0, 0, 0), 3, 0, [])), (52, (.idiv, 1, (0, 0, 0), 0, 0, [])), (53, (.iadd, 1, (0, 0, 0), 0, 0, [])), (54, (.ireturn, 1, (0, 0, 0), 0, 0, [])), (55, (.iconst 0, 2, (0, 0, 0), 99, 0, [])), (57, (.ireturn, 1, (0, 0, 0), 0, 0, [])), (58, (.iconst 0, 1, (0, 0, 0), 3, 0, [])), (59, (.ireturn, 1, (0, 0, 0), 0, 0, []))]]
set_option maxRecDepth 20000 in
def tX7_bottleOf : List (List (Nat × XE)) := [[(0, (.aload 0, 1, (0, 0, 0), 0, 0, [])), (1, (.iload 0, 1, (1, 0, 0), 0, 0, [])), (2, (.invokevirtual 0, 3, (2, 141, 106), 0, 0, [])), (5, (.ifCond .ne 0, 3, (16, 0, 0), 0, 0, [])), (8, (.aload 0, 1, (0, 0, 0), 0, 0, [])), (9, (.iconst 0, 3, (0, 0, 0), (-1002), 0, [])), (12, (.invokevirtual 0, 3, (2, 138, 92), 0, 0, [])), (15, (.ireturn, 1, (0, 0, 0), 0, 0, [])), (16, (.iload 0, 1, (2, 0, 0), 0, 0, [])), (17, (.tableswitch 0 0 0 #[], 39, (97, 0, 0), 0, 0, [(0, 56), (1, 63), (2, 70), (3, 77), (4, 84), (5, 91)]))],
  [(56, (.aload 0, 1, (0, 0, 0), 0, 0, [])), (57, (.getfield 0, 3, (7, 5, 16), 0, 0, [])), (60, (.iload 0, 1, (1, 0, 0), 0, 0, [])), (61, (.iaload, 1, (0, 0, 0), 0, 0, [])), (62, (.ireturn, 1, (0, 0, 0), 0, 0, [])), (63, (.aload 0, 1, (0, 0, 0), 0, 0, []))],
  [(64, (.getfield 0, 3, (7, 6, 19), 0, 0, [])), (67, (.iload 0, 1, (1, 0, 0), 0, 0, [])), (68, (.iaload, 1, (0, 0, 0), 0, 0, [])), (69, (.ireturn, 1, (0, 0, 0), 0, 0, [])), (70, (.aload 0, 1, (0, 0, 0), 0, 0, [])), (71, (.getfield 0, 3, (7, 7, 22), 0, 0, [])), (74, (.iload 0, 1, (1, 0, 0), 0, 0, [])), (75, (.iaload, 1, (0, 0, 0), 0, 0, [])), (76, (.ireturn, 1, (0, 0, 0), 0, 0, [])), (77, (.aload 0, 1, (0, 0, 0), 0, 0, [])), (78, (.getfield 0, 3, (7, 8, 25), 0, 0, [])), (81, (.iload 0, 1, (1, 0, 0), 0, 0, [])), (82, (.iaload, 1, (0, 0, 0), 0, 0, [])), (83, (.ireturn, 1, (0, 0, 0), 0, 0, [])), (84, (.aload 0, 1, (0, 0, 0), 0, 0, [])), (85, (.getfield 0, 3, (7, 9, 28), 0, 0, [])), (88, (.iload 0, 1, (1, 0, 0), 0, 0, [])), (89, (.iaload, 1, (0, 0, 0), 0, 0, [])), (90, (.ireturn, 1, (0, 0, 0), 0, 0, [])), (91, (.aload 0, 1, (0, 0, 0), 0, 0, [])), (92, (.iload 0, 1, (1, 0, 0), 0, 0, [])), (93, (.invokevirtual 0, 3, (2, 177, 206), 0, 0, []))],
  [(96, (.ireturn, 1, (0, 0, 0), 0, 0, [])), (97, (.aload 0, 1, (0, 0, 0), 0, 0, [])), (98, (.iconst 0, 3, (0, 0, 0), (-1002), 0, [])), (101, (.invokevirtual 0, 3, (2, 138, 92), 0, 0, [])), (104, (.ireturn, 1, (0, 0, 0), 0, 0, []))]]
set_option maxRecDepth 20000 in
def tX7_forHim : List (List (Nat × XE)) := [[(0, (.iconst 0, 1, (0, 0, 0), 0, 0, [])), (1, (.istore 0, 1, (2, 0, 0), 0, 0, [])), (2, (.iconst 0, 1, (0, 0, 0), 0, 0, [])), (3, (.istore 0, 1, (3, 0, 0), 0, 0, [])), (4, (.iload 0, 1, (3, 0, 0), 0, 0, [])), (5, (.aload 0, 1, (0, 0, 0), 0, 0, [])), (6, (.getfield 0, 3, (7, 4, 82), 0, 0, [])), (9, (.if_icmp .ge 0, 3, (34, 0, 0), 0, 0, [])), (12, (.aload 0, 1, (0, 0, 0), 0, 0, [])), (13, (.getfield 0, 3, (7, 8, 25), 0, 0, [])), (16, (.iload 0, 1, (3, 0, 0), 0, 0, [])), (17, (.iaload, 1, (0, 0, 0), 0, 0, [])), (18, (.iload 0, 1, (1, 0, 0), 0, 0, [])), (19, (.if_icmp .ne 0, 3, (28, 0, 0), 0, 0, [])), (22, (.iload 0, 1, (2, 0, 0), 0, 0, [])), (23, (.iconst 0, 1, (0, 0, 0), 1, 0, [])), (24, (.iload 0, 1, (3, 0, 0), 0, 0, [])), (25, (.ishl, 1, (0, 0, 0), 0, 0, [])), (26, (.ior, 1, (0, 0, 0), 0, 0, [])), (27, (.istore 0, 1, (2, 0, 0), 0, 0, [])), (28, (.iinc 0 0, 3, (3, 0, 0), 1, 0, [])), (31, (.goto 0, 3, (4, 0, 0), 0, 0, []))],
  [(34, (.iload 0, 1, (2, 0, 0), 0, 0, [])), (35, (.ireturn, 1, (0, 0, 0), 0, 0, []))]]
set_option maxRecDepth 20000 in
def tX7_walkerOf : List (List (Nat × XE)) := [[(0, (.aload 0, 1, (0, 0, 0), 0, 0, [])), (1, (.iload 0, 1, (1, 0, 0), 0, 0, [])), (2, (.invokevirtual 0, 3, (2, 142, 123), 0, 0, [])), (5, (.ifCond .eq 0, 3, (17, 0, 0), 0, 0, [])), (8, (.iload 0, 1, (2, 0, 0), 0, 0, [])), (9, (.iconst 0, 1, (0, 0, 0), 0, 0, [])), (10, (.iconst 0, 1, (0, 0, 0), 3, 0, [])), (11, (.invokevirtual 0, 3, (3, 139, 78), 0, 0, [])), (14, (.ifCond .ne 0, 3, (25, 0, 0), 0, 0, [])), (17, (.aload 0, 1, (0, 0, 0), 0, 0, [])), (18, (.iconst 0, 3, (0, 0, 0), (-1002), 0, [])), (21, (.invokevirtual 0, 3, (2, 138, 92), 0, 0, [])), (24, (.ireturn, 1, (0, 0, 0), 0, 0, [])), (25, (.iload 0, 1, (2, 0, 0), 0, 0, [])), (26, (.iconst 0, 1, (0, 0, 0), 3, 0, [])), (27, (.if_icmp .ne 0, 3, (38, 0, 0), 0, 0, [])), (30, (.aload 0, 1, (0, 0, 0), 0, 0, [])), (31, (.iload 0, 1, (1, 0, 0), 0, 0, []))],
  [(32, (.invokevirtual 0, 3, (2, 179, 209), 0, 0, [])), (35, (.goto 0, 3, (49, 0, 0), 0, 0, [])), (38, (.aload 0, 1, (0, 0, 0), 0, 0, [])), (39, (.getfield 0, 3, (7, 11, 31), 0, 0, [])), (42, (.iconst 0, 2, (0, 0, 0), 6, 0, [])), (44, (.iload 0, 1, (2, 0, 0), 0, 0, [])), (45, (.imul, 1, (0, 0, 0), 0, 0, [])), (46, (.iload 0, 1, (1, 0, 0), 0, 0, [])), (47, (.iadd, 1, (0, 0, 0), 0, 0, [])), (48, (.iaload, 1, (0, 0, 0), 0, 0, [])), (49, (.ireturn, 1, (0, 0, 0), 0, 0, []))]]
set_option maxRecDepth 20000 in
def tX7_currentAt : List (List (Nat × XE)) := [[(0, (.aload 0, 1, (0, 0, 0), 0, 0, [])), (1, (.iload 0, 1, (1, 0, 0), 0, 0, [])), (2, (.invokevirtual 0, 3, (2, 140, 116), 0, 0, [])), (5, (.ifCond .eq 0, 3, (17, 0, 0), 0, 0, [])), (8, (.aload 0, 1, (0, 0, 0), 0, 0, [])), (9, (.getfield 0, 3, (7, 1, 7), 0, 0, [])), (12, (.iload 0, 1, (1, 0, 0), 0, 0, [])), (13, (.iaload, 1, (0, 0, 0), 0, 0, [])), (14, (.goto 0, 3, (24, 0, 0), 0, 0, [])), (17, (.aload 0, 1, (0, 0, 0), 0, 0, [])), (18, (.iconst 0, 3, (0, 0, 0), (-1002), 0, [])), (21, (.invokevirtual 0, 3, (2, 138, 92), 0, 0, [])), (24, (.ireturn, 1, (0, 0, 0), 0, 0, []))]]
set_option maxRecDepth 20000 in
def tX7_drift : List (List (Nat × XE)) := [[(0, (.aload 0, 1, (0, 0, 0), 0, 0, [])), (1, (.getfield 0, 3, (7, 1, 7), 0, 0, [])), (4, (.aload 0, 1, (0, 0, 0), 0, 0, [])), (5, (.getfield 0, 3, (7, 7, 22), 0, 0, [])), (8, (.iload 0, 1, (1, 0, 0), 0, 0, [])), (9, (.iaload, 1, (0, 0, 0), 0, 0, [])), (10, (.iaload, 1, (0, 0, 0), 0, 0, [])), (11, (.iconst 0, 1, (0, 0, 0), 3, 0, [])), (12, (.isub, 1, (0, 0, 0), 0, 0, [])), (13, (.istore 0, 1, (2, 0, 0), 0, 0, [])), (14, (.aload 0, 1, (0, 0, 0), 0, 0, [])), (15, (.getfield 0, 3, (7, 2, 13), 0, 0, [])), (18, (.iconst 0, 1, (0, 0, 0), 0, 0, [])), (19, (.iaload, 1, (0, 0, 0), 0, 0, [])), (20, (.iconst 0, 1, (0, 0, 0), 2, 0, [])), (21, (.isub, 1, (0, 0, 0), 0, 0, [])), (22, (.istore 0, 1, (3, 0, 0), 0, 0, [])), (23, (.aload 0, 1, (0, 0, 0), 0, 0, [])), (24, (.getfield 0, 3, (7, 5, 16), 0, 0, [])), (27, (.iload 0, 1, (1, 0, 0), 0, 0, [])), (28, (.iaload, 1, (0, 0, 0), 0, 0, [])), (29, (.tableswitch 0 0 0 #[], 31, (102, 0, 0), 0, 0, [(1, 60), (2, 62), (3, 68), (4, 85)]))],
  [(60, (.iload 0, 1, (2, 0, 0), 0, 0, [])), (61, (.ireturn, 1, (0, 0, 0), 0, 0, [])), (62, (.iload 0, 1, (2, 0, 0), 0, 0, [])), (63, (.iconst 0, 1, (0, 0, 0), 2, 0, []))],
  [(64, (.iload 0, 1, (3, 0, 0), 0, 0, [])), (65, (.imul, 1, (0, 0, 0), 0, 0, [])), (66, (.iadd, 1, (0, 0, 0), 0, 0, [])), (67, (.ireturn, 1, (0, 0, 0), 0, 0, [])), (68, (.aload 0, 1, (0, 0, 0), 0, 0, [])), (69, (.getfield 0, 3, (7, 2, 13), 0, 0, [])), (72, (.iconst 0, 1, (0, 0, 0), 1, 0, [])), (73, (.iaload, 1, (0, 0, 0), 0, 0, [])), (74, (.iconst 0, 1, (0, 0, 0), 2, 0, [])), (75, (.irem, 1, (0, 0, 0), 0, 0, [])), (76, (.ifCond .ne 0, 3, (83, 0, 0), 0, 0, [])), (79, (.iload 0, 1, (2, 0, 0), 0, 0, [])), (80, (.goto 0, 3, (84, 0, 0), 0, 0, [])), (83, (.iconst 0, 1, (0, 0, 0), 0, 0, [])), (84, (.ireturn, 1, (0, 0, 0), 0, 0, [])), (85, (.iload 0, 1, (2, 0, 0), 0, 0, [])), (86, (.iconst 0, 1, (0, 0, 0), 2, 0, [])), (87, (.iload 0, 1, (3, 0, 0), 0, 0, [])), (88, (.imul, 1, (0, 0, 0), 0, 0, [])), (89, (.iadd, 1, (0, 0, 0), 0, 0, [])), (90, (.aload 0, 1, (0, 0, 0), 0, 0, [])), (91, (.getfield 0, 3, (7, 6, 19), 0, 0, [])), (94, (.iload 0, 1, (1, 0, 0), 0, 0, [])), (95, (.iaload, 1, (0, 0, 0), 0, 0, []))],
  [(96, (.iconst 0, 1, (0, 0, 0), 3, 0, [])), (97, (.irem, 1, (0, 0, 0), 0, 0, [])), (98, (.iadd, 1, (0, 0, 0), 0, 0, [])), (99, (.iconst 0, 1, (0, 0, 0), 1, 0, [])), (100, (.isub, 1, (0, 0, 0), 0, 0, [])), (101, (.ireturn, 1, (0, 0, 0), 0, 0, [])), (102, (.iload 0, 1, (2, 0, 0), 0, 0, [])), (103, (.iload 0, 1, (3, 0, 0), 0, 0, [])), (104, (.iadd, 1, (0, 0, 0), 0, 0, [])), (105, (.ireturn, 1, (0, 0, 0), 0, 0, []))]]
set_option maxRecDepth 20000 in
def tX7_drifts : List (List (Nat × XE)) := [[(0, (.aload 0, 1, (0, 0, 0), 0, 0, [])), (1, (.getfield 0, 3, (7, 9, 28), 0, 0, [])), (4, (.iload 0, 1, (1, 0, 0), 0, 0, [])), (5, (.iaload, 1, (0, 0, 0), 0, 0, [])), (6, (.ifCond .eq 0, 3, (10, 0, 0), 0, 0, [])), (9, (.return_, 1, (0, 0, 0), 0, 0, [])), (10, (.aload 0, 1, (0, 0, 0), 0, 0, [])), (11, (.iload 0, 1, (1, 0, 0), 0, 0, [])), (12, (.invokevirtual 0, 3, (2, 182, 113), 0, 0, [])), (15, (.istore 0, 1, (2, 0, 0), 0, 0, [])), (16, (.iload 0, 1, (2, 0, 0), 0, 0, [])), (17, (.dneg, 3, (0, 0, 212), 0, 0, [])), (20, (.aload 0, 1, (0, 0, 0), 0, 0, [])), (21, (.iload 0, 1, (1, 0, 0), 0, 0, [])), (22, (.invokevirtual 0, 3, (2, 177, 206), 0, 0, [])), (25, (.if_icmp .le 0, 3, (38, 0, 0), 0, 0, [])), (28, (.aload 0, 1, (0, 0, 0), 0, 0, [])), (29, (.getfield 0, 3, (7, 9, 28), 0, 0, []))],
  [(32, (.iload 0, 1, (1, 0, 0), 0, 0, [])), (33, (.iconst 0, 1, (0, 0, 0), 2, 0, [])), (34, (.iastore, 1, (0, 0, 0), 0, 0, [])), (35, (.goto 0, 3, (65, 0, 0), 0, 0, [])), (38, (.aload 0, 1, (0, 0, 0), 0, 0, [])), (39, (.getfield 0, 3, (7, 7, 22), 0, 0, [])), (42, (.iload 0, 1, (1, 0, 0), 0, 0, [])), (43, (.iconst 0, 1, (0, 0, 0), 0, 0, [])), (44, (.aload 0, 1, (0, 0, 0), 0, 0, [])), (45, (.getfield 0, 3, (7, 0, 71), 0, 0, [])), (48, (.iconst 0, 1, (0, 0, 0), 1, 0, [])), (49, (.isub, 1, (0, 0, 0), 0, 0, [])), (50, (.aload 0, 1, (0, 0, 0), 0, 0, [])), (51, (.getfield 0, 3, (7, 7, 22), 0, 0, [])), (54, (.iload 0, 1, (1, 0, 0), 0, 0, [])), (55, (.iaload, 1, (0, 0, 0), 0, 0, [])), (56, (.iload 0, 1, (2, 0, 0), 0, 0, [])), (57, (.iadd, 1, (0, 0, 0), 0, 0, [])), (58, (.dsub, 3, (0, 0, 217), 0, 0, [])), (61, (.dadd, 3, (0, 0, 220), 0, 0, []))],
  [(64, (.iastore, 1, (0, 0, 0), 0, 0, [])), (65, (.return_, 1, (0, 0, 0), 0, 0, []))]]
set_option maxRecDepth 20000 in
def tX7_steps : List (List (Nat × XE)) := [[(0, (.iconst 0, 1, (0, 0, 0), 0, 0, [])), (1, (.istore 0, 1, (2, 0, 0), 0, 0, [])), (2, (.iload 0, 1, (2, 0, 0), 0, 0, [])), (3, (.aload 0, 1, (0, 0, 0), 0, 0, [])), (4, (.getfield 0, 3, (7, 11, 31), 0, 0, [])), (7, (.iconst 0, 2, (0, 0, 0), 6, 0, [])), (9, (.iload 0, 1, (1, 0, 0), 0, 0, [])), (10, (.iadd, 1, (0, 0, 0), 0, 0, [])), (11, (.iaload, 1, (0, 0, 0), 0, 0, [])), (12, (.if_icmp .ge 0, 3, (106, 0, 0), 0, 0, [])), (15, (.aload 0, 1, (0, 0, 0), 0, 0, [])), (16, (.getfield 0, 3, (7, 11, 31), 0, 0, [])), (19, (.iload 0, 1, (1, 0, 0), 0, 0, [])), (20, (.iaload, 1, (0, 0, 0), 0, 0, [])), (21, (.aload 0, 1, (0, 0, 0), 0, 0, [])), (22, (.getfield 0, 3, (7, 11, 31), 0, 0, [])), (25, (.iconst 0, 2, (0, 0, 0), 12, 0, [])), (27, (.iload 0, 1, (1, 0, 0), 0, 0, [])), (28, (.iadd, 1, (0, 0, 0), 0, 0, [])), (29, (.iaload, 1, (0, 0, 0), 0, 0, [])), (30, (.ifCond .ne 0, 3, (37, 0, 0), 0, 0, []))],
  [(33, (.iconst 0, 1, (0, 0, 0), 1, 0, [])), (34, (.goto 0, 3, (38, 0, 0), 0, 0, [])), (37, (.iconst 0, 1, (0, 0, 0), (-1), 0, [])), (38, (.iadd, 1, (0, 0, 0), 0, 0, [])), (39, (.istore 0, 1, (3, 0, 0), 0, 0, [])), (40, (.aload 0, 1, (0, 0, 0), 0, 0, [])), (41, (.iload 0, 1, (3, 0, 0), 0, 0, [])), (42, (.invokevirtual 0, 3, (2, 140, 116), 0, 0, [])), (45, (.ifCond .ne 0, 3, (93, 0, 0), 0, 0, [])), (48, (.aload 0, 1, (0, 0, 0), 0, 0, [])), (49, (.getfield 0, 3, (7, 11, 31), 0, 0, [])), (52, (.iconst 0, 2, (0, 0, 0), 12, 0, [])), (54, (.iload 0, 1, (1, 0, 0), 0, 0, [])), (55, (.iadd, 1, (0, 0, 0), 0, 0, [])), (56, (.iconst 0, 1, (0, 0, 0), 1, 0, [])), (57, (.aload 0, 1, (0, 0, 0), 0, 0, [])), (58, (.getfield 0, 3, (7, 11, 31), 0, 0, [])), (61, (.iconst 0, 2, (0, 0, 0), 12, 0, [])), (63, (.iload 0, 1, (1, 0, 0), 0, 0, []))],
  [(64, (.iadd, 1, (0, 0, 0), 0, 0, [])), (65, (.iaload, 1, (0, 0, 0), 0, 0, [])), (66, (.isub, 1, (0, 0, 0), 0, 0, [])), (67, (.iastore, 1, (0, 0, 0), 0, 0, [])), (68, (.aload 0, 1, (0, 0, 0), 0, 0, [])), (69, (.getfield 0, 3, (7, 11, 31), 0, 0, [])), (72, (.iload 0, 1, (1, 0, 0), 0, 0, [])), (73, (.iaload, 1, (0, 0, 0), 0, 0, [])), (74, (.aload 0, 1, (0, 0, 0), 0, 0, [])), (75, (.getfield 0, 3, (7, 11, 31), 0, 0, [])), (78, (.iconst 0, 2, (0, 0, 0), 12, 0, [])), (80, (.iload 0, 1, (1, 0, 0), 0, 0, [])), (81, (.iadd, 1, (0, 0, 0), 0, 0, [])), (82, (.iaload, 1, (0, 0, 0), 0, 0, [])), (83, (.ifCond .ne 0, 3, (90, 0, 0), 0, 0, [])), (86, (.iconst 0, 1, (0, 0, 0), 1, 0, [])), (87, (.goto 0, 3, (91, 0, 0), 0, 0, [])), (90, (.iconst 0, 1, (0, 0, 0), (-1), 0, [])), (91, (.iadd, 1, (0, 0, 0), 0, 0, [])), (92, (.istore 0, 1, (3, 0, 0), 0, 0, [])), (93, (.aload 0, 1, (0, 0, 0), 0, 0, [])), (94, (.getfield 0, 3, (7, 11, 31), 0, 0, []))],
  [(97, (.iload 0, 1, (1, 0, 0), 0, 0, [])), (98, (.iload 0, 1, (3, 0, 0), 0, 0, [])), (99, (.iastore, 1, (0, 0, 0), 0, 0, [])), (100, (.iinc 0 0, 3, (2, 0, 0), 1, 0, [])), (103, (.goto 0, 3, (2, 0, 0), 0, 0, [])), (106, (.return_, 1, (0, 0, 0), 0, 0, []))]]
set_option maxRecDepth 20000 in
def tX7_passes : List (List (Nat × XE)) := [[(0, (.iconst 0, 1, (0, 0, 0), 0, 0, [])), (1, (.istore 0, 1, (2, 0, 0), 0, 0, [])), (2, (.iconst 0, 1, (0, 0, 0), 0, 0, [])), (3, (.istore 0, 1, (3, 0, 0), 0, 0, [])), (4, (.iload 0, 1, (3, 0, 0), 0, 0, [])), (5, (.iload 0, 1, (1, 0, 0), 0, 0, [])), (6, (.if_icmp .ge 0, 3, (20, 0, 0), 0, 0, [])), (9, (.aload 0, 1, (0, 0, 0), 0, 0, [])), (10, (.iload 0, 1, (3, 0, 0), 0, 0, [])), (11, (.invokevirtual 0, 3, (2, 183, 223), 0, 0, [])), (14, (.iinc 0 0, 3, (3, 0, 0), 1, 0, [])), (17, (.goto 0, 3, (4, 0, 0), 0, 0, [])), (20, (.iconst 0, 1, (0, 0, 0), 0, 0, [])), (21, (.istore 0, 1, (3, 0, 0), 0, 0, [])), (22, (.iload 0, 1, (3, 0, 0), 0, 0, [])), (23, (.aload 0, 1, (0, 0, 0), 0, 0, [])), (24, (.getfield 0, 3, (7, 10, 85), 0, 0, [])), (27, (.if_icmp .ge 0, 3, (41, 0, 0), 0, 0, [])), (30, (.aload 0, 1, (0, 0, 0), 0, 0, [])), (31, (.iload 0, 1, (3, 0, 0), 0, 0, []))],
  [(32, (.invokevirtual 0, 3, (2, 184, 227), 0, 0, [])), (35, (.iinc 0 0, 3, (3, 0, 0), 1, 0, [])), (38, (.goto 0, 3, (22, 0, 0), 0, 0, [])), (41, (.iconst 0, 1, (0, 0, 0), 0, 0, [])), (42, (.istore 0, 1, (3, 0, 0), 0, 0, [])), (43, (.iload 0, 1, (3, 0, 0), 0, 0, [])), (44, (.iload 0, 1, (1, 0, 0), 0, 0, [])), (45, (.if_icmp .ge 0, 3, (106, 0, 0), 0, 0, [])), (48, (.aload 0, 1, (0, 0, 0), 0, 0, [])), (49, (.getfield 0, 3, (7, 9, 28), 0, 0, [])), (52, (.iload 0, 1, (3, 0, 0), 0, 0, [])), (53, (.iaload, 1, (0, 0, 0), 0, 0, [])), (54, (.ifCond .ne 0, 3, (100, 0, 0), 0, 0, [])), (57, (.aload 0, 1, (0, 0, 0), 0, 0, [])), (58, (.getfield 0, 3, (7, 8, 25), 0, 0, [])), (61, (.iload 0, 1, (3, 0, 0), 0, 0, [])), (62, (.iaload, 1, (0, 0, 0), 0, 0, [])), (63, (.iconst 0, 1, (0, 0, 0), (-1), 0, []))],
  [(64, (.if_icmp .eq 0, 3, (100, 0, 0), 0, 0, [])), (67, (.aload 0, 1, (0, 0, 0), 0, 0, [])), (68, (.getfield 0, 3, (7, 7, 22), 0, 0, [])), (71, (.iload 0, 1, (3, 0, 0), 0, 0, [])), (72, (.iaload, 1, (0, 0, 0), 0, 0, [])), (73, (.aload 0, 1, (0, 0, 0), 0, 0, [])), (74, (.getfield 0, 3, (7, 11, 31), 0, 0, [])), (77, (.aload 0, 1, (0, 0, 0), 0, 0, [])), (78, (.getfield 0, 3, (7, 8, 25), 0, 0, [])), (81, (.iload 0, 1, (3, 0, 0), 0, 0, [])), (82, (.iaload, 1, (0, 0, 0), 0, 0, [])), (83, (.iaload, 1, (0, 0, 0), 0, 0, [])), (84, (.if_icmp .eq 0, 3, (90, 0, 0), 0, 0, [])), (87, (.goto 0, 3, (100, 0, 0), 0, 0, [])), (90, (.aload 0, 1, (0, 0, 0), 0, 0, [])), (91, (.getfield 0, 3, (7, 9, 28), 0, 0, [])), (94, (.iload 0, 1, (3, 0, 0), 0, 0, [])), (95, (.iconst 0, 1, (0, 0, 0), 1, 0, []))],
  [(96, (.iastore, 1, (0, 0, 0), 0, 0, [])), (97, (.iinc 0 0, 3, (2, 0, 0), 1, 0, [])), (100, (.iinc 0 0, 3, (3, 0, 0), 1, 0, [])), (103, (.goto 0, 3, (43, 0, 0), 0, 0, [])), (106, (.aload 0, 1, (0, 0, 0), 0, 0, [])), (107, (.getfield 0, 3, (7, 2, 13), 0, 0, [])), (110, (.iconst 0, 1, (0, 0, 0), 1, 0, [])), (111, (.iaload, 1, (0, 0, 0), 0, 0, [])), (112, (.iconst 0, 3, (0, 0, 0), 999, 0, [])), (115, (.if_icmp .ge 0, 3, (128, 0, 0), 0, 0, [])), (118, (.aload 0, 1, (0, 0, 0), 0, 0, [])), (119, (.getfield 0, 3, (7, 2, 13), 0, 0, [])), (122, (.iconst 0, 1, (0, 0, 0), 1, 0, [])), (123, (.dup2, 1, (0, 0, 0), 0, 0, [])), (124, (.iaload, 1, (0, 0, 0), 0, 0, [])), (125, (.iconst 0, 1, (0, 0, 0), 1, 0, [])), (126, (.iadd, 1, (0, 0, 0), 0, 0, [])), (127, (.iastore, 1, (0, 0, 0), 0, 0, []))],
  [(128, (.iload 0, 1, (2, 0, 0), 0, 0, [])), (129, (.ireturn, 1, (0, 0, 0), 0, 0, []))]]
set_option maxRecDepth 20000 in
def tX7_goesOn : List (List (Nat × XE)) := [[(0, (.iconst 0, 1, (0, 0, 0), 0, 0, [])), (1, (.istore 0, 1, (2, 0, 0), 0, 0, [])), (2, (.iconst 0, 1, (0, 0, 0), 0, 0, [])), (3, (.istore 0, 1, (3, 0, 0), 0, 0, [])), (4, (.iload 0, 1, (3, 0, 0), 0, 0, [])), (5, (.iload 0, 1, (1, 0, 0), 0, 0, [])), (6, (.if_icmp .ge 0, 3, (26, 0, 0), 0, 0, [])), (9, (.iload 0, 1, (2, 0, 0), 0, 0, [])), (10, (.aload 0, 1, (0, 0, 0), 0, 0, [])), (11, (.aload 0, 1, (0, 0, 0), 0, 0, [])), (12, (.getfield 0, 3, (7, 4, 82), 0, 0, [])), (15, (.invokevirtual 0, 3, (2, 185, 230), 0, 0, [])), (18, (.iadd, 1, (0, 0, 0), 0, 0, [])), (19, (.istore 0, 1, (2, 0, 0), 0, 0, [])), (20, (.iinc 0 0, 3, (3, 0, 0), 1, 0, [])), (23, (.goto 0, 3, (4, 0, 0), 0, 0, [])), (26, (.iload 0, 1, (2, 0, 0), 0, 0, [])), (27, (.ireturn, 1, (0, 0, 0), 0, 0, []))]]
set_option maxRecDepth 20000 in
def tX7_ahead : List (List (Nat × XE)) := [[(0, (.aload 0, 1, (0, 0, 0), 0, 0, [])), (1, (.iload 0, 1, (1, 0, 0), 0, 0, [])), (2, (.invokevirtual 0, 3, (2, 141, 106), 0, 0, [])), (5, (.ifCond .eq 0, 3, (24, 0, 0), 0, 0, [])), (8, (.iload 0, 1, (2, 0, 0), 0, 0, [])), (9, (.invokevirtual 0, 3, (1, 144, 233), 0, 0, [])), (12, (.ifCond .eq 0, 3, (24, 0, 0), 0, 0, [])), (15, (.iload 0, 1, (3, 0, 0), 0, 0, [])), (16, (.iconst 0, 1, (0, 0, 0), 0, 0, [])), (17, (.iconst 0, 1, (0, 0, 0), 1, 0, [])), (18, (.invokevirtual 0, 3, (3, 139, 78), 0, 0, [])), (21, (.ifCond .ne 0, 3, (32, 0, 0), 0, 0, [])), (24, (.aload 0, 1, (0, 0, 0), 0, 0, [])), (25, (.iconst 0, 3, (0, 0, 0), (-1002), 0, [])), (28, (.invokevirtual 0, 3, (2, 138, 92), 0, 0, [])), (31, (.ireturn, 1, (0, 0, 0), 0, 0, []))],
  [(32, (.aload 0, 1, (0, 0, 0), 0, 0, [])), (33, (.aload 0, 1, (0, 0, 0), 0, 0, [])), (34, (.getfield 0, 3, (7, 26, 56), 0, 0, [])), (37, (.invokevirtual 0, 3, (2, 232, 196), 0, 0, [])), (40, (.aload 0, 1, (0, 0, 0), 0, 0, [])), (41, (.iload 0, 1, (2, 0, 0), 0, 0, [])), (42, (.invokevirtual 0, 3, (2, 186, 236), 0, 0, [])), (45, (.pop, 1, (0, 0, 0), 0, 0, [])), (46, (.iload 0, 1, (3, 0, 0), 0, 0, [])), (47, (.ifCond .ne 0, 3, (59, 0, 0), 0, 0, [])), (50, (.aload 0, 1, (0, 0, 0), 0, 0, [])), (51, (.getfield 0, 3, (7, 7, 22), 0, 0, [])), (54, (.iload 0, 1, (1, 0, 0), 0, 0, [])), (55, (.iaload, 1, (0, 0, 0), 0, 0, [])), (56, (.goto 0, 3, (65, 0, 0), 0, 0, [])), (59, (.aload 0, 1, (0, 0, 0), 0, 0, [])), (60, (.getfield 0, 3, (7, 9, 28), 0, 0, [])), (63, (.iload 0, 1, (1, 0, 0), 0, 0, []))],
  [(64, (.iaload, 1, (0, 0, 0), 0, 0, [])), (65, (.istore 0, 2, (4, 0, 0), 0, 0, [])), (67, (.aload 0, 1, (0, 0, 0), 0, 0, [])), (68, (.aload 0, 1, (0, 0, 0), 0, 0, [])), (69, (.getfield 0, 3, (7, 26, 56), 0, 0, [])), (72, (.invokevirtual 0, 3, (2, 233, 203), 0, 0, [])), (75, (.iload 0, 2, (4, 0, 0), 0, 0, [])), (77, (.ireturn, 1, (0, 0, 0), 0, 0, []))]]
set_option maxRecDepth 20000 in
def tX7_walks : List (List (Nat × XE)) := [[(0, (.aload 0, 1, (0, 0, 0), 0, 0, [])), (1, (.iload 0, 1, (1, 0, 0), 0, 0, [])), (2, (.invokevirtual 0, 3, (2, 142, 123), 0, 0, [])), (5, (.ifCond .eq 0, 3, (15, 0, 0), 0, 0, [])), (8, (.iload 0, 1, (2, 0, 0), 0, 0, [])), (9, (.invokevirtual 0, 3, (1, 144, 233), 0, 0, [])), (12, (.ifCond .ne 0, 3, (23, 0, 0), 0, 0, [])), (15, (.aload 0, 1, (0, 0, 0), 0, 0, [])), (16, (.iconst 0, 3, (0, 0, 0), (-1002), 0, [])), (19, (.invokevirtual 0, 3, (2, 138, 92), 0, 0, [])), (22, (.ireturn, 1, (0, 0, 0), 0, 0, [])), (23, (.aload 0, 1, (0, 0, 0), 0, 0, [])), (24, (.aload 0, 1, (0, 0, 0), 0, 0, [])), (25, (.getfield 0, 3, (7, 26, 56), 0, 0, [])), (28, (.invokevirtual 0, 3, (2, 232, 196), 0, 0, [])), (31, (.aload 0, 1, (0, 0, 0), 0, 0, []))],
  [(32, (.iload 0, 1, (2, 0, 0), 0, 0, [])), (33, (.invokevirtual 0, 3, (2, 186, 236), 0, 0, [])), (36, (.pop, 1, (0, 0, 0), 0, 0, [])), (37, (.aload 0, 1, (0, 0, 0), 0, 0, [])), (38, (.getfield 0, 3, (7, 11, 31), 0, 0, [])), (41, (.iload 0, 1, (1, 0, 0), 0, 0, [])), (42, (.iaload, 1, (0, 0, 0), 0, 0, [])), (43, (.istore 0, 1, (3, 0, 0), 0, 0, [])), (44, (.aload 0, 1, (0, 0, 0), 0, 0, [])), (45, (.aload 0, 1, (0, 0, 0), 0, 0, [])), (46, (.getfield 0, 3, (7, 26, 56), 0, 0, [])), (49, (.invokevirtual 0, 3, (2, 233, 203), 0, 0, [])), (52, (.iload 0, 1, (3, 0, 0), 0, 0, [])), (53, (.ireturn, 1, (0, 0, 0), 0, 0, []))]]
set_option maxRecDepth 20000 in
def tX7_found : List (List (Nat × XE)) := [[(0, (.iload 0, 1, (1, 0, 0), 0, 0, [])), (1, (.invokevirtual 0, 3, (1, 144, 233), 0, 0, [])), (4, (.ifCond .ne 0, 3, (15, 0, 0), 0, 0, [])), (7, (.aload 0, 1, (0, 0, 0), 0, 0, [])), (8, (.iconst 0, 3, (0, 0, 0), (-1002), 0, [])), (11, (.invokevirtual 0, 3, (2, 138, 92), 0, 0, [])), (14, (.ireturn, 1, (0, 0, 0), 0, 0, [])), (15, (.aload 0, 1, (0, 0, 0), 0, 0, [])), (16, (.aload 0, 1, (0, 0, 0), 0, 0, [])), (17, (.getfield 0, 3, (7, 26, 56), 0, 0, [])), (20, (.invokevirtual 0, 3, (2, 232, 196), 0, 0, [])), (23, (.aload 0, 1, (0, 0, 0), 0, 0, [])), (24, (.iload 0, 1, (1, 0, 0), 0, 0, [])), (25, (.invokevirtual 0, 3, (2, 186, 236), 0, 0, [])), (28, (.istore 0, 1, (2, 0, 0), 0, 0, [])), (29, (.aload 0, 1, (0, 0, 0), 0, 0, [])), (30, (.aload 0, 1, (0, 0, 0), 0, 0, [])), (31, (.getfield 0, 3, (7, 26, 56), 0, 0, []))],
  [(34, (.invokevirtual 0, 3, (2, 233, 203), 0, 0, [])), (37, (.iload 0, 1, (2, 0, 0), 0, 0, [])), (38, (.ireturn, 1, (0, 0, 0), 0, 0, []))]]
set_option maxRecDepth 20000 in
def tX7_whenSo : List (List (Nat × XE)) := [[(0, (.aload 0, 1, (0, 0, 0), 0, 0, [])), (1, (.aload 0, 1, (0, 0, 0), 0, 0, [])), (2, (.getfield 0, 3, (7, 26, 56), 0, 0, [])), (5, (.invokevirtual 0, 3, (2, 232, 196), 0, 0, [])), (8, (.iconst 0, 1, (0, 0, 0), (-1), 0, [])), (9, (.istore 0, 2, (4, 0, 0), 0, 0, [])), (11, (.iconst 0, 1, (0, 0, 0), 0, 0, [])), (12, (.istore 0, 2, (5, 0, 0), 0, 0, [])), (14, (.iload 0, 2, (5, 0, 0), 0, 0, [])), (16, (.iconst 0, 2, (0, 0, 0), 60, 0, [])), (18, (.if_icmp .gt 0, 3, (58, 0, 0), 0, 0, [])), (21, (.iload 0, 2, (4, 0, 0), 0, 0, [])), (23, (.iconst 0, 1, (0, 0, 0), (-1), 0, [])), (24, (.if_icmp .ne 0, 3, (58, 0, 0), 0, 0, [])), (27, (.iload 0, 2, (5, 0, 0), 0, 0, [])), (29, (.ifCond .le 0, 3, (38, 0, 0), 0, 0, []))],
  [(32, (.aload 0, 1, (0, 0, 0), 0, 0, [])), (33, (.iload 0, 1, (3, 0, 0), 0, 0, [])), (34, (.invokevirtual 0, 3, (2, 185, 230), 0, 0, [])), (37, (.pop, 1, (0, 0, 0), 0, 0, [])), (38, (.aload 0, 1, (0, 0, 0), 0, 0, [])), (39, (.getfield 0, 3, (7, 9, 28), 0, 0, [])), (42, (.iload 0, 1, (1, 0, 0), 0, 0, [])), (43, (.iaload, 1, (0, 0, 0), 0, 0, [])), (44, (.iload 0, 1, (2, 0, 0), 0, 0, [])), (45, (.if_icmp .ne 0, 3, (52, 0, 0), 0, 0, [])), (48, (.iload 0, 2, (5, 0, 0), 0, 0, [])), (50, (.istore 0, 2, (4, 0, 0), 0, 0, [])), (52, (.iinc 0 0, 3, (5, 0, 0), 1, 0, [])), (55, (.goto 0, 3, (14, 0, 0), 0, 0, [])), (58, (.aload 0, 1, (0, 0, 0), 0, 0, [])), (59, (.aload 0, 1, (0, 0, 0), 0, 0, [])), (60, (.getfield 0, 3, (7, 26, 56), 0, 0, [])), (63, (.invokevirtual 0, 3, (2, 233, 203), 0, 0, []))],
  [(66, (.iload 0, 2, (4, 0, 0), 0, 0, [])), (68, (.ireturn, 1, (0, 0, 0), 0, 0, []))]]
set_option maxRecDepth 20000 in
def tX7_when : List (List (Nat × XE)) := [[(0, (.aload 0, 1, (0, 0, 0), 0, 0, [])), (1, (.iload 0, 1, (1, 0, 0), 0, 0, [])), (2, (.invokevirtual 0, 3, (2, 141, 106), 0, 0, [])), (5, (.ifCond .eq 0, 3, (21, 0, 0), 0, 0, [])), (8, (.aload 0, 1, (0, 0, 0), 0, 0, [])), (9, (.iload 0, 1, (1, 0, 0), 0, 0, [])), (10, (.iconst 0, 1, (0, 0, 0), 1, 0, [])), (11, (.aload 0, 1, (0, 0, 0), 0, 0, [])), (12, (.getfield 0, 3, (7, 4, 82), 0, 0, [])), (15, (.invokevirtual 0, 3, (4, 190, 239), 0, 0, [])), (18, (.goto 0, 3, (28, 0, 0), 0, 0, [])), (21, (.aload 0, 1, (0, 0, 0), 0, 0, [])), (22, (.iconst 0, 3, (0, 0, 0), (-1002), 0, [])), (25, (.invokevirtual 0, 3, (2, 138, 92), 0, 0, [])), (28, (.ireturn, 1, (0, 0, 0), 0, 0, []))]]
set_option maxRecDepth 20000 in
def tX7_breaks : List (List (Nat × XE)) := [[(0, (.aload 0, 1, (0, 0, 0), 0, 0, [])), (1, (.iload 0, 1, (1, 0, 0), 0, 0, [])), (2, (.invokevirtual 0, 3, (2, 141, 106), 0, 0, [])), (5, (.ifCond .eq 0, 3, (21, 0, 0), 0, 0, [])), (8, (.aload 0, 1, (0, 0, 0), 0, 0, [])), (9, (.iload 0, 1, (1, 0, 0), 0, 0, [])), (10, (.iconst 0, 1, (0, 0, 0), 2, 0, [])), (11, (.aload 0, 1, (0, 0, 0), 0, 0, [])), (12, (.getfield 0, 3, (7, 4, 82), 0, 0, [])), (15, (.invokevirtual 0, 3, (4, 190, 239), 0, 0, [])), (18, (.goto 0, 3, (28, 0, 0), 0, 0, [])), (21, (.aload 0, 1, (0, 0, 0), 0, 0, [])), (22, (.iconst 0, 3, (0, 0, 0), (-1002), 0, [])), (25, (.invokevirtual 0, 3, (2, 138, 92), 0, 0, [])), (28, (.ireturn, 1, (0, 0, 0), 0, 0, []))]]
set_option maxRecDepth 20000 in
def tX7_meet : List (List (Nat × XE)) := [[(0, (.aload 0, 1, (0, 0, 0), 0, 0, [])), (1, (.aload 0, 1, (0, 0, 0), 0, 0, [])), (2, (.getfield 0, 3, (7, 26, 56), 0, 0, [])), (5, (.invokevirtual 0, 3, (2, 232, 196), 0, 0, [])), (8, (.aload 0, 1, (0, 0, 0), 0, 0, [])), (9, (.getfield 0, 3, (7, 8, 25), 0, 0, [])), (12, (.iload 0, 1, (1, 0, 0), 0, 0, [])), (13, (.iconst 0, 1, (0, 0, 0), (-1), 0, [])), (14, (.iastore, 1, (0, 0, 0), 0, 0, [])), (15, (.iconst 0, 1, (0, 0, 0), (-1), 0, [])), (16, (.istore 0, 1, (3, 0, 0), 0, 0, [])), (17, (.iconst 0, 1, (0, 0, 0), 1, 0, [])), (18, (.istore 0, 2, (4, 0, 0), 0, 0, [])), (20, (.iload 0, 2, (4, 0, 0), 0, 0, [])), (22, (.iconst 0, 2, (0, 0, 0), 60, 0, [])), (24, (.if_icmp .gt 0, 3, (74, 0, 0), 0, 0, [])), (27, (.iload 0, 1, (3, 0, 0), 0, 0, [])), (28, (.iconst 0, 1, (0, 0, 0), (-1), 0, [])), (29, (.if_icmp .ne 0, 3, (74, 0, 0), 0, 0, []))],
  [(32, (.aload 0, 1, (0, 0, 0), 0, 0, [])), (33, (.aload 0, 1, (0, 0, 0), 0, 0, [])), (34, (.getfield 0, 3, (7, 4, 82), 0, 0, [])), (37, (.invokevirtual 0, 3, (2, 185, 230), 0, 0, [])), (40, (.pop, 1, (0, 0, 0), 0, 0, [])), (41, (.aload 0, 1, (0, 0, 0), 0, 0, [])), (42, (.getfield 0, 3, (7, 9, 28), 0, 0, [])), (45, (.iload 0, 1, (1, 0, 0), 0, 0, [])), (46, (.iaload, 1, (0, 0, 0), 0, 0, [])), (47, (.ifCond .ne 0, 3, (68, 0, 0), 0, 0, [])), (50, (.aload 0, 1, (0, 0, 0), 0, 0, [])), (51, (.getfield 0, 3, (7, 7, 22), 0, 0, [])), (54, (.iload 0, 1, (1, 0, 0), 0, 0, [])), (55, (.iaload, 1, (0, 0, 0), 0, 0, [])), (56, (.aload 0, 1, (0, 0, 0), 0, 0, [])), (57, (.getfield 0, 3, (7, 11, 31), 0, 0, [])), (60, (.iload 0, 1, (2, 0, 0), 0, 0, [])), (61, (.iaload, 1, (0, 0, 0), 0, 0, [])), (62, (.if_icmp .ne 0, 3, (68, 0, 0), 0, 0, []))],
  [(65, (.iload 0, 2, (4, 0, 0), 0, 0, [])), (67, (.istore 0, 1, (3, 0, 0), 0, 0, [])), (68, (.iinc 0 0, 3, (4, 0, 0), 1, 0, [])), (71, (.goto 0, 3, (20, 0, 0), 0, 0, [])), (74, (.aload 0, 1, (0, 0, 0), 0, 0, [])), (75, (.aload 0, 1, (0, 0, 0), 0, 0, [])), (76, (.getfield 0, 3, (7, 26, 56), 0, 0, [])), (79, (.invokevirtual 0, 3, (2, 233, 203), 0, 0, [])), (82, (.iload 0, 1, (3, 0, 0), 0, 0, [])), (83, (.ireturn, 1, (0, 0, 0), 0, 0, []))]]
set_option maxRecDepth 20000 in
def tX7_meets : List (List (Nat × XE)) := [[(0, (.aload 0, 1, (0, 0, 0), 0, 0, [])), (1, (.iload 0, 1, (1, 0, 0), 0, 0, [])), (2, (.invokevirtual 0, 3, (2, 141, 106), 0, 0, [])), (5, (.ifCond .eq 0, 3, (25, 0, 0), 0, 0, [])), (8, (.aload 0, 1, (0, 0, 0), 0, 0, [])), (9, (.iload 0, 1, (2, 0, 0), 0, 0, [])), (10, (.invokevirtual 0, 3, (2, 142, 123), 0, 0, [])), (13, (.ifCond .eq 0, 3, (25, 0, 0), 0, 0, [])), (16, (.aload 0, 1, (0, 0, 0), 0, 0, [])), (17, (.iload 0, 1, (1, 0, 0), 0, 0, [])), (18, (.iload 0, 1, (2, 0, 0), 0, 0, [])), (19, (.invokevirtual 0, 3, (3, 193, 242), 0, 0, [])), (22, (.goto 0, 3, (32, 0, 0), 0, 0, [])), (25, (.aload 0, 1, (0, 0, 0), 0, 0, [])), (26, (.iconst 0, 3, (0, 0, 0), (-1002), 0, [])), (29, (.invokevirtual 0, 3, (2, 138, 92), 0, 0, []))],
  [(32, (.ireturn, 1, (0, 0, 0), 0, 0, []))]]
set_option maxRecDepth 20000 in
def tX7_finder : List (List (Nat × XE)) := [[(0, (.aload 0, 1, (0, 0, 0), 0, 0, [])), (1, (.iload 0, 1, (1, 0, 0), 0, 0, [])), (2, (.invokevirtual 0, 3, (2, 141, 106), 0, 0, [])), (5, (.ifCond .ne 0, 3, (16, 0, 0), 0, 0, [])), (8, (.aload 0, 1, (0, 0, 0), 0, 0, [])), (9, (.iconst 0, 3, (0, 0, 0), (-1002), 0, [])), (12, (.invokevirtual 0, 3, (2, 138, 92), 0, 0, [])), (15, (.ireturn, 1, (0, 0, 0), 0, 0, [])), (16, (.iconst 0, 1, (0, 0, 0), (-1), 0, [])), (17, (.istore 0, 1, (2, 0, 0), 0, 0, [])), (18, (.iconst 0, 1, (0, 0, 0), 0, 0, [])), (19, (.istore 0, 1, (3, 0, 0), 0, 0, [])), (20, (.iload 0, 1, (3, 0, 0), 0, 0, [])), (21, (.aload 0, 1, (0, 0, 0), 0, 0, [])), (22, (.getfield 0, 3, (7, 10, 85), 0, 0, [])), (25, (.if_icmp .ge 0, 3, (66, 0, 0), 0, 0, [])), (28, (.aload 0, 1, (0, 0, 0), 0, 0, [])), (29, (.iload 0, 1, (1, 0, 0), 0, 0, [])), (30, (.iload 0, 1, (3, 0, 0), 0, 0, [])), (31, (.invokevirtual 0, 3, (3, 193, 242), 0, 0, []))],
  [(34, (.istore 0, 2, (4, 0, 0), 0, 0, [])), (36, (.iload 0, 2, (4, 0, 0), 0, 0, [])), (38, (.iconst 0, 1, (0, 0, 0), (-1), 0, [])), (39, (.if_icmp .eq 0, 3, (60, 0, 0), 0, 0, [])), (42, (.iload 0, 1, (2, 0, 0), 0, 0, [])), (43, (.iconst 0, 1, (0, 0, 0), (-1), 0, [])), (44, (.if_icmp .eq 0, 3, (58, 0, 0), 0, 0, [])), (47, (.iload 0, 2, (4, 0, 0), 0, 0, [])), (49, (.aload 0, 1, (0, 0, 0), 0, 0, [])), (50, (.iload 0, 1, (1, 0, 0), 0, 0, [])), (51, (.iload 0, 1, (2, 0, 0), 0, 0, [])), (52, (.invokevirtual 0, 3, (3, 193, 242), 0, 0, [])), (55, (.if_icmp .ge 0, 3, (60, 0, 0), 0, 0, [])), (58, (.iload 0, 1, (3, 0, 0), 0, 0, [])), (59, (.istore 0, 1, (2, 0, 0), 0, 0, [])), (60, (.iinc 0 0, 3, (3, 0, 0), 1, 0, [])), (63, (.goto 0, 3, (20, 0, 0), 0, 0, []))],
  [(66, (.iload 0, 1, (2, 0, 0), 0, 0, [])), (67, (.ireturn, 1, (0, 0, 0), 0, 0, []))]]
set_option maxRecDepth 20000 in
def tX7_two : List (List (Nat × XE)) := [[(0, (.aload 0, 1, (0, 0, 0), 0, 0, [])), (1, (.iload 0, 1, (1, 0, 0), 0, 0, [])), (2, (.invokevirtual 0, 3, (2, 142, 123), 0, 0, [])), (5, (.ifCond .eq 0, 3, (21, 0, 0), 0, 0, [])), (8, (.aload 0, 1, (0, 0, 0), 0, 0, [])), (9, (.iload 0, 1, (2, 0, 0), 0, 0, [])), (10, (.invokevirtual 0, 3, (2, 142, 123), 0, 0, [])), (13, (.ifCond .eq 0, 3, (21, 0, 0), 0, 0, [])), (16, (.iload 0, 1, (1, 0, 0), 0, 0, [])), (17, (.iload 0, 1, (2, 0, 0), 0, 0, [])), (18, (.if_icmp .ne 0, 3, (29, 0, 0), 0, 0, [])), (21, (.aload 0, 1, (0, 0, 0), 0, 0, [])), (22, (.iconst 0, 3, (0, 0, 0), (-1002), 0, [])), (25, (.invokevirtual 0, 3, (2, 138, 92), 0, 0, [])), (28, (.ireturn, 1, (0, 0, 0), 0, 0, [])), (29, (.aload 0, 1, (0, 0, 0), 0, 0, [])), (30, (.aload 0, 1, (0, 0, 0), 0, 0, [])), (31, (.getfield 0, 3, (7, 26, 56), 0, 0, []))],
  [(34, (.invokevirtual 0, 3, (2, 232, 196), 0, 0, [])), (37, (.iconst 0, 1, (0, 0, 0), (-1), 0, [])), (38, (.istore 0, 1, (3, 0, 0), 0, 0, [])), (39, (.iconst 0, 1, (0, 0, 0), 0, 0, [])), (40, (.istore 0, 2, (4, 0, 0), 0, 0, [])), (42, (.iload 0, 2, (4, 0, 0), 0, 0, [])), (44, (.iconst 0, 2, (0, 0, 0), 60, 0, [])), (46, (.if_icmp .gt 0, 3, (89, 0, 0), 0, 0, [])), (49, (.iload 0, 1, (3, 0, 0), 0, 0, [])), (50, (.iconst 0, 1, (0, 0, 0), (-1), 0, [])), (51, (.if_icmp .ne 0, 3, (89, 0, 0), 0, 0, [])), (54, (.iload 0, 2, (4, 0, 0), 0, 0, [])), (56, (.ifCond .le 0, 3, (65, 0, 0), 0, 0, [])), (59, (.aload 0, 1, (0, 0, 0), 0, 0, [])), (60, (.iconst 0, 1, (0, 0, 0), 0, 0, [])), (61, (.invokevirtual 0, 3, (2, 185, 230), 0, 0, []))],
  [(64, (.pop, 1, (0, 0, 0), 0, 0, [])), (65, (.aload 0, 1, (0, 0, 0), 0, 0, [])), (66, (.getfield 0, 3, (7, 11, 31), 0, 0, [])), (69, (.iload 0, 1, (1, 0, 0), 0, 0, [])), (70, (.iaload, 1, (0, 0, 0), 0, 0, [])), (71, (.aload 0, 1, (0, 0, 0), 0, 0, [])), (72, (.getfield 0, 3, (7, 11, 31), 0, 0, [])), (75, (.iload 0, 1, (2, 0, 0), 0, 0, [])), (76, (.iaload, 1, (0, 0, 0), 0, 0, [])), (77, (.if_icmp .ne 0, 3, (83, 0, 0), 0, 0, [])), (80, (.iload 0, 2, (4, 0, 0), 0, 0, [])), (82, (.istore 0, 1, (3, 0, 0), 0, 0, [])), (83, (.iinc 0 0, 3, (4, 0, 0), 1, 0, [])), (86, (.goto 0, 3, (42, 0, 0), 0, 0, [])), (89, (.aload 0, 1, (0, 0, 0), 0, 0, [])), (90, (.aload 0, 1, (0, 0, 0), 0, 0, [])), (91, (.getfield 0, 3, (7, 26, 56), 0, 0, [])), (94, (.invokevirtual 0, 3, (2, 233, 203), 0, 0, []))],
  [(97, (.iload 0, 1, (3, 0, 0), 0, 0, [])), (98, (.ireturn, 1, (0, 0, 0), 0, 0, []))]]
set_option maxRecDepth 20000 in
def tX7_whenThrown : List (List (Nat × XE)) := [[(0, (.aload 0, 1, (0, 0, 0), 0, 0, [])), (1, (.iconst 0, 2, (0, 0, 0), 8, 0, [])), (3, (.iload 0, 1, (1, 0, 0), 0, 0, [])), (4, (.iload 0, 1, (2, 0, 0), 0, 0, [])), (5, (.iload 0, 1, (3, 0, 0), 0, 0, [])), (6, (.iload 0, 2, (4, 0, 0), 0, 0, [])), (8, (.invokevirtual 0, 3, (6, 163, 129), 0, 0, [])), (11, (.aload 0, 1, (0, 0, 0), 0, 0, [])), (12, (.iconst 0, 2, (0, 0, 0), 8, 0, [])), (14, (.iconst 0, 1, (0, 0, 0), 1, 0, [])), (15, (.iconst 0, 2, (0, 0, 0), 9, 0, [])), (17, (.invokevirtual 0, 3, (4, 190, 239), 0, 0, [])), (20, (.ireturn, 1, (0, 0, 0), 0, 0, []))]]
set_option maxRecDepth 20000 in
def tX7_aim : List (List (Nat × XE)) := [[(0, (.iload 0, 1, (1, 0, 0), 0, 0, [])), (1, (.iload 0, 1, (2, 0, 0), 0, 0, [])), (2, (.invokevirtual 0, 3, (2, 143, 126), 0, 0, [])), (5, (.ifCond .eq 0, 3, (26, 0, 0), 0, 0, [])), (8, (.aload 0, 1, (0, 0, 0), 0, 0, [])), (9, (.iload 0, 1, (3, 0, 0), 0, 0, [])), (10, (.invokevirtual 0, 3, (2, 142, 123), 0, 0, [])), (13, (.ifCond .eq 0, 3, (26, 0, 0), 0, 0, [])), (16, (.iload 0, 2, (4, 0, 0), 0, 0, [])), (18, (.iconst 0, 1, (0, 0, 0), 0, 0, [])), (19, (.iconst 0, 1, (0, 0, 0), 1, 0, [])), (20, (.invokevirtual 0, 3, (3, 139, 78), 0, 0, [])), (23, (.ifCond .ne 0, 3, (34, 0, 0), 0, 0, [])), (26, (.aload 0, 1, (0, 0, 0), 0, 0, [])), (27, (.iconst 0, 3, (0, 0, 0), (-1002), 0, [])), (30, (.invokevirtual 0, 3, (2, 138, 92), 0, 0, []))],
  [(33, (.ireturn, 1, (0, 0, 0), 0, 0, [])), (34, (.iconst 0, 1, (0, 0, 0), (-1), 0, [])), (35, (.istore 0, 2, (5, 0, 0), 0, 0, [])), (37, (.iconst 0, 2, (0, 0, 0), 61, 0, [])), (39, (.istore 0, 2, (6, 0, 0), 0, 0, [])), (41, (.iconst 0, 1, (0, 0, 0), 0, 0, [])), (42, (.istore 0, 2, (7, 0, 0), 0, 0, [])), (44, (.iload 0, 2, (7, 0, 0), 0, 0, [])), (46, (.aload 0, 1, (0, 0, 0), 0, 0, [])), (47, (.getfield 0, 3, (7, 0, 71), 0, 0, [])), (50, (.if_icmp .ge 0, 3, (94, 0, 0), 0, 0, [])), (53, (.aload 0, 1, (0, 0, 0), 0, 0, [])), (54, (.iload 0, 1, (1, 0, 0), 0, 0, [])), (55, (.iload 0, 1, (2, 0, 0), 0, 0, [])), (56, (.iload 0, 2, (7, 0, 0), 0, 0, [])), (58, (.iload 0, 1, (3, 0, 0), 0, 0, [])), (59, (.invokevirtual 0, 3, (5, 197, 245), 0, 0, [])), (62, (.istore 0, 2, (8, 0, 0), 0, 0, []))],
  [(64, (.iload 0, 2, (8, 0, 0), 0, 0, [])), (66, (.iconst 0, 1, (0, 0, 0), (-1), 0, [])), (67, (.if_icmp .eq 0, 3, (88, 0, 0), 0, 0, [])), (70, (.iload 0, 2, (8, 0, 0), 0, 0, [])), (72, (.iload 0, 2, (6, 0, 0), 0, 0, [])), (74, (.if_icmp .lt 0, 3, (80, 0, 0), 0, 0, [])), (77, (.goto 0, 3, (88, 0, 0), 0, 0, [])), (80, (.iload 0, 2, (8, 0, 0), 0, 0, [])), (82, (.istore 0, 2, (6, 0, 0), 0, 0, [])), (84, (.iload 0, 2, (7, 0, 0), 0, 0, [])), (86, (.istore 0, 2, (5, 0, 0), 0, 0, [])), (88, (.iinc 0 0, 3, (7, 0, 0), 1, 0, [])), (91, (.goto 0, 3, (44, 0, 0), 0, 0, [])), (94, (.iload 0, 2, (4, 0, 0), 0, 0, []))],
  [(96, (.ifCond .eq 0, 3, (105, 0, 0), 0, 0, [])), (99, (.iload 0, 2, (5, 0, 0), 0, 0, [])), (101, (.iconst 0, 1, (0, 0, 0), (-1), 0, [])), (102, (.if_icmp .ne 0, 3, (110, 0, 0), 0, 0, [])), (105, (.iload 0, 2, (5, 0, 0), 0, 0, [])), (107, (.goto 0, 3, (112, 0, 0), 0, 0, [])), (110, (.iload 0, 2, (6, 0, 0), 0, 0, [])), (112, (.ireturn, 1, (0, 0, 0), 0, 0, []))]]
set_option maxRecDepth 20000 in
def tX7_foundFor : List (List (Nat × XE)) := [[(0, (.aload 0, 1, (0, 0, 0), 0, 0, [])), (1, (.aload 0, 1, (0, 0, 0), 0, 0, [])), (2, (.getfield 0, 3, (7, 26, 56), 0, 0, [])), (5, (.invokevirtual 0, 3, (2, 232, 196), 0, 0, [])), (8, (.iconst 0, 1, (0, 0, 0), 0, 0, [])), (9, (.istore 0, 1, (3, 0, 0), 0, 0, [])), (10, (.iconst 0, 1, (0, 0, 0), 0, 0, [])), (11, (.istore 0, 2, (4, 0, 0), 0, 0, [])), (13, (.iconst 0, 1, (0, 0, 0), 0, 0, [])), (14, (.istore 0, 2, (5, 0, 0), 0, 0, [])), (16, (.iload 0, 2, (5, 0, 0), 0, 0, [])), (18, (.aload 0, 1, (0, 0, 0), 0, 0, [])), (19, (.getfield 0, 3, (7, 4, 82), 0, 0, [])), (22, (.if_icmp .ge 0, 3, (56, 0, 0), 0, 0, [])), (25, (.aload 0, 1, (0, 0, 0), 0, 0, [])), (26, (.getfield 0, 3, (7, 8, 25), 0, 0, [])), (29, (.iload 0, 2, (5, 0, 0), 0, 0, [])), (31, (.iaload, 1, (0, 0, 0), 0, 0, []))],
  [(32, (.iload 0, 1, (1, 0, 0), 0, 0, [])), (33, (.if_icmp .ne 0, 3, (50, 0, 0), 0, 0, [])), (36, (.aload 0, 1, (0, 0, 0), 0, 0, [])), (37, (.getfield 0, 3, (7, 9, 28), 0, 0, [])), (40, (.iload 0, 2, (5, 0, 0), 0, 0, [])), (42, (.iaload, 1, (0, 0, 0), 0, 0, [])), (43, (.iconst 0, 1, (0, 0, 0), 1, 0, [])), (44, (.if_icmp .ne 0, 3, (50, 0, 0), 0, 0, [])), (47, (.iinc 0 0, 3, (3, 0, 0), 1, 0, [])), (50, (.iinc 0 0, 3, (5, 0, 0), 1, 0, [])), (53, (.goto 0, 3, (16, 0, 0), 0, 0, [])), (56, (.aload 0, 1, (0, 0, 0), 0, 0, [])), (57, (.iload 0, 1, (2, 0, 0), 0, 0, [])), (58, (.invokevirtual 0, 3, (2, 186, 236), 0, 0, [])), (61, (.pop, 1, (0, 0, 0), 0, 0, [])), (62, (.iconst 0, 1, (0, 0, 0), 0, 0, [])), (63, (.istore 0, 2, (5, 0, 0), 0, 0, []))],
  [(65, (.iload 0, 2, (5, 0, 0), 0, 0, [])), (67, (.aload 0, 1, (0, 0, 0), 0, 0, [])), (68, (.getfield 0, 3, (7, 4, 82), 0, 0, [])), (71, (.if_icmp .ge 0, 3, (105, 0, 0), 0, 0, [])), (74, (.aload 0, 1, (0, 0, 0), 0, 0, [])), (75, (.getfield 0, 3, (7, 8, 25), 0, 0, [])), (78, (.iload 0, 2, (5, 0, 0), 0, 0, [])), (80, (.iaload, 1, (0, 0, 0), 0, 0, [])), (81, (.iload 0, 1, (1, 0, 0), 0, 0, [])), (82, (.if_icmp .ne 0, 3, (99, 0, 0), 0, 0, [])), (85, (.aload 0, 1, (0, 0, 0), 0, 0, [])), (86, (.getfield 0, 3, (7, 9, 28), 0, 0, [])), (89, (.iload 0, 2, (5, 0, 0), 0, 0, [])), (91, (.iaload, 1, (0, 0, 0), 0, 0, [])), (92, (.iconst 0, 1, (0, 0, 0), 1, 0, [])), (93, (.if_icmp .ne 0, 3, (99, 0, 0), 0, 0, []))],
  [(96, (.iinc 0 0, 3, (4, 0, 0), 1, 0, [])), (99, (.iinc 0 0, 3, (5, 0, 0), 1, 0, [])), (102, (.goto 0, 3, (65, 0, 0), 0, 0, [])), (105, (.aload 0, 1, (0, 0, 0), 0, 0, [])), (106, (.aload 0, 1, (0, 0, 0), 0, 0, [])), (107, (.getfield 0, 3, (7, 26, 56), 0, 0, [])), (110, (.invokevirtual 0, 3, (2, 233, 203), 0, 0, [])), (113, (.iload 0, 2, (4, 0, 0), 0, 0, [])), (115, (.iload 0, 1, (3, 0, 0), 0, 0, [])), (116, (.isub, 1, (0, 0, 0), 0, 0, [])), (117, (.ireturn, 1, (0, 0, 0), 0, 0, []))]]
set_option maxRecDepth 20000 in
def tX7_walk : List (List (Nat × XE)) := [[(0, (.aload 0, 1, (0, 0, 0), 0, 0, [])), (1, (.iload 0, 1, (1, 0, 0), 0, 0, [])), (2, (.invokevirtual 0, 3, (2, 142, 123), 0, 0, [])), (5, (.ifCond .eq 0, 3, (27, 0, 0), 0, 0, [])), (8, (.iload 0, 1, (2, 0, 0), 0, 0, [])), (9, (.iconst 0, 1, (0, 0, 0), 1, 0, [])), (10, (.iconst 0, 2, (0, 0, 0), 30, 0, [])), (12, (.invokevirtual 0, 3, (3, 139, 78), 0, 0, [])), (15, (.ifCond .eq 0, 3, (27, 0, 0), 0, 0, [])), (18, (.iload 0, 1, (3, 0, 0), 0, 0, [])), (19, (.iconst 0, 1, (0, 0, 0), 0, 0, [])), (20, (.iconst 0, 1, (0, 0, 0), 1, 0, [])), (21, (.invokevirtual 0, 3, (3, 139, 78), 0, 0, [])), (24, (.ifCond .ne 0, 3, (35, 0, 0), 0, 0, [])), (27, (.aload 0, 1, (0, 0, 0), 0, 0, [])), (28, (.iconst 0, 3, (0, 0, 0), (-1002), 0, [])), (31, (.invokevirtual 0, 3, (2, 138, 92), 0, 0, []))],
  [(34, (.ireturn, 1, (0, 0, 0), 0, 0, [])), (35, (.aload 0, 1, (0, 0, 0), 0, 0, [])), (36, (.getfield 0, 3, (7, 11, 31), 0, 0, [])), (39, (.iconst 0, 2, (0, 0, 0), 6, 0, [])), (41, (.iload 0, 1, (1, 0, 0), 0, 0, [])), (42, (.iadd, 1, (0, 0, 0), 0, 0, [])), (43, (.iaload, 1, (0, 0, 0), 0, 0, [])), (44, (.istore 0, 2, (4, 0, 0), 0, 0, [])), (46, (.aload 0, 1, (0, 0, 0), 0, 0, [])), (47, (.getfield 0, 3, (7, 11, 31), 0, 0, [])), (50, (.iconst 0, 2, (0, 0, 0), 12, 0, [])), (52, (.iload 0, 1, (1, 0, 0), 0, 0, [])), (53, (.iadd, 1, (0, 0, 0), 0, 0, [])), (54, (.iaload, 1, (0, 0, 0), 0, 0, [])), (55, (.istore 0, 2, (5, 0, 0), 0, 0, [])), (57, (.iconst 0, 1, (0, 0, 0), (-1), 0, [])), (58, (.istore 0, 2, (6, 0, 0), 0, 0, [])), (60, (.iconst 0, 1, (0, 0, 0), (-1), 0, [])), (61, (.istore 0, 2, (7, 0, 0), 0, 0, [])), (63, (.iconst 0, 1, (0, 0, 0), 0, 0, []))],
  [(64, (.istore 0, 2, (8, 0, 0), 0, 0, [])), (66, (.iload 0, 2, (8, 0, 0), 0, 0, [])), (68, (.iconst 0, 2, (0, 0, 0), 8, 0, [])), (70, (.if_icmp .ge 0, 3, (141, 0, 0), 0, 0, [])), (73, (.aload 0, 1, (0, 0, 0), 0, 0, [])), (74, (.getfield 0, 3, (7, 11, 31), 0, 0, [])), (77, (.iconst 0, 2, (0, 0, 0), 6, 0, [])), (79, (.iload 0, 1, (1, 0, 0), 0, 0, [])), (80, (.iadd, 1, (0, 0, 0), 0, 0, [])), (81, (.iload 0, 2, (8, 0, 0), 0, 0, [])), (83, (.iconst 0, 1, (0, 0, 0), 2, 0, [])), (84, (.idiv, 1, (0, 0, 0), 0, 0, [])), (85, (.iastore, 1, (0, 0, 0), 0, 0, [])), (86, (.aload 0, 1, (0, 0, 0), 0, 0, [])), (87, (.getfield 0, 3, (7, 11, 31), 0, 0, [])), (90, (.iconst 0, 2, (0, 0, 0), 12, 0, [])), (92, (.iload 0, 1, (1, 0, 0), 0, 0, [])), (93, (.iadd, 1, (0, 0, 0), 0, 0, [])), (94, (.iload 0, 2, (8, 0, 0), 0, 0, []))],
  [(96, (.iconst 0, 1, (0, 0, 0), 2, 0, [])), (97, (.irem, 1, (0, 0, 0), 0, 0, [])), (98, (.iastore, 1, (0, 0, 0), 0, 0, [])), (99, (.aload 0, 1, (0, 0, 0), 0, 0, [])), (100, (.iload 0, 1, (1, 0, 0), 0, 0, [])), (101, (.iload 0, 1, (2, 0, 0), 0, 0, [])), (102, (.invokevirtual 0, 3, (3, 199, 249), 0, 0, [])), (105, (.istore 0, 2, (9, 0, 0), 0, 0, [])), (107, (.iload 0, 2, (9, 0, 0), 0, 0, [])), (109, (.iload 0, 2, (7, 0, 0), 0, 0, [])), (111, (.if_icmp .gt 0, 3, (117, 0, 0), 0, 0, [])), (114, (.goto 0, 3, (135, 0, 0), 0, 0, [])), (117, (.iload 0, 2, (9, 0, 0), 0, 0, [])), (119, (.istore 0, 2, (7, 0, 0), 0, 0, [])), (121, (.iconst 0, 2, (0, 0, 0), 10, 0, [])), (123, (.iload 0, 2, (8, 0, 0), 0, 0, [])), (125, (.iconst 0, 1, (0, 0, 0), 2, 0, [])), (126, (.idiv, 1, (0, 0, 0), 0, 0, [])), (127, (.imul, 1, (0, 0, 0), 0, 0, []))],
  [(128, (.iload 0, 2, (8, 0, 0), 0, 0, [])), (130, (.iconst 0, 1, (0, 0, 0), 2, 0, [])), (131, (.irem, 1, (0, 0, 0), 0, 0, [])), (132, (.iadd, 1, (0, 0, 0), 0, 0, [])), (133, (.istore 0, 2, (6, 0, 0), 0, 0, [])), (135, (.iinc 0 0, 3, (8, 0, 0), 1, 0, [])), (138, (.goto 0, 3, (66, 0, 0), 0, 0, [])), (141, (.aload 0, 1, (0, 0, 0), 0, 0, [])), (142, (.getfield 0, 3, (7, 11, 31), 0, 0, [])), (145, (.iconst 0, 2, (0, 0, 0), 6, 0, [])), (147, (.iload 0, 1, (1, 0, 0), 0, 0, [])), (148, (.iadd, 1, (0, 0, 0), 0, 0, [])), (149, (.iload 0, 2, (4, 0, 0), 0, 0, [])), (151, (.iastore, 1, (0, 0, 0), 0, 0, [])), (152, (.aload 0, 1, (0, 0, 0), 0, 0, [])), (153, (.getfield 0, 3, (7, 11, 31), 0, 0, [])), (156, (.iconst 0, 2, (0, 0, 0), 12, 0, [])), (158, (.iload 0, 1, (1, 0, 0), 0, 0, [])), (159, (.iadd, 1, (0, 0, 0), 0, 0, []))],
  [(160, (.iload 0, 2, (5, 0, 0), 0, 0, [])), (162, (.iastore, 1, (0, 0, 0), 0, 0, [])), (163, (.iload 0, 1, (3, 0, 0), 0, 0, [])), (164, (.ifCond .ne 0, 3, (172, 0, 0), 0, 0, [])), (167, (.iload 0, 2, (6, 0, 0), 0, 0, [])), (169, (.goto 0, 3, (174, 0, 0), 0, 0, [])), (172, (.iload 0, 2, (7, 0, 0), 0, 0, [])), (174, (.ireturn, 1, (0, 0, 0), 0, 0, []))]]
set_option maxRecDepth 20000 in
def tX7_toldAt : List (List (Nat × XE)) := [[(0, (.aload 0, 1, (0, 0, 0), 0, 0, [])), (1, (.getfield 0, 3, (7, 21, 43), 0, 0, [])), (4, (.iconst 0, 2, (0, 0, 0), 40, 0, [])), (6, (.iload 0, 1, (1, 0, 0), 0, 0, [])), (7, (.imul, 1, (0, 0, 0), 0, 0, [])), (8, (.iload 0, 1, (2, 0, 0), 0, 0, [])), (9, (.iadd, 1, (0, 0, 0), 0, 0, [])), (10, (.laload, 1, (0, 0, 0), 0, 0, [])), (11, (.lreturn, 1, (0, 0, 0), 0, 0, []))]]
set_option maxRecDepth 20000 in
def tX7_noTold : List (List (Nat × XE)) := [[(0, (.aload 0, 1, (0, 0, 0), 0, 0, [])), (1, (.iload 0, 1, (1, 0, 0), 0, 0, [])), (2, (.invokevirtual 0, 3, (2, 146, 96), 0, 0, [])), (5, (.ifCond .ne 0, 3, (16, 0, 0), 0, 0, [])), (8, (.aload 0, 1, (0, 0, 0), 0, 0, [])), (9, (.iload 0, 1, (1, 0, 0), 0, 0, [])), (10, (.invokevirtual 0, 3, (2, 148, 99), 0, 0, [])), (13, (.goto 0, 3, (33, 0, 0), 0, 0, [])), (16, (.iload 0, 1, (2, 0, 0), 0, 0, [])), (17, (.aload 0, 1, (0, 0, 0), 0, 0, [])), (18, (.getfield 0, 3, (7, 20, 40), 0, 0, [])), (21, (.iload 0, 1, (1, 0, 0), 0, 0, [])), (22, (.iaload, 1, (0, 0, 0), 0, 0, [])), (23, (.if_icmp .le 0, 3, (32, 0, 0), 0, 0, [])), (26, (.iconst 0, 3, (0, 0, 0), (-1002), 0, [])), (29, (.goto 0, 3, (33, 0, 0), 0, 0, []))],
  [(32, (.iconst 0, 1, (0, 0, 0), 0, 0, [])), (33, (.ireturn, 1, (0, 0, 0), 0, 0, []))]]
set_option maxRecDepth 20000 in
def tX7_goesSo : List (List (Nat × XE)) := [[(0, (.aload 0, 1, (0, 0, 0), 0, 0, [])), (1, (.aload 0, 1, (0, 0, 0), 0, 0, [])), (2, (.getfield 0, 3, (7, 26, 56), 0, 0, [])), (5, (.invokevirtual 0, 3, (2, 232, 196), 0, 0, [])), (8, (.aload 0, 1, (0, 0, 0), 0, 0, [])), (9, (.iload 0, 1, (1, 0, 0), 0, 0, [])), (10, (.iconst 0, 1, (0, 0, 0), 0, 0, [])), (11, (.invokevirtual 0, 3, (3, 201, 252), 0, 0, [])), (14, (.lconst 0, 1, (0, 0, 0), 0, 0, [])), (15, (.lcmp, 1, (0, 0, 0), 0, 0, [])), (16, (.ifCond .lt 0, 3, (38, 0, 0), 0, 0, [])), (19, (.aload 0, 1, (0, 0, 0), 0, 0, [])), (20, (.iload 0, 1, (1, 0, 0), 0, 0, [])), (21, (.iconst 0, 1, (0, 0, 0), 0, 0, [])), (22, (.invokevirtual 0, 3, (3, 201, 252), 0, 0, [])), (25, (.aload 0, 1, (0, 0, 0), 0, 0, [])), (26, (.getfield 0, 3, (7, 0, 71), 0, 0, [])), (29, (.i2l, 1, (0, 0, 0), 0, 0, [])), (30, (.lcmp, 1, (0, 0, 0), 0, 0, [])), (31, (.ifCond .ge 0, 3, (38, 0, 0), 0, 0, []))],
  [(34, (.iconst 0, 1, (0, 0, 0), 1, 0, [])), (35, (.goto 0, 3, (39, 0, 0), 0, 0, [])), (38, (.iconst 0, 1, (0, 0, 0), 0, 0, [])), (39, (.istore 0, 2, (4, 0, 0), 0, 0, [])), (41, (.iload 0, 2, (4, 0, 0), 0, 0, [])), (43, (.ifCond .eq 0, 3, (71, 0, 0), 0, 0, [])), (46, (.aload 0, 1, (0, 0, 0), 0, 0, [])), (47, (.iload 0, 1, (3, 0, 0), 0, 0, [])), (48, (.aload 0, 1, (0, 0, 0), 0, 0, [])), (49, (.getfield 0, 3, (7, 5, 16), 0, 0, [])), (52, (.iload 0, 1, (3, 0, 0), 0, 0, [])), (53, (.iaload, 1, (0, 0, 0), 0, 0, [])), (54, (.aload 0, 1, (0, 0, 0), 0, 0, [])), (55, (.getfield 0, 3, (7, 6, 19), 0, 0, [])), (58, (.iload 0, 1, (3, 0, 0), 0, 0, [])), (59, (.iaload, 1, (0, 0, 0), 0, 0, [])), (60, (.aload 0, 1, (0, 0, 0), 0, 0, [])), (61, (.iload 0, 1, (1, 0, 0), 0, 0, [])), (62, (.iconst 0, 1, (0, 0, 0), 0, 0, [])), (63, (.invokevirtual 0, 3, (3, 201, 252), 0, 0, []))],
  [(66, (.l2i, 1, (0, 0, 0), 0, 0, [])), (67, (.iconst 0, 1, (0, 0, 0), (-1), 0, [])), (68, (.invokevirtual 0, 3, (6, 163, 129), 0, 0, [])), (71, (.iconst 0, 1, (0, 0, 0), 1, 0, [])), (72, (.istore 0, 2, (5, 0, 0), 0, 0, [])), (74, (.iload 0, 2, (5, 0, 0), 0, 0, [])), (76, (.iload 0, 1, (2, 0, 0), 0, 0, [])), (77, (.if_icmp .ge 0, 3, (134, 0, 0), 0, 0, [])), (80, (.iload 0, 2, (4, 0, 0), 0, 0, [])), (82, (.ifCond .eq 0, 3, (134, 0, 0), 0, 0, [])), (85, (.aload 0, 1, (0, 0, 0), 0, 0, [])), (86, (.aload 0, 1, (0, 0, 0), 0, 0, [])), (87, (.getfield 0, 3, (7, 4, 82), 0, 0, [])), (90, (.invokevirtual 0, 3, (2, 185, 230), 0, 0, [])), (93, (.pop, 1, (0, 0, 0), 0, 0, [])), (94, (.aload 0, 1, (0, 0, 0), 0, 0, [])), (95, (.getfield 0, 3, (7, 9, 28), 0, 0, []))],
  [(98, (.iload 0, 1, (3, 0, 0), 0, 0, [])), (99, (.iaload, 1, (0, 0, 0), 0, 0, [])), (100, (.ifCond .ne 0, 3, (125, 0, 0), 0, 0, [])), (103, (.aload 0, 1, (0, 0, 0), 0, 0, [])), (104, (.getfield 0, 3, (7, 7, 22), 0, 0, [])), (107, (.iload 0, 1, (3, 0, 0), 0, 0, [])), (108, (.iaload, 1, (0, 0, 0), 0, 0, [])), (109, (.i2l, 1, (0, 0, 0), 0, 0, [])), (110, (.aload 0, 1, (0, 0, 0), 0, 0, [])), (111, (.iload 0, 1, (1, 0, 0), 0, 0, [])), (112, (.iload 0, 2, (5, 0, 0), 0, 0, [])), (114, (.invokevirtual 0, 3, (3, 201, 252), 0, 0, [])), (117, (.lcmp, 1, (0, 0, 0), 0, 0, [])), (118, (.ifCond .ne 0, 3, (125, 0, 0), 0, 0, [])), (121, (.iconst 0, 1, (0, 0, 0), 1, 0, [])), (122, (.goto 0, 3, (126, 0, 0), 0, 0, [])), (125, (.iconst 0, 1, (0, 0, 0), 0, 0, [])), (126, (.istore 0, 2, (4, 0, 0), 0, 0, []))],
  [(128, (.iinc 0 0, 3, (5, 0, 0), 1, 0, [])), (131, (.goto 0, 3, (74, 0, 0), 0, 0, [])), (134, (.aload 0, 1, (0, 0, 0), 0, 0, [])), (135, (.aload 0, 1, (0, 0, 0), 0, 0, [])), (136, (.getfield 0, 3, (7, 26, 56), 0, 0, [])), (139, (.invokevirtual 0, 3, (2, 233, 203), 0, 0, [])), (142, (.iload 0, 2, (4, 0, 0), 0, 0, [])), (144, (.ireturn, 1, (0, 0, 0), 0, 0, []))]]
set_option maxRecDepth 20000 in
def tX7_fits : List (List (Nat × XE)) := [[(0, (.iload 0, 1, (1, 0, 0), 0, 0, [])), (1, (.invokevirtual 0, 3, (1, 145, 88), 0, 0, [])), (4, (.ifCond .eq 0, 3, (35, 0, 0), 0, 0, [])), (7, (.iload 0, 1, (2, 0, 0), 0, 0, [])), (8, (.iconst 0, 1, (0, 0, 0), 1, 0, [])), (9, (.iconst 0, 2, (0, 0, 0), 40, 0, [])), (11, (.invokevirtual 0, 3, (3, 139, 78), 0, 0, [])), (14, (.ifCond .eq 0, 3, (35, 0, 0), 0, 0, [])), (17, (.aload 0, 1, (0, 0, 0), 0, 0, [])), (18, (.iload 0, 1, (3, 0, 0), 0, 0, [])), (19, (.invokevirtual 0, 3, (2, 141, 106), 0, 0, [])), (22, (.ifCond .eq 0, 3, (35, 0, 0), 0, 0, [])), (25, (.iload 0, 2, (4, 0, 0), 0, 0, [])), (27, (.iconst 0, 1, (0, 0, 0), 0, 0, [])), (28, (.iconst 0, 1, (0, 0, 0), 1, 0, [])), (29, (.invokevirtual 0, 3, (3, 139, 78), 0, 0, []))],
  [(32, (.ifCond .ne 0, 3, (43, 0, 0), 0, 0, [])), (35, (.aload 0, 1, (0, 0, 0), 0, 0, [])), (36, (.iconst 0, 3, (0, 0, 0), (-1002), 0, [])), (39, (.invokevirtual 0, 3, (2, 138, 92), 0, 0, [])), (42, (.ireturn, 1, (0, 0, 0), 0, 0, [])), (43, (.aload 0, 1, (0, 0, 0), 0, 0, [])), (44, (.iload 0, 1, (1, 0, 0), 0, 0, [])), (45, (.iload 0, 1, (2, 0, 0), 0, 0, [])), (46, (.invokevirtual 0, 3, (3, 202, 256), 0, 0, [])), (49, (.istore 0, 2, (5, 0, 0), 0, 0, [])), (51, (.iload 0, 2, (5, 0, 0), 0, 0, [])), (53, (.ifCond .ge 0, 3, (63, 0, 0), 0, 0, [])), (56, (.aload 0, 1, (0, 0, 0), 0, 0, [])), (57, (.iload 0, 2, (5, 0, 0), 0, 0, [])), (59, (.invokevirtual 0, 3, (2, 138, 92), 0, 0, [])), (62, (.ireturn, 1, (0, 0, 0), 0, 0, [])), (63, (.iload 0, 2, (4, 0, 0), 0, 0, []))],
  [(65, (.ifCond .ne 0, 3, (77, 0, 0), 0, 0, [])), (68, (.aload 0, 1, (0, 0, 0), 0, 0, [])), (69, (.getfield 0, 3, (7, 2, 13), 0, 0, [])), (72, (.iconst 0, 1, (0, 0, 0), 0, 0, [])), (73, (.iaload, 1, (0, 0, 0), 0, 0, [])), (74, (.goto 0, 3, (83, 0, 0), 0, 0, [])), (77, (.aload 0, 1, (0, 0, 0), 0, 0, [])), (78, (.getfield 0, 3, (7, 5, 16), 0, 0, [])), (81, (.iload 0, 1, (3, 0, 0), 0, 0, [])), (82, (.iaload, 1, (0, 0, 0), 0, 0, [])), (83, (.istore 0, 2, (6, 0, 0), 0, 0, [])), (85, (.iconst 0, 1, (0, 0, 0), 0, 0, [])), (86, (.istore 0, 2, (7, 0, 0), 0, 0, [])), (88, (.iconst 0, 1, (0, 0, 0), 0, 0, [])), (89, (.istore 0, 2, (8, 0, 0), 0, 0, [])), (91, (.iload 0, 2, (8, 0, 0), 0, 0, [])), (93, (.iload 0, 2, (4, 0, 0), 0, 0, [])), (95, (.ifCond .ne 0, 3, (102, 0, 0), 0, 0, []))],
  [(98, (.iconst 0, 1, (0, 0, 0), 5, 0, [])), (99, (.goto 0, 3, (104, 0, 0), 0, 0, [])), (102, (.iconst 0, 2, (0, 0, 0), 6, 0, [])), (104, (.if_icmp .ge 0, 3, (156, 0, 0), 0, 0, [])), (107, (.iload 0, 2, (4, 0, 0), 0, 0, [])), (109, (.ifCond .ne 0, 3, (123, 0, 0), 0, 0, [])), (112, (.aload 0, 1, (0, 0, 0), 0, 0, [])), (113, (.getfield 0, 3, (7, 2, 13), 0, 0, [])), (116, (.iconst 0, 1, (0, 0, 0), 0, 0, [])), (117, (.iload 0, 2, (8, 0, 0), 0, 0, [])), (119, (.iastore, 1, (0, 0, 0), 0, 0, [])), (120, (.goto 0, 3, (131, 0, 0), 0, 0, [])), (123, (.aload 0, 1, (0, 0, 0), 0, 0, [])), (124, (.getfield 0, 3, (7, 5, 16), 0, 0, [])), (127, (.iload 0, 1, (3, 0, 0), 0, 0, []))],
  [(128, (.iload 0, 2, (8, 0, 0), 0, 0, [])), (130, (.iastore, 1, (0, 0, 0), 0, 0, [])), (131, (.aload 0, 1, (0, 0, 0), 0, 0, [])), (132, (.iload 0, 1, (1, 0, 0), 0, 0, [])), (133, (.iload 0, 1, (2, 0, 0), 0, 0, [])), (134, (.iload 0, 1, (3, 0, 0), 0, 0, [])), (135, (.invokevirtual 0, 3, (4, 203, 259), 0, 0, [])), (138, (.ifCond .eq 0, 3, (150, 0, 0), 0, 0, [])), (141, (.iload 0, 2, (7, 0, 0), 0, 0, [])), (143, (.iconst 0, 1, (0, 0, 0), 1, 0, [])), (144, (.iload 0, 2, (8, 0, 0), 0, 0, [])), (146, (.ishl, 1, (0, 0, 0), 0, 0, [])), (147, (.ior, 1, (0, 0, 0), 0, 0, [])), (148, (.istore 0, 2, (7, 0, 0), 0, 0, [])), (150, (.iinc 0 0, 3, (8, 0, 0), 1, 0, [])), (153, (.goto 0, 3, (91, 0, 0), 0, 0, [])), (156, (.iload 0, 2, (4, 0, 0), 0, 0, [])), (158, (.ifCond .ne 0, 3, (172, 0, 0), 0, 0, []))],
  [(161, (.aload 0, 1, (0, 0, 0), 0, 0, [])), (162, (.getfield 0, 3, (7, 2, 13), 0, 0, [])), (165, (.iconst 0, 1, (0, 0, 0), 0, 0, [])), (166, (.iload 0, 2, (6, 0, 0), 0, 0, [])), (168, (.iastore, 1, (0, 0, 0), 0, 0, [])), (169, (.goto 0, 3, (180, 0, 0), 0, 0, [])), (172, (.aload 0, 1, (0, 0, 0), 0, 0, [])), (173, (.getfield 0, 3, (7, 5, 16), 0, 0, [])), (176, (.iload 0, 1, (3, 0, 0), 0, 0, [])), (177, (.iload 0, 2, (6, 0, 0), 0, 0, [])), (179, (.iastore, 1, (0, 0, 0), 0, 0, [])), (180, (.iload 0, 2, (7, 0, 0), 0, 0, [])), (182, (.ireturn, 1, (0, 0, 0), 0, 0, []))]]
set_option maxRecDepth 20000 in
def tX7_from : List (List (Nat × XE)) := [[(0, (.aload 0, 1, (0, 0, 0), 0, 0, [])), (1, (.iload 0, 1, (1, 0, 0), 0, 0, [])), (2, (.invokevirtual 0, 3, (2, 141, 106), 0, 0, [])), (5, (.ifCond .eq 0, 3, (26, 0, 0), 0, 0, [])), (8, (.iload 0, 1, (2, 0, 0), 0, 0, [])), (9, (.iconst 0, 1, (0, 0, 0), 0, 0, [])), (10, (.iconst 0, 2, (0, 0, 0), 30, 0, [])), (12, (.invokevirtual 0, 3, (3, 139, 78), 0, 0, [])), (15, (.ifCond .eq 0, 3, (26, 0, 0), 0, 0, [])), (18, (.aload 0, 1, (0, 0, 0), 0, 0, [])), (19, (.iload 0, 1, (3, 0, 0), 0, 0, [])), (20, (.invokevirtual 0, 3, (2, 140, 116), 0, 0, [])), (23, (.ifCond .ne 0, 3, (34, 0, 0), 0, 0, [])), (26, (.aload 0, 1, (0, 0, 0), 0, 0, [])), (27, (.iconst 0, 3, (0, 0, 0), (-1002), 0, [])), (30, (.invokevirtual 0, 3, (2, 138, 92), 0, 0, []))],
  [(33, (.ireturn, 1, (0, 0, 0), 0, 0, [])), (34, (.iconst 0, 1, (0, 0, 0), 0, 0, [])), (35, (.istore 0, 2, (4, 0, 0), 0, 0, [])), (37, (.iconst 0, 1, (0, 0, 0), 0, 0, [])), (38, (.istore 0, 2, (5, 0, 0), 0, 0, [])), (40, (.iload 0, 2, (5, 0, 0), 0, 0, [])), (42, (.aload 0, 1, (0, 0, 0), 0, 0, [])), (43, (.getfield 0, 3, (7, 0, 71), 0, 0, [])), (46, (.if_icmp .ge 0, 3, (125, 0, 0), 0, 0, [])), (49, (.aload 0, 1, (0, 0, 0), 0, 0, [])), (50, (.aload 0, 1, (0, 0, 0), 0, 0, [])), (51, (.getfield 0, 3, (7, 26, 56), 0, 0, [])), (54, (.invokevirtual 0, 3, (2, 232, 196), 0, 0, [])), (57, (.aload 0, 1, (0, 0, 0), 0, 0, [])), (58, (.iload 0, 1, (1, 0, 0), 0, 0, [])), (59, (.aload 0, 1, (0, 0, 0), 0, 0, [])), (60, (.getfield 0, 3, (7, 5, 16), 0, 0, [])), (63, (.iload 0, 1, (1, 0, 0), 0, 0, []))],
  [(64, (.iaload, 1, (0, 0, 0), 0, 0, [])), (65, (.aload 0, 1, (0, 0, 0), 0, 0, [])), (66, (.getfield 0, 3, (7, 6, 19), 0, 0, [])), (69, (.iload 0, 1, (1, 0, 0), 0, 0, [])), (70, (.iaload, 1, (0, 0, 0), 0, 0, [])), (71, (.iload 0, 2, (5, 0, 0), 0, 0, [])), (73, (.iconst 0, 1, (0, 0, 0), (-1), 0, [])), (74, (.invokevirtual 0, 3, (6, 163, 129), 0, 0, [])), (77, (.aload 0, 1, (0, 0, 0), 0, 0, [])), (78, (.iload 0, 1, (2, 0, 0), 0, 0, [])), (79, (.invokevirtual 0, 3, (2, 186, 236), 0, 0, [])), (82, (.pop, 1, (0, 0, 0), 0, 0, [])), (83, (.aload 0, 1, (0, 0, 0), 0, 0, [])), (84, (.getfield 0, 3, (7, 9, 28), 0, 0, [])), (87, (.iload 0, 1, (1, 0, 0), 0, 0, [])), (88, (.iaload, 1, (0, 0, 0), 0, 0, [])), (89, (.ifCond .ne 0, 3, (111, 0, 0), 0, 0, [])), (92, (.aload 0, 1, (0, 0, 0), 0, 0, [])), (93, (.getfield 0, 3, (7, 7, 22), 0, 0, []))],
  [(96, (.iload 0, 1, (1, 0, 0), 0, 0, [])), (97, (.iaload, 1, (0, 0, 0), 0, 0, [])), (98, (.iload 0, 1, (3, 0, 0), 0, 0, [])), (99, (.if_icmp .ne 0, 3, (111, 0, 0), 0, 0, [])), (102, (.iload 0, 2, (4, 0, 0), 0, 0, [])), (104, (.iconst 0, 1, (0, 0, 0), 1, 0, [])), (105, (.iload 0, 2, (5, 0, 0), 0, 0, [])), (107, (.ishl, 1, (0, 0, 0), 0, 0, [])), (108, (.ior, 1, (0, 0, 0), 0, 0, [])), (109, (.istore 0, 2, (4, 0, 0), 0, 0, [])), (111, (.aload 0, 1, (0, 0, 0), 0, 0, [])), (112, (.aload 0, 1, (0, 0, 0), 0, 0, [])), (113, (.getfield 0, 3, (7, 26, 56), 0, 0, [])), (116, (.invokevirtual 0, 3, (2, 233, 203), 0, 0, [])), (119, (.iinc 0 0, 3, (5, 0, 0), 1, 0, [])), (122, (.goto 0, 3, (40, 0, 0), 0, 0, [])), (125, (.iload 0, 2, (4, 0, 0), 0, 0, [])), (127, (.ireturn, 1, (0, 0, 0), 0, 0, []))]]
set_option maxRecDepth 20000 in
def tX7_tries : List (List (Nat × XE)) := [[(0, (.iload 0, 1, (1, 0, 0), 0, 0, [])), (1, (.aload 0, 1, (0, 0, 0), 0, 0, [])), (2, (.getfield 0, 3, (7, 4, 82), 0, 0, [])), (5, (.if_icmp .ne 0, 3, (76, 0, 0), 0, 0, [])), (8, (.iload 0, 1, (3, 0, 0), 0, 0, [])), (9, (.aload 0, 1, (0, 0, 0), 0, 0, [])), (10, (.getfield 0, 3, (7, 30, 262), 0, 0, [])), (13, (.if_icmp .lt 0, 3, (33, 0, 0), 0, 0, [])), (16, (.iload 0, 1, (3, 0, 0), 0, 0, [])), (17, (.aload 0, 1, (0, 0, 0), 0, 0, [])), (18, (.getfield 0, 3, (7, 30, 262), 0, 0, [])), (21, (.if_icmp .ne 0, 3, (34, 0, 0), 0, 0, [])), (24, (.iload 0, 2, (4, 0, 0), 0, 0, [])), (26, (.aload 0, 1, (0, 0, 0), 0, 0, [])), (27, (.getfield 0, 3, (7, 31, 265), 0, 0, [])), (30, (.if_icmp .lt 0, 3, (34, 0, 0), 0, 0, []))],
  [(33, (.return_, 1, (0, 0, 0), 0, 0, [])), (34, (.aload 0, 1, (0, 0, 0), 0, 0, [])), (35, (.iload 0, 1, (3, 0, 0), 0, 0, [])), (36, (.putfield 0, 3, (7, 30, 262), 0, 0, [])), (39, (.aload 0, 1, (0, 0, 0), 0, 0, [])), (40, (.iload 0, 2, (4, 0, 0), 0, 0, [])), (42, (.putfield 0, 3, (7, 31, 265), 0, 0, [])), (45, (.iconst 0, 1, (0, 0, 0), 0, 0, [])), (46, (.istore 0, 2, (6, 0, 0), 0, 0, [])), (48, (.iload 0, 2, (6, 0, 0), 0, 0, [])), (50, (.iconst 0, 2, (0, 0, 0), 8, 0, [])), (52, (.if_icmp .ge 0, 3, (75, 0, 0), 0, 0, [])), (55, (.aload 0, 1, (0, 0, 0), 0, 0, [])), (56, (.getfield 0, 3, (7, 29, 65), 0, 0, [])), (59, (.iload 0, 2, (6, 0, 0), 0, 0, [])), (61, (.aload 0, 1, (0, 0, 0), 0, 0, [])), (62, (.getfield 0, 3, (7, 28, 62), 0, 0, []))],
  [(65, (.iload 0, 2, (6, 0, 0), 0, 0, [])), (67, (.iaload, 1, (0, 0, 0), 0, 0, [])), (68, (.iastore, 1, (0, 0, 0), 0, 0, [])), (69, (.iinc 0 0, 3, (6, 0, 0), 1, 0, [])), (72, (.goto 0, 3, (48, 0, 0), 0, 0, [])), (75, (.return_, 1, (0, 0, 0), 0, 0, [])), (76, (.iconst 0, 1, (0, 0, 0), 0, 0, [])), (77, (.istore 0, 2, (6, 0, 0), 0, 0, [])), (79, (.iload 0, 2, (6, 0, 0), 0, 0, [])), (81, (.aload 0, 1, (0, 0, 0), 0, 0, [])), (82, (.getfield 0, 3, (7, 10, 85), 0, 0, [])), (85, (.if_icmp .ge 0, 3, (165, 0, 0), 0, 0, [])), (88, (.aload 0, 1, (0, 0, 0), 0, 0, [])), (89, (.getfield 0, 3, (7, 27, 59), 0, 0, [])), (92, (.iconst 0, 2, (0, 0, 0), 6, 0, [])), (94, (.iload 0, 1, (1, 0, 0), 0, 0, [])), (95, (.imul, 1, (0, 0, 0), 0, 0, []))],
  [(96, (.iload 0, 2, (6, 0, 0), 0, 0, [])), (98, (.iadd, 1, (0, 0, 0), 0, 0, [])), (99, (.iaload, 1, (0, 0, 0), 0, 0, [])), (100, (.istore 0, 2, (7, 0, 0), 0, 0, [])), (102, (.iload 0, 1, (2, 0, 0), 0, 0, [])), (103, (.iload 0, 2, (6, 0, 0), 0, 0, [])), (105, (.ishr, 1, (0, 0, 0), 0, 0, [])), (106, (.iconst 0, 1, (0, 0, 0), 1, 0, [])), (107, (.iand, 1, (0, 0, 0), 0, 0, [])), (108, (.iconst 0, 1, (0, 0, 0), 1, 0, [])), (109, (.if_icmp .eq 0, 3, (159, 0, 0), 0, 0, [])), (112, (.iload 0, 2, (7, 0, 0), 0, 0, [])), (114, (.iconst 0, 1, (0, 0, 0), (-1), 0, [])), (115, (.if_icmp .eq 0, 3, (159, 0, 0), 0, 0, [])), (118, (.iload 0, 2, (7, 0, 0), 0, 0, [])), (120, (.iload 0, 2, (5, 0, 0), 0, 0, [])), (122, (.if_icmp .le 0, 3, (128, 0, 0), 0, 0, [])), (125, (.goto 0, 3, (159, 0, 0), 0, 0, []))],
  [(128, (.aload 0, 1, (0, 0, 0), 0, 0, [])), (129, (.getfield 0, 3, (7, 28, 62), 0, 0, [])), (132, (.iload 0, 1, (1, 0, 0), 0, 0, [])), (133, (.iload 0, 2, (6, 0, 0), 0, 0, [])), (135, (.iastore, 1, (0, 0, 0), 0, 0, [])), (136, (.aload 0, 1, (0, 0, 0), 0, 0, [])), (137, (.iload 0, 1, (1, 0, 0), 0, 0, [])), (138, (.iconst 0, 1, (0, 0, 0), 1, 0, [])), (139, (.iadd, 1, (0, 0, 0), 0, 0, [])), (140, (.iload 0, 1, (2, 0, 0), 0, 0, [])), (141, (.iconst 0, 1, (0, 0, 0), 1, 0, [])), (142, (.iload 0, 2, (6, 0, 0), 0, 0, [])), (144, (.ishl, 1, (0, 0, 0), 0, 0, [])), (145, (.ior, 1, (0, 0, 0), 0, 0, [])), (146, (.iload 0, 1, (3, 0, 0), 0, 0, [])), (147, (.iconst 0, 1, (0, 0, 0), 1, 0, [])), (148, (.iadd, 1, (0, 0, 0), 0, 0, [])), (149, (.iload 0, 2, (4, 0, 0), 0, 0, [])), (151, (.iload 0, 2, (7, 0, 0), 0, 0, [])), (153, (.iadd, 1, (0, 0, 0), 0, 0, [])), (154, (.iload 0, 2, (5, 0, 0), 0, 0, [])), (156, (.invokevirtual 0, 3, (6, 206, 268), 0, 0, [])), (159, (.iinc 0 0, 3, (6, 0, 0), 1, 0, []))],
  [(162, (.goto 0, 3, (79, 0, 0), 0, 0, [])), (165, (.aload 0, 1, (0, 0, 0), 0, 0, [])), (166, (.getfield 0, 3, (7, 28, 62), 0, 0, [])), (169, (.iload 0, 1, (1, 0, 0), 0, 0, [])), (170, (.iconst 0, 1, (0, 0, 0), (-1), 0, [])), (171, (.iastore, 1, (0, 0, 0), 0, 0, [])), (172, (.aload 0, 1, (0, 0, 0), 0, 0, [])), (173, (.iload 0, 1, (1, 0, 0), 0, 0, [])), (174, (.iconst 0, 1, (0, 0, 0), 1, 0, [])), (175, (.iadd, 1, (0, 0, 0), 0, 0, [])), (176, (.iload 0, 1, (2, 0, 0), 0, 0, [])), (177, (.iload 0, 1, (3, 0, 0), 0, 0, [])), (178, (.iload 0, 2, (4, 0, 0), 0, 0, [])), (180, (.iload 0, 2, (5, 0, 0), 0, 0, [])), (182, (.invokevirtual 0, 3, (6, 206, 268), 0, 0, [])), (185, (.return_, 1, (0, 0, 0), 0, 0, []))]]
set_option maxRecDepth 20000 in
def tX7_pairs : List (List (Nat × XE)) := [[(0, (.iload 0, 1, (1, 0, 0), 0, 0, [])), (1, (.iconst 0, 1, (0, 0, 0), 1, 0, [])), (2, (.iconst 0, 2, (0, 0, 0), 60, 0, [])), (4, (.invokevirtual 0, 3, (3, 139, 78), 0, 0, [])), (7, (.ifCond .eq 0, 3, (28, 0, 0), 0, 0, [])), (10, (.iload 0, 1, (2, 0, 0), 0, 0, [])), (11, (.iconst 0, 2, (0, 0, 0), (-2), 0, [])), (13, (.iconst 0, 1, (0, 0, 0), (-1), 0, [])), (14, (.invokevirtual 0, 3, (3, 139, 78), 0, 0, [])), (17, (.ifCond .ne 0, 3, (36, 0, 0), 0, 0, [])), (20, (.aload 0, 1, (0, 0, 0), 0, 0, [])), (21, (.iload 0, 1, (2, 0, 0), 0, 0, [])), (22, (.invokevirtual 0, 3, (2, 141, 106), 0, 0, [])), (25, (.ifCond .ne 0, 3, (36, 0, 0), 0, 0, [])), (28, (.aload 0, 1, (0, 0, 0), 0, 0, [])), (29, (.iconst 0, 3, (0, 0, 0), (-1002), 0, []))],
  [(32, (.invokevirtual 0, 3, (2, 138, 92), 0, 0, [])), (35, (.ireturn, 1, (0, 0, 0), 0, 0, [])), (36, (.iconst 0, 1, (0, 0, 0), 0, 0, [])), (37, (.istore 0, 1, (3, 0, 0), 0, 0, [])), (38, (.iload 0, 1, (3, 0, 0), 0, 0, [])), (39, (.aload 0, 1, (0, 0, 0), 0, 0, [])), (40, (.getfield 0, 3, (7, 4, 82), 0, 0, [])), (43, (.if_icmp .ge 0, 3, (89, 0, 0), 0, 0, [])), (46, (.iconst 0, 1, (0, 0, 0), 0, 0, [])), (47, (.istore 0, 2, (4, 0, 0), 0, 0, [])), (49, (.iload 0, 2, (4, 0, 0), 0, 0, [])), (51, (.aload 0, 1, (0, 0, 0), 0, 0, [])), (52, (.getfield 0, 3, (7, 10, 85), 0, 0, [])), (55, (.if_icmp .ge 0, 3, (83, 0, 0), 0, 0, [])), (58, (.aload 0, 1, (0, 0, 0), 0, 0, [])), (59, (.getfield 0, 3, (7, 27, 59), 0, 0, [])), (62, (.iconst 0, 2, (0, 0, 0), 6, 0, []))],
  [(64, (.iload 0, 1, (3, 0, 0), 0, 0, [])), (65, (.imul, 1, (0, 0, 0), 0, 0, [])), (66, (.iload 0, 2, (4, 0, 0), 0, 0, [])), (68, (.iadd, 1, (0, 0, 0), 0, 0, [])), (69, (.aload 0, 1, (0, 0, 0), 0, 0, [])), (70, (.iload 0, 1, (3, 0, 0), 0, 0, [])), (71, (.iload 0, 2, (4, 0, 0), 0, 0, [])), (73, (.invokevirtual 0, 3, (3, 193, 242), 0, 0, [])), (76, (.iastore, 1, (0, 0, 0), 0, 0, [])), (77, (.iinc 0 0, 3, (4, 0, 0), 1, 0, [])), (80, (.goto 0, 3, (49, 0, 0), 0, 0, [])), (83, (.iinc 0 0, 3, (3, 0, 0), 1, 0, [])), (86, (.goto 0, 3, (38, 0, 0), 0, 0, [])), (89, (.aload 0, 1, (0, 0, 0), 0, 0, [])), (90, (.iconst 0, 1, (0, 0, 0), (-1), 0, [])), (91, (.putfield 0, 3, (7, 30, 262), 0, 0, [])), (94, (.aload 0, 1, (0, 0, 0), 0, 0, [])), (95, (.iconst 0, 1, (0, 0, 0), 0, 0, []))],
  [(96, (.putfield 0, 3, (7, 31, 265), 0, 0, [])), (99, (.aload 0, 1, (0, 0, 0), 0, 0, [])), (100, (.iconst 0, 1, (0, 0, 0), 0, 0, [])), (101, (.iconst 0, 1, (0, 0, 0), 0, 0, [])), (102, (.iconst 0, 1, (0, 0, 0), 0, 0, [])), (103, (.iconst 0, 1, (0, 0, 0), 0, 0, [])), (104, (.iload 0, 1, (1, 0, 0), 0, 0, [])), (105, (.invokevirtual 0, 3, (6, 206, 268), 0, 0, [])), (108, (.iload 0, 1, (2, 0, 0), 0, 0, [])), (109, (.iconst 0, 2, (0, 0, 0), (-2), 0, [])), (111, (.if_icmp .ne 0, 3, (121, 0, 0), 0, 0, [])), (114, (.aload 0, 1, (0, 0, 0), 0, 0, [])), (115, (.getfield 0, 3, (7, 30, 262), 0, 0, [])), (118, (.goto 0, 3, (139, 0, 0), 0, 0, [])), (121, (.iload 0, 1, (2, 0, 0), 0, 0, [])), (122, (.iconst 0, 1, (0, 0, 0), (-1), 0, [])), (123, (.if_icmp .ne 0, 3, (133, 0, 0), 0, 0, [])), (126, (.aload 0, 1, (0, 0, 0), 0, 0, [])), (127, (.getfield 0, 3, (7, 31, 265), 0, 0, []))],
  [(130, (.goto 0, 3, (139, 0, 0), 0, 0, [])), (133, (.aload 0, 1, (0, 0, 0), 0, 0, [])), (134, (.getfield 0, 3, (7, 29, 65), 0, 0, [])), (137, (.iload 0, 1, (2, 0, 0), 0, 0, [])), (138, (.iaload, 1, (0, 0, 0), 0, 0, [])), (139, (.ireturn, 1, (0, 0, 0), 0, 0, []))]]
set_option maxRecDepth 20000 in
def tX7_mended : List (List (Nat × XE)) := [[(0, (.aload 0, 1, (0, 0, 0), 0, 0, [])), (1, (.iload 0, 1, (1, 0, 0), 0, 0, [])), (2, (.invokevirtual 0, 3, (2, 141, 106), 0, 0, [])), (5, (.ifCond .eq 0, 3, (17, 0, 0), 0, 0, [])), (8, (.iload 0, 1, (2, 0, 0), 0, 0, [])), (9, (.iconst 0, 1, (0, 0, 0), 0, 0, [])), (10, (.iconst 0, 1, (0, 0, 0), 1, 0, [])), (11, (.invokevirtual 0, 3, (3, 139, 78), 0, 0, [])), (14, (.ifCond .ne 0, 3, (25, 0, 0), 0, 0, [])), (17, (.aload 0, 1, (0, 0, 0), 0, 0, [])), (18, (.iconst 0, 3, (0, 0, 0), (-1002), 0, [])), (21, (.invokevirtual 0, 3, (2, 138, 92), 0, 0, [])), (24, (.ireturn, 1, (0, 0, 0), 0, 0, [])), (25, (.iconst 0, 1, (0, 0, 0), (-1), 0, [])), (26, (.istore 0, 1, (3, 0, 0), 0, 0, [])), (27, (.iconst 0, 2, (0, 0, 0), 61, 0, [])), (29, (.istore 0, 2, (4, 0, 0), 0, 0, [])), (31, (.iconst 0, 1, (0, 0, 0), 0, 0, []))],
  [(32, (.istore 0, 2, (5, 0, 0), 0, 0, [])), (34, (.iload 0, 2, (5, 0, 0), 0, 0, [])), (36, (.aload 0, 1, (0, 0, 0), 0, 0, [])), (37, (.getfield 0, 3, (7, 0, 71), 0, 0, [])), (40, (.if_icmp .ge 0, 3, (144, 0, 0), 0, 0, [])), (43, (.aload 0, 1, (0, 0, 0), 0, 0, [])), (44, (.getfield 0, 3, (7, 1, 7), 0, 0, [])), (47, (.iload 0, 2, (5, 0, 0), 0, 0, [])), (49, (.iaload, 1, (0, 0, 0), 0, 0, [])), (50, (.istore 0, 2, (6, 0, 0), 0, 0, [])), (52, (.iconst 0, 1, (0, 0, 0), 0, 0, [])), (53, (.istore 0, 2, (7, 0, 0), 0, 0, [])), (55, (.iload 0, 2, (7, 0, 0), 0, 0, [])), (57, (.iconst 0, 2, (0, 0, 0), 7, 0, [])), (59, (.if_icmp .ge 0, 3, (129, 0, 0), 0, 0, [])), (62, (.aload 0, 1, (0, 0, 0), 0, 0, [])), (63, (.getfield 0, 3, (7, 1, 7), 0, 0, []))],
  [(66, (.iload 0, 2, (5, 0, 0), 0, 0, [])), (68, (.iload 0, 2, (7, 0, 0), 0, 0, [])), (70, (.iastore, 1, (0, 0, 0), 0, 0, [])), (71, (.iload 0, 2, (7, 0, 0), 0, 0, [])), (73, (.iload 0, 2, (6, 0, 0), 0, 0, [])), (75, (.if_icmp .ne 0, 3, (82, 0, 0), 0, 0, [])), (78, (.iconst 0, 1, (0, 0, 0), (-1), 0, [])), (79, (.goto 0, 3, (92, 0, 0), 0, 0, [])), (82, (.aload 0, 1, (0, 0, 0), 0, 0, [])), (83, (.iload 0, 1, (1, 0, 0), 0, 0, [])), (84, (.iconst 0, 1, (0, 0, 0), 1, 0, [])), (85, (.aload 0, 1, (0, 0, 0), 0, 0, [])), (86, (.getfield 0, 3, (7, 4, 82), 0, 0, [])), (89, (.invokevirtual 0, 3, (4, 190, 239), 0, 0, [])), (92, (.istore 0, 2, (8, 0, 0), 0, 0, [])), (94, (.iload 0, 2, (8, 0, 0), 0, 0, []))],
  [(96, (.iconst 0, 1, (0, 0, 0), (-1), 0, [])), (97, (.if_icmp .eq 0, 3, (123, 0, 0), 0, 0, [])), (100, (.iload 0, 2, (8, 0, 0), 0, 0, [])), (102, (.iload 0, 2, (4, 0, 0), 0, 0, [])), (104, (.if_icmp .lt 0, 3, (110, 0, 0), 0, 0, [])), (107, (.goto 0, 3, (123, 0, 0), 0, 0, [])), (110, (.iload 0, 2, (8, 0, 0), 0, 0, [])), (112, (.istore 0, 2, (4, 0, 0), 0, 0, [])), (114, (.iconst 0, 2, (0, 0, 0), 10, 0, [])), (116, (.iload 0, 2, (5, 0, 0), 0, 0, [])), (118, (.imul, 1, (0, 0, 0), 0, 0, [])), (119, (.iload 0, 2, (7, 0, 0), 0, 0, [])), (121, (.iadd, 1, (0, 0, 0), 0, 0, [])), (122, (.istore 0, 1, (3, 0, 0), 0, 0, [])), (123, (.iinc 0 0, 3, (7, 0, 0), 1, 0, [])), (126, (.goto 0, 3, (55, 0, 0), 0, 0, []))],
  [(129, (.aload 0, 1, (0, 0, 0), 0, 0, [])), (130, (.getfield 0, 3, (7, 1, 7), 0, 0, [])), (133, (.iload 0, 2, (5, 0, 0), 0, 0, [])), (135, (.iload 0, 2, (6, 0, 0), 0, 0, [])), (137, (.iastore, 1, (0, 0, 0), 0, 0, [])), (138, (.iinc 0 0, 3, (5, 0, 0), 1, 0, [])), (141, (.goto 0, 3, (34, 0, 0), 0, 0, [])), (144, (.iload 0, 1, (2, 0, 0), 0, 0, [])), (145, (.ifCond .eq 0, 3, (153, 0, 0), 0, 0, [])), (148, (.iload 0, 1, (3, 0, 0), 0, 0, [])), (149, (.iconst 0, 1, (0, 0, 0), (-1), 0, [])), (150, (.if_icmp .ne 0, 3, (157, 0, 0), 0, 0, [])), (153, (.iload 0, 1, (3, 0, 0), 0, 0, [])), (154, (.goto 0, 3, (159, 0, 0), 0, 0, [])), (157, (.iload 0, 2, (4, 0, 0), 0, 0, [])), (159, (.ireturn, 1, (0, 0, 0), 0, 0, []))]]
set_option maxRecDepth 20000 in
def tX7_odds : List (List (Nat × XE)) := [[(0, (.aload 0, 1, (0, 0, 0), 0, 0, [])), (1, (.iload 0, 1, (1, 0, 0), 0, 0, [])), (2, (.invokevirtual 0, 3, (2, 141, 106), 0, 0, [])), (5, (.ifCond .eq 0, 3, (26, 0, 0), 0, 0, [])), (8, (.iload 0, 1, (2, 0, 0), 0, 0, [])), (9, (.iconst 0, 1, (0, 0, 0), 0, 0, [])), (10, (.iconst 0, 1, (0, 0, 0), 4, 0, [])), (11, (.invokevirtual 0, 3, (3, 139, 78), 0, 0, [])), (14, (.ifCond .eq 0, 3, (26, 0, 0), 0, 0, [])), (17, (.iload 0, 1, (3, 0, 0), 0, 0, [])), (18, (.iconst 0, 1, (0, 0, 0), 0, 0, [])), (19, (.iconst 0, 1, (0, 0, 0), 1, 0, [])), (20, (.invokevirtual 0, 3, (3, 139, 78), 0, 0, [])), (23, (.ifCond .ne 0, 3, (34, 0, 0), 0, 0, [])), (26, (.aload 0, 1, (0, 0, 0), 0, 0, [])), (27, (.iconst 0, 3, (0, 0, 0), (-1002), 0, [])), (30, (.invokevirtual 0, 3, (2, 138, 92), 0, 0, []))],
  [(33, (.ireturn, 1, (0, 0, 0), 0, 0, [])), (34, (.iconst 0, 1, (0, 0, 0), 1, 0, [])), (35, (.istore 0, 2, (4, 0, 0), 0, 0, [])), (37, (.iconst 0, 1, (0, 0, 0), 0, 0, [])), (38, (.istore 0, 2, (5, 0, 0), 0, 0, [])), (40, (.iload 0, 2, (5, 0, 0), 0, 0, [])), (42, (.iload 0, 1, (2, 0, 0), 0, 0, [])), (43, (.if_icmp .ge 0, 3, (58, 0, 0), 0, 0, [])), (46, (.iload 0, 2, (4, 0, 0), 0, 0, [])), (48, (.iconst 0, 1, (0, 0, 0), 5, 0, [])), (49, (.imul, 1, (0, 0, 0), 0, 0, [])), (50, (.istore 0, 2, (4, 0, 0), 0, 0, [])), (52, (.iinc 0 0, 3, (5, 0, 0), 1, 0, [])), (55, (.goto 0, 3, (40, 0, 0), 0, 0, [])), (58, (.iconst 0, 1, (0, 0, 0), 0, 0, [])), (59, (.istore 0, 2, (5, 0, 0), 0, 0, [])), (61, (.iconst 0, 1, (0, 0, 0), 0, 0, [])), (62, (.istore 0, 2, (6, 0, 0), 0, 0, []))],
  [(64, (.iload 0, 2, (6, 0, 0), 0, 0, [])), (66, (.iload 0, 2, (4, 0, 0), 0, 0, [])), (68, (.if_icmp .ge 0, 3, (152, 0, 0), 0, 0, [])), (71, (.aload 0, 1, (0, 0, 0), 0, 0, [])), (72, (.aload 0, 1, (0, 0, 0), 0, 0, [])), (73, (.getfield 0, 3, (7, 26, 56), 0, 0, [])), (76, (.invokevirtual 0, 3, (2, 232, 196), 0, 0, [])), (79, (.iload 0, 2, (6, 0, 0), 0, 0, [])), (81, (.istore 0, 2, (7, 0, 0), 0, 0, [])), (83, (.iconst 0, 1, (0, 0, 0), 0, 0, [])), (84, (.istore 0, 2, (8, 0, 0), 0, 0, [])), (86, (.iload 0, 2, (8, 0, 0), 0, 0, [])), (88, (.iload 0, 1, (2, 0, 0), 0, 0, [])), (89, (.if_icmp .ge 0, 3, (123, 0, 0), 0, 0, [])), (92, (.aload 0, 1, (0, 0, 0), 0, 0, [])), (93, (.getfield 0, 3, (7, 2, 13), 0, 0, []))],
  [(96, (.iconst 0, 1, (0, 0, 0), 0, 0, [])), (97, (.iload 0, 2, (7, 0, 0), 0, 0, [])), (99, (.iconst 0, 1, (0, 0, 0), 5, 0, [])), (100, (.irem, 1, (0, 0, 0), 0, 0, [])), (101, (.iastore, 1, (0, 0, 0), 0, 0, [])), (102, (.iload 0, 2, (7, 0, 0), 0, 0, [])), (104, (.iconst 0, 1, (0, 0, 0), 5, 0, [])), (105, (.idiv, 1, (0, 0, 0), 0, 0, [])), (106, (.istore 0, 2, (7, 0, 0), 0, 0, [])), (108, (.aload 0, 1, (0, 0, 0), 0, 0, [])), (109, (.aload 0, 1, (0, 0, 0), 0, 0, [])), (110, (.getfield 0, 3, (7, 4, 82), 0, 0, [])), (113, (.invokevirtual 0, 3, (2, 185, 230), 0, 0, [])), (116, (.pop, 1, (0, 0, 0), 0, 0, [])), (117, (.iinc 0 0, 3, (8, 0, 0), 1, 0, [])), (120, (.goto 0, 3, (86, 0, 0), 0, 0, [])), (123, (.aload 0, 1, (0, 0, 0), 0, 0, [])), (124, (.getfield 0, 3, (7, 9, 28), 0, 0, [])), (127, (.iload 0, 1, (1, 0, 0), 0, 0, []))],
  [(128, (.iaload, 1, (0, 0, 0), 0, 0, [])), (129, (.iconst 0, 1, (0, 0, 0), 1, 0, [])), (130, (.iload 0, 1, (3, 0, 0), 0, 0, [])), (131, (.iadd, 1, (0, 0, 0), 0, 0, [])), (132, (.if_icmp .ne 0, 3, (138, 0, 0), 0, 0, [])), (135, (.iinc 0 0, 3, (5, 0, 0), 1, 0, [])), (138, (.aload 0, 1, (0, 0, 0), 0, 0, [])), (139, (.aload 0, 1, (0, 0, 0), 0, 0, [])), (140, (.getfield 0, 3, (7, 26, 56), 0, 0, [])), (143, (.invokevirtual 0, 3, (2, 233, 203), 0, 0, [])), (146, (.iinc 0 0, 3, (6, 0, 0), 1, 0, [])), (149, (.goto 0, 3, (64, 0, 0), 0, 0, [])), (152, (.iconst 0, 3, (271, 1, 0), 1000000, 0, [])), (155, (.iload 0, 2, (5, 0, 0), 0, 0, [])), (157, (.imul, 1, (0, 0, 0), 0, 0, [])), (158, (.iload 0, 2, (4, 0, 0), 0, 0, []))],
  [(160, (.idiv, 1, (0, 0, 0), 0, 0, [])), (161, (.ireturn, 1, (0, 0, 0), 0, 0, []))]]
set_option maxRecDepth 20000 in
def tX7_windFor : List (List (Nat × XE)) := [[(0, (.aload 0, 1, (0, 0, 0), 0, 0, [])), (1, (.iload 0, 1, (1, 0, 0), 0, 0, [])), (2, (.invokevirtual 0, 3, (2, 141, 106), 0, 0, [])), (5, (.ifCond .ne 0, 3, (16, 0, 0), 0, 0, [])), (8, (.aload 0, 1, (0, 0, 0), 0, 0, [])), (9, (.iconst 0, 3, (0, 0, 0), (-1002), 0, [])), (12, (.invokevirtual 0, 3, (2, 138, 92), 0, 0, [])), (15, (.ireturn, 1, (0, 0, 0), 0, 0, [])), (16, (.aload 0, 1, (0, 0, 0), 0, 0, [])), (17, (.getfield 0, 3, (7, 2, 13), 0, 0, [])), (20, (.iconst 0, 1, (0, 0, 0), 0, 0, [])), (21, (.iaload, 1, (0, 0, 0), 0, 0, [])), (22, (.istore 0, 1, (2, 0, 0), 0, 0, [])), (23, (.iconst 0, 1, (0, 0, 0), (-1), 0, [])), (24, (.istore 0, 1, (3, 0, 0), 0, 0, [])), (25, (.iconst 0, 2, (0, 0, 0), 61, 0, [])), (27, (.istore 0, 2, (4, 0, 0), 0, 0, [])), (29, (.iconst 0, 1, (0, 0, 0), 0, 0, [])), (30, (.istore 0, 2, (5, 0, 0), 0, 0, []))],
  [(32, (.iload 0, 2, (5, 0, 0), 0, 0, [])), (34, (.iconst 0, 1, (0, 0, 0), 5, 0, [])), (35, (.if_icmp .ge 0, 3, (87, 0, 0), 0, 0, [])), (38, (.aload 0, 1, (0, 0, 0), 0, 0, [])), (39, (.getfield 0, 3, (7, 2, 13), 0, 0, [])), (42, (.iconst 0, 1, (0, 0, 0), 0, 0, [])), (43, (.iload 0, 2, (5, 0, 0), 0, 0, [])), (45, (.iastore, 1, (0, 0, 0), 0, 0, [])), (46, (.aload 0, 1, (0, 0, 0), 0, 0, [])), (47, (.iload 0, 1, (1, 0, 0), 0, 0, [])), (48, (.iconst 0, 1, (0, 0, 0), 1, 0, [])), (49, (.aload 0, 1, (0, 0, 0), 0, 0, [])), (50, (.getfield 0, 3, (7, 4, 82), 0, 0, [])), (53, (.invokevirtual 0, 3, (4, 190, 239), 0, 0, [])), (56, (.istore 0, 2, (6, 0, 0), 0, 0, [])), (58, (.iload 0, 2, (6, 0, 0), 0, 0, [])), (60, (.iconst 0, 1, (0, 0, 0), (-1), 0, [])), (61, (.if_icmp .eq 0, 3, (81, 0, 0), 0, 0, []))],
  [(64, (.iload 0, 2, (6, 0, 0), 0, 0, [])), (66, (.iload 0, 2, (4, 0, 0), 0, 0, [])), (68, (.if_icmp .lt 0, 3, (74, 0, 0), 0, 0, [])), (71, (.goto 0, 3, (81, 0, 0), 0, 0, [])), (74, (.iload 0, 2, (6, 0, 0), 0, 0, [])), (76, (.istore 0, 2, (4, 0, 0), 0, 0, [])), (78, (.iload 0, 2, (5, 0, 0), 0, 0, [])), (80, (.istore 0, 1, (3, 0, 0), 0, 0, [])), (81, (.iinc 0 0, 3, (5, 0, 0), 1, 0, [])), (84, (.goto 0, 3, (32, 0, 0), 0, 0, [])), (87, (.aload 0, 1, (0, 0, 0), 0, 0, [])), (88, (.getfield 0, 3, (7, 2, 13), 0, 0, [])), (91, (.iconst 0, 1, (0, 0, 0), 0, 0, [])), (92, (.iload 0, 1, (2, 0, 0), 0, 0, [])), (93, (.iastore, 1, (0, 0, 0), 0, 0, [])), (94, (.iload 0, 1, (3, 0, 0), 0, 0, [])), (95, (.ireturn, 1, (0, 0, 0), 0, 0, []))]]
set_option maxRecDepth 20000 in
def tX7_bestWind : List (List (Nat × XE)) := [[(0, (.iload 0, 1, (1, 0, 0), 0, 0, [])), (1, (.invokevirtual 0, 3, (1, 144, 233), 0, 0, [])), (4, (.ifCond .eq 0, 3, (16, 0, 0), 0, 0, [])), (7, (.iload 0, 1, (2, 0, 0), 0, 0, [])), (8, (.iconst 0, 1, (0, 0, 0), 0, 0, [])), (9, (.iconst 0, 1, (0, 0, 0), 1, 0, [])), (10, (.invokevirtual 0, 3, (3, 139, 78), 0, 0, [])), (13, (.ifCond .ne 0, 3, (24, 0, 0), 0, 0, [])), (16, (.aload 0, 1, (0, 0, 0), 0, 0, [])), (17, (.iconst 0, 3, (0, 0, 0), (-1002), 0, [])), (20, (.invokevirtual 0, 3, (2, 138, 92), 0, 0, [])), (23, (.ireturn, 1, (0, 0, 0), 0, 0, [])), (24, (.iconst 0, 1, (0, 0, 0), 0, 0, [])), (25, (.istore 0, 1, (3, 0, 0), 0, 0, [])), (26, (.iconst 0, 1, (0, 0, 0), (-1), 0, [])), (27, (.istore 0, 2, (4, 0, 0), 0, 0, [])), (29, (.iconst 0, 1, (0, 0, 0), 0, 0, [])), (30, (.istore 0, 2, (5, 0, 0), 0, 0, []))],
  [(32, (.iload 0, 2, (5, 0, 0), 0, 0, [])), (34, (.iconst 0, 1, (0, 0, 0), 5, 0, [])), (35, (.if_icmp .ge 0, 3, (92, 0, 0), 0, 0, [])), (38, (.aload 0, 1, (0, 0, 0), 0, 0, [])), (39, (.aload 0, 1, (0, 0, 0), 0, 0, [])), (40, (.getfield 0, 3, (7, 26, 56), 0, 0, [])), (43, (.invokevirtual 0, 3, (2, 232, 196), 0, 0, [])), (46, (.aload 0, 1, (0, 0, 0), 0, 0, [])), (47, (.getfield 0, 3, (7, 2, 13), 0, 0, [])), (50, (.iconst 0, 1, (0, 0, 0), 0, 0, [])), (51, (.iload 0, 2, (5, 0, 0), 0, 0, [])), (53, (.iastore, 1, (0, 0, 0), 0, 0, [])), (54, (.aload 0, 1, (0, 0, 0), 0, 0, [])), (55, (.iload 0, 1, (1, 0, 0), 0, 0, [])), (56, (.invokevirtual 0, 3, (2, 186, 236), 0, 0, [])), (59, (.istore 0, 2, (6, 0, 0), 0, 0, [])), (61, (.aload 0, 1, (0, 0, 0), 0, 0, [])), (62, (.aload 0, 1, (0, 0, 0), 0, 0, [])), (63, (.getfield 0, 3, (7, 26, 56), 0, 0, []))],
  [(66, (.invokevirtual 0, 3, (2, 233, 203), 0, 0, [])), (69, (.iload 0, 2, (6, 0, 0), 0, 0, [])), (71, (.iload 0, 2, (4, 0, 0), 0, 0, [])), (73, (.if_icmp .gt 0, 3, (79, 0, 0), 0, 0, [])), (76, (.goto 0, 3, (86, 0, 0), 0, 0, [])), (79, (.iload 0, 2, (6, 0, 0), 0, 0, [])), (81, (.istore 0, 2, (4, 0, 0), 0, 0, [])), (83, (.iload 0, 2, (5, 0, 0), 0, 0, [])), (85, (.istore 0, 1, (3, 0, 0), 0, 0, [])), (86, (.iinc 0 0, 3, (5, 0, 0), 1, 0, [])), (89, (.goto 0, 3, (32, 0, 0), 0, 0, [])), (92, (.iload 0, 1, (2, 0, 0), 0, 0, [])), (93, (.ifCond .ne 0, 3, (100, 0, 0), 0, 0, []))],
  [(96, (.iload 0, 1, (3, 0, 0), 0, 0, [])), (97, (.goto 0, 3, (102, 0, 0), 0, 0, [])), (100, (.iload 0, 2, (4, 0, 0), 0, 0, [])), (102, (.ireturn, 1, (0, 0, 0), 0, 0, []))]]
set_option maxRecDepth 20000 in
def tX7_areSo : List (List (Nat × XE)) := [[(0, (.iconst 0, 1, (0, 0, 0), 0, 0, [])), (1, (.istore 0, 1, (2, 0, 0), 0, 0, [])), (2, (.iconst 0, 1, (0, 0, 0), 0, 0, [])), (3, (.istore 0, 1, (3, 0, 0), 0, 0, [])), (4, (.iload 0, 1, (3, 0, 0), 0, 0, [])), (5, (.aload 0, 1, (0, 0, 0), 0, 0, [])), (6, (.getfield 0, 3, (7, 4, 82), 0, 0, [])), (9, (.if_icmp .ge 0, 3, (34, 0, 0), 0, 0, [])), (12, (.aload 0, 1, (0, 0, 0), 0, 0, [])), (13, (.getfield 0, 3, (7, 9, 28), 0, 0, [])), (16, (.iload 0, 1, (3, 0, 0), 0, 0, [])), (17, (.iaload, 1, (0, 0, 0), 0, 0, [])), (18, (.iload 0, 1, (1, 0, 0), 0, 0, [])), (19, (.if_icmp .ne 0, 3, (28, 0, 0), 0, 0, [])), (22, (.iload 0, 1, (2, 0, 0), 0, 0, [])), (23, (.iconst 0, 1, (0, 0, 0), 1, 0, [])), (24, (.iload 0, 1, (3, 0, 0), 0, 0, [])), (25, (.ishl, 1, (0, 0, 0), 0, 0, [])), (26, (.ior, 1, (0, 0, 0), 0, 0, [])), (27, (.istore 0, 1, (2, 0, 0), 0, 0, [])), (28, (.iinc 0 0, 3, (3, 0, 0), 1, 0, [])), (31, (.goto 0, 3, (4, 0, 0), 0, 0, []))],
  [(34, (.iload 0, 1, (2, 0, 0), 0, 0, [])), (35, (.ireturn, 1, (0, 0, 0), 0, 0, []))]]
set_option maxRecDepth 20000 in
def tX7_afloatThen : List (List (Nat × XE)) := [[(0, (.aload 0, 1, (0, 0, 0), 0, 0, [])), (1, (.iconst 0, 1, (0, 0, 0), 0, 0, [])), (2, (.invokevirtual 0, 3, (2, 212, 272), 0, 0, [])), (5, (.istore 0, 1, (2, 0, 0), 0, 0, [])), (6, (.aload 0, 1, (0, 0, 0), 0, 0, [])), (7, (.aload 0, 1, (0, 0, 0), 0, 0, [])), (8, (.getfield 0, 3, (7, 26, 56), 0, 0, [])), (11, (.invokevirtual 0, 3, (2, 232, 196), 0, 0, [])), (14, (.aload 0, 1, (0, 0, 0), 0, 0, [])), (15, (.iconst 0, 2, (0, 0, 0), 60, 0, [])), (17, (.invokevirtual 0, 3, (2, 186, 236), 0, 0, [])), (20, (.pop, 1, (0, 0, 0), 0, 0, [])), (21, (.aload 0, 1, (0, 0, 0), 0, 0, [])), (22, (.iload 0, 1, (1, 0, 0), 0, 0, [])), (23, (.invokevirtual 0, 3, (2, 212, 272), 0, 0, [])), (26, (.istore 0, 1, (3, 0, 0), 0, 0, [])), (27, (.aload 0, 1, (0, 0, 0), 0, 0, [])), (28, (.aload 0, 1, (0, 0, 0), 0, 0, [])), (29, (.getfield 0, 3, (7, 26, 56), 0, 0, []))],
  [(32, (.invokevirtual 0, 3, (2, 233, 203), 0, 0, [])), (35, (.iload 0, 1, (2, 0, 0), 0, 0, [])), (36, (.iload 0, 1, (3, 0, 0), 0, 0, [])), (37, (.iand, 1, (0, 0, 0), 0, 0, [])), (38, (.ireturn, 1, (0, 0, 0), 0, 0, []))]]
set_option maxRecDepth 20000 in
def tX7_who : List (List (Nat × XE)) := [[(0, (.iload 0, 1, (1, 0, 0), 0, 0, [])), (1, (.iconst 0, 1, (0, 0, 0), 0, 0, [])), (2, (.iconst 0, 1, (0, 0, 0), 3, 0, [])), (3, (.invokevirtual 0, 3, (3, 139, 78), 0, 0, [])), (6, (.ifCond .ne 0, 3, (17, 0, 0), 0, 0, [])), (9, (.aload 0, 1, (0, 0, 0), 0, 0, [])), (10, (.iconst 0, 3, (0, 0, 0), (-1002), 0, [])), (13, (.invokevirtual 0, 3, (2, 138, 92), 0, 0, [])), (16, (.ireturn, 1, (0, 0, 0), 0, 0, [])), (17, (.iload 0, 1, (1, 0, 0), 0, 0, [])), (18, (.iconst 0, 1, (0, 0, 0), 3, 0, [])), (19, (.if_icmp .ne 0, 3, (30, 0, 0), 0, 0, [])), (22, (.aload 0, 1, (0, 0, 0), 0, 0, [])), (23, (.iconst 0, 1, (0, 0, 0), 1, 0, [])), (24, (.invokevirtual 0, 3, (2, 213, 275), 0, 0, [])), (27, (.goto 0, 3, (35, 0, 0), 0, 0, [])), (30, (.aload 0, 1, (0, 0, 0), 0, 0, [])), (31, (.iload 0, 1, (1, 0, 0), 0, 0, []))],
  [(32, (.invokevirtual 0, 3, (2, 212, 272), 0, 0, [])), (35, (.ireturn, 1, (0, 0, 0), 0, 0, []))]]
set_option maxRecDepth 20000 in
def tX7_strays : List (List (Nat × XE)) := [[(0, (.aload 0, 1, (0, 0, 0), 0, 0, [])), (1, (.iconst 0, 1, (0, 0, 0), 0, 0, [])), (2, (.invokevirtual 0, 3, (2, 213, 275), 0, 0, [])), (5, (.ireturn, 1, (0, 0, 0), 0, 0, []))]]
set_option maxRecDepth 20000 in
def tX7_there : List (List (Nat × XE)) := [[(0, (.aload 0, 1, (0, 0, 0), 0, 0, [])), (1, (.iload 0, 1, (1, 0, 0), 0, 0, [])), (2, (.invokevirtual 0, 3, (2, 140, 116), 0, 0, [])), (5, (.ifCond .eq 0, 3, (17, 0, 0), 0, 0, [])), (8, (.iload 0, 1, (2, 0, 0), 0, 0, [])), (9, (.iconst 0, 1, (0, 0, 0), 0, 0, [])), (10, (.iconst 0, 1, (0, 0, 0), 1, 0, [])), (11, (.invokevirtual 0, 3, (3, 139, 78), 0, 0, [])), (14, (.ifCond .ne 0, 3, (25, 0, 0), 0, 0, [])), (17, (.aload 0, 1, (0, 0, 0), 0, 0, [])), (18, (.iconst 0, 3, (0, 0, 0), (-1002), 0, [])), (21, (.invokevirtual 0, 3, (2, 138, 92), 0, 0, [])), (24, (.ireturn, 1, (0, 0, 0), 0, 0, [])), (25, (.iconst 0, 1, (0, 0, 0), 0, 0, [])), (26, (.istore 0, 1, (3, 0, 0), 0, 0, [])), (27, (.iload 0, 1, (2, 0, 0), 0, 0, [])), (28, (.ifCond .ne 0, 3, (77, 0, 0), 0, 0, [])), (31, (.iconst 0, 1, (0, 0, 0), 0, 0, []))],
  [(32, (.istore 0, 2, (4, 0, 0), 0, 0, [])), (34, (.iload 0, 2, (4, 0, 0), 0, 0, [])), (36, (.aload 0, 1, (0, 0, 0), 0, 0, [])), (37, (.getfield 0, 3, (7, 4, 82), 0, 0, [])), (40, (.if_icmp .ge 0, 3, (77, 0, 0), 0, 0, [])), (43, (.aload 0, 1, (0, 0, 0), 0, 0, [])), (44, (.getfield 0, 3, (7, 9, 28), 0, 0, [])), (47, (.iload 0, 2, (4, 0, 0), 0, 0, [])), (49, (.iaload, 1, (0, 0, 0), 0, 0, [])), (50, (.ifCond .ne 0, 3, (71, 0, 0), 0, 0, [])), (53, (.aload 0, 1, (0, 0, 0), 0, 0, [])), (54, (.getfield 0, 3, (7, 7, 22), 0, 0, [])), (57, (.iload 0, 2, (4, 0, 0), 0, 0, [])), (59, (.iaload, 1, (0, 0, 0), 0, 0, [])), (60, (.iload 0, 1, (1, 0, 0), 0, 0, [])), (61, (.if_icmp .ne 0, 3, (71, 0, 0), 0, 0, []))],
  [(64, (.iload 0, 1, (3, 0, 0), 0, 0, [])), (65, (.iconst 0, 1, (0, 0, 0), 1, 0, [])), (66, (.iload 0, 2, (4, 0, 0), 0, 0, [])), (68, (.ishl, 1, (0, 0, 0), 0, 0, [])), (69, (.ior, 1, (0, 0, 0), 0, 0, [])), (70, (.istore 0, 1, (3, 0, 0), 0, 0, [])), (71, (.iinc 0 0, 3, (4, 0, 0), 1, 0, [])), (74, (.goto 0, 3, (34, 0, 0), 0, 0, [])), (77, (.iload 0, 1, (2, 0, 0), 0, 0, [])), (78, (.iconst 0, 1, (0, 0, 0), 1, 0, [])), (79, (.if_icmp .ne 0, 3, (118, 0, 0), 0, 0, [])), (82, (.iconst 0, 1, (0, 0, 0), 0, 0, [])), (83, (.istore 0, 2, (4, 0, 0), 0, 0, [])), (85, (.iload 0, 2, (4, 0, 0), 0, 0, [])), (87, (.aload 0, 1, (0, 0, 0), 0, 0, [])), (88, (.getfield 0, 3, (7, 10, 85), 0, 0, [])), (91, (.if_icmp .ge 0, 3, (118, 0, 0), 0, 0, [])), (94, (.aload 0, 1, (0, 0, 0), 0, 0, [])), (95, (.getfield 0, 3, (7, 11, 31), 0, 0, []))],
  [(98, (.iload 0, 2, (4, 0, 0), 0, 0, [])), (100, (.iaload, 1, (0, 0, 0), 0, 0, [])), (101, (.iload 0, 1, (1, 0, 0), 0, 0, [])), (102, (.if_icmp .ne 0, 3, (112, 0, 0), 0, 0, [])), (105, (.iload 0, 1, (3, 0, 0), 0, 0, [])), (106, (.iconst 0, 1, (0, 0, 0), 1, 0, [])), (107, (.iload 0, 2, (4, 0, 0), 0, 0, [])), (109, (.ishl, 1, (0, 0, 0), 0, 0, [])), (110, (.ior, 1, (0, 0, 0), 0, 0, [])), (111, (.istore 0, 1, (3, 0, 0), 0, 0, [])), (112, (.iinc 0 0, 3, (4, 0, 0), 1, 0, [])), (115, (.goto 0, 3, (85, 0, 0), 0, 0, [])), (118, (.iload 0, 1, (3, 0, 0), 0, 0, [])), (119, (.ireturn, 1, (0, 0, 0), 0, 0, []))]]
set_option maxRecDepth 20000 in
def tX7_settles : List (List (Nat × XE)) := [[(0, (.aload 0, 1, (0, 0, 0), 0, 0, [])), (1, (.iload 0, 1, (1, 0, 0), 0, 0, [])), (2, (.invokevirtual 0, 3, (2, 141, 106), 0, 0, [])), (5, (.ifCond .ne 0, 3, (16, 0, 0), 0, 0, [])), (8, (.aload 0, 1, (0, 0, 0), 0, 0, [])), (9, (.iconst 0, 3, (0, 0, 0), (-1002), 0, [])), (12, (.invokevirtual 0, 3, (2, 138, 92), 0, 0, [])), (15, (.ireturn, 1, (0, 0, 0), 0, 0, [])), (16, (.aload 0, 1, (0, 0, 0), 0, 0, [])), (17, (.aload 0, 1, (0, 0, 0), 0, 0, [])), (18, (.getfield 0, 3, (7, 26, 56), 0, 0, [])), (21, (.invokevirtual 0, 3, (2, 232, 196), 0, 0, [])), (24, (.aload 0, 1, (0, 0, 0), 0, 0, [])), (25, (.getfield 0, 3, (7, 8, 25), 0, 0, [])), (28, (.iload 0, 1, (1, 0, 0), 0, 0, [])), (29, (.iconst 0, 1, (0, 0, 0), (-1), 0, [])), (30, (.iastore, 1, (0, 0, 0), 0, 0, [])), (31, (.iconst 0, 1, (0, 0, 0), 1, 0, []))],
  [(32, (.aload 0, 1, (0, 0, 0), 0, 0, [])), (33, (.getfield 0, 3, (7, 7, 22), 0, 0, [])), (36, (.iload 0, 1, (1, 0, 0), 0, 0, [])), (37, (.iaload, 1, (0, 0, 0), 0, 0, [])), (38, (.ishl, 1, (0, 0, 0), 0, 0, [])), (39, (.istore 0, 1, (2, 0, 0), 0, 0, [])), (40, (.iconst 0, 1, (0, 0, 0), (-1), 0, [])), (41, (.istore 0, 1, (3, 0, 0), 0, 0, [])), (42, (.iconst 0, 1, (0, 0, 0), 1, 0, [])), (43, (.istore 0, 2, (4, 0, 0), 0, 0, [])), (45, (.iload 0, 2, (4, 0, 0), 0, 0, [])), (47, (.iconst 0, 2, (0, 0, 0), 60, 0, [])), (49, (.if_icmp .gt 0, 3, (120, 0, 0), 0, 0, [])), (52, (.iload 0, 1, (3, 0, 0), 0, 0, [])), (53, (.iconst 0, 1, (0, 0, 0), (-1), 0, [])), (54, (.if_icmp .ne 0, 3, (120, 0, 0), 0, 0, [])), (57, (.aload 0, 1, (0, 0, 0), 0, 0, [])), (58, (.getfield 0, 3, (7, 9, 28), 0, 0, [])), (61, (.iload 0, 1, (1, 0, 0), 0, 0, [])), (62, (.iaload, 1, (0, 0, 0), 0, 0, [])), (63, (.iconst 0, 1, (0, 0, 0), 2, 0, []))],
  [(64, (.if_icmp .ge 0, 3, (120, 0, 0), 0, 0, [])), (67, (.aload 0, 1, (0, 0, 0), 0, 0, [])), (68, (.aload 0, 1, (0, 0, 0), 0, 0, [])), (69, (.getfield 0, 3, (7, 4, 82), 0, 0, [])), (72, (.invokevirtual 0, 3, (2, 185, 230), 0, 0, [])), (75, (.pop, 1, (0, 0, 0), 0, 0, [])), (76, (.aload 0, 1, (0, 0, 0), 0, 0, [])), (77, (.getfield 0, 3, (7, 9, 28), 0, 0, [])), (80, (.iload 0, 1, (1, 0, 0), 0, 0, [])), (81, (.iaload, 1, (0, 0, 0), 0, 0, [])), (82, (.iconst 0, 1, (0, 0, 0), 2, 0, [])), (83, (.if_icmp .ge 0, 3, (103, 0, 0), 0, 0, [])), (86, (.iload 0, 1, (2, 0, 0), 0, 0, [])), (87, (.aload 0, 1, (0, 0, 0), 0, 0, [])), (88, (.getfield 0, 3, (7, 7, 22), 0, 0, [])), (91, (.iload 0, 1, (1, 0, 0), 0, 0, [])), (92, (.iaload, 1, (0, 0, 0), 0, 0, [])), (93, (.ishr, 1, (0, 0, 0), 0, 0, [])), (94, (.iconst 0, 1, (0, 0, 0), 1, 0, [])), (95, (.iand, 1, (0, 0, 0), 0, 0, []))],
  [(96, (.iconst 0, 1, (0, 0, 0), 1, 0, [])), (97, (.if_icmp .ne 0, 3, (103, 0, 0), 0, 0, [])), (100, (.iload 0, 2, (4, 0, 0), 0, 0, [])), (102, (.istore 0, 1, (3, 0, 0), 0, 0, [])), (103, (.iload 0, 1, (2, 0, 0), 0, 0, [])), (104, (.iconst 0, 1, (0, 0, 0), 1, 0, [])), (105, (.aload 0, 1, (0, 0, 0), 0, 0, [])), (106, (.getfield 0, 3, (7, 7, 22), 0, 0, [])), (109, (.iload 0, 1, (1, 0, 0), 0, 0, [])), (110, (.iaload, 1, (0, 0, 0), 0, 0, [])), (111, (.ishl, 1, (0, 0, 0), 0, 0, [])), (112, (.ior, 1, (0, 0, 0), 0, 0, [])), (113, (.istore 0, 1, (2, 0, 0), 0, 0, [])), (114, (.iinc 0 0, 3, (4, 0, 0), 1, 0, [])), (117, (.goto 0, 3, (45, 0, 0), 0, 0, [])), (120, (.aload 0, 1, (0, 0, 0), 0, 0, [])), (121, (.aload 0, 1, (0, 0, 0), 0, 0, [])), (122, (.getfield 0, 3, (7, 26, 56), 0, 0, [])), (125, (.invokevirtual 0, 3, (2, 233, 203), 0, 0, []))],
  [(128, (.iload 0, 1, (3, 0, 0), 0, 0, [])), (129, (.ireturn, 1, (0, 0, 0), 0, 0, []))]]
set_option maxRecDepth 20000 in
def tX7_cellsOf : List (List (Nat × XE)) := [[(0, (.aload 0, 1, (0, 0, 0), 0, 0, [])), (1, (.aload 0, 1, (0, 0, 0), 0, 0, [])), (2, (.getfield 0, 3, (7, 26, 56), 0, 0, [])), (5, (.invokevirtual 0, 3, (2, 232, 196), 0, 0, [])), (8, (.aload 0, 1, (0, 0, 0), 0, 0, [])), (9, (.getfield 0, 3, (7, 8, 25), 0, 0, [])), (12, (.iload 0, 1, (1, 0, 0), 0, 0, [])), (13, (.iconst 0, 1, (0, 0, 0), (-1), 0, [])), (14, (.iastore, 1, (0, 0, 0), 0, 0, [])), (15, (.iconst 0, 1, (0, 0, 0), 1, 0, [])), (16, (.aload 0, 1, (0, 0, 0), 0, 0, [])), (17, (.getfield 0, 3, (7, 7, 22), 0, 0, [])), (20, (.iload 0, 1, (1, 0, 0), 0, 0, [])), (21, (.iaload, 1, (0, 0, 0), 0, 0, [])), (22, (.ishl, 1, (0, 0, 0), 0, 0, [])), (23, (.istore 0, 1, (2, 0, 0), 0, 0, [])), (24, (.iconst 0, 1, (0, 0, 0), 0, 0, [])), (25, (.istore 0, 1, (3, 0, 0), 0, 0, [])), (26, (.iload 0, 1, (3, 0, 0), 0, 0, [])), (27, (.iconst 0, 2, (0, 0, 0), 60, 0, [])), (29, (.if_icmp .ge 0, 3, (58, 0, 0), 0, 0, []))],
  [(32, (.aload 0, 1, (0, 0, 0), 0, 0, [])), (33, (.aload 0, 1, (0, 0, 0), 0, 0, [])), (34, (.getfield 0, 3, (7, 4, 82), 0, 0, [])), (37, (.invokevirtual 0, 3, (2, 185, 230), 0, 0, [])), (40, (.pop, 1, (0, 0, 0), 0, 0, [])), (41, (.iload 0, 1, (2, 0, 0), 0, 0, [])), (42, (.iconst 0, 1, (0, 0, 0), 1, 0, [])), (43, (.aload 0, 1, (0, 0, 0), 0, 0, [])), (44, (.getfield 0, 3, (7, 7, 22), 0, 0, [])), (47, (.iload 0, 1, (1, 0, 0), 0, 0, [])), (48, (.iaload, 1, (0, 0, 0), 0, 0, [])), (49, (.ishl, 1, (0, 0, 0), 0, 0, [])), (50, (.ior, 1, (0, 0, 0), 0, 0, [])), (51, (.istore 0, 1, (2, 0, 0), 0, 0, [])), (52, (.iinc 0 0, 3, (3, 0, 0), 1, 0, [])), (55, (.goto 0, 3, (26, 0, 0), 0, 0, [])), (58, (.aload 0, 1, (0, 0, 0), 0, 0, [])), (59, (.aload 0, 1, (0, 0, 0), 0, 0, [])), (60, (.getfield 0, 3, (7, 26, 56), 0, 0, [])), (63, (.invokevirtual 0, 3, (2, 233, 203), 0, 0, []))],
  [(66, (.iload 0, 1, (2, 0, 0), 0, 0, [])), (67, (.ireturn, 1, (0, 0, 0), 0, 0, []))]]
set_option maxRecDepth 20000 in
def tX7_reach : List (List (Nat × XE)) := [[(0, (.aload 0, 1, (0, 0, 0), 0, 0, [])), (1, (.iload 0, 1, (1, 0, 0), 0, 0, [])), (2, (.invokevirtual 0, 3, (2, 141, 106), 0, 0, [])), (5, (.ifCond .eq 0, 3, (17, 0, 0), 0, 0, [])), (8, (.iload 0, 1, (2, 0, 0), 0, 0, [])), (9, (.iconst 0, 1, (0, 0, 0), 0, 0, [])), (10, (.iconst 0, 1, (0, 0, 0), 1, 0, [])), (11, (.invokevirtual 0, 3, (3, 139, 78), 0, 0, [])), (14, (.ifCond .ne 0, 3, (25, 0, 0), 0, 0, [])), (17, (.aload 0, 1, (0, 0, 0), 0, 0, [])), (18, (.iconst 0, 3, (0, 0, 0), (-1002), 0, [])), (21, (.invokevirtual 0, 3, (2, 138, 92), 0, 0, [])), (24, (.ireturn, 1, (0, 0, 0), 0, 0, [])), (25, (.aload 0, 1, (0, 0, 0), 0, 0, [])), (26, (.iload 0, 1, (1, 0, 0), 0, 0, [])), (27, (.invokevirtual 0, 3, (2, 218, 278), 0, 0, [])), (30, (.istore 0, 1, (3, 0, 0), 0, 0, [])), (31, (.iload 0, 1, (2, 0, 0), 0, 0, []))],
  [(32, (.ifCond .ne 0, 3, (39, 0, 0), 0, 0, [])), (35, (.iconst 0, 1, (0, 0, 0), 0, 0, [])), (36, (.goto 0, 3, (45, 0, 0), 0, 0, [])), (39, (.aload 0, 1, (0, 0, 0), 0, 0, [])), (40, (.getfield 0, 3, (7, 0, 71), 0, 0, [])), (43, (.iconst 0, 1, (0, 0, 0), 1, 0, [])), (44, (.isub, 1, (0, 0, 0), 0, 0, [])), (45, (.istore 0, 2, (4, 0, 0), 0, 0, [])), (47, (.iload 0, 1, (3, 0, 0), 0, 0, [])), (48, (.iload 0, 2, (4, 0, 0), 0, 0, [])), (50, (.ishr, 1, (0, 0, 0), 0, 0, [])), (51, (.iconst 0, 1, (0, 0, 0), 1, 0, [])), (52, (.iand, 1, (0, 0, 0), 0, 0, [])), (53, (.ifCond .ne 0, 3, (73, 0, 0), 0, 0, [])), (56, (.iload 0, 2, (4, 0, 0), 0, 0, [])), (58, (.iload 0, 1, (2, 0, 0), 0, 0, [])), (59, (.ifCond .ne 0, 3, (66, 0, 0), 0, 0, [])), (62, (.iconst 0, 1, (0, 0, 0), 1, 0, [])), (63, (.goto 0, 3, (67, 0, 0), 0, 0, []))],
  [(66, (.iconst 0, 1, (0, 0, 0), (-1), 0, [])), (67, (.iadd, 1, (0, 0, 0), 0, 0, [])), (68, (.istore 0, 2, (4, 0, 0), 0, 0, [])), (70, (.goto 0, 3, (47, 0, 0), 0, 0, [])), (73, (.iload 0, 2, (4, 0, 0), 0, 0, [])), (75, (.ireturn, 1, (0, 0, 0), 0, 0, []))]]
set_option maxRecDepth 20000 in
def tX7_busiest : List (List (Nat × XE)) := [[(0, (.iload 0, 1, (1, 0, 0), 0, 0, [])), (1, (.iconst 0, 1, (0, 0, 0), 0, 0, [])), (2, (.iconst 0, 1, (0, 0, 0), 1, 0, [])), (3, (.invokevirtual 0, 3, (3, 139, 78), 0, 0, [])), (6, (.ifCond .ne 0, 3, (17, 0, 0), 0, 0, [])), (9, (.aload 0, 1, (0, 0, 0), 0, 0, [])), (10, (.iconst 0, 3, (0, 0, 0), (-1002), 0, [])), (13, (.invokevirtual 0, 3, (2, 138, 92), 0, 0, [])), (16, (.ireturn, 1, (0, 0, 0), 0, 0, [])), (17, (.iconst 0, 1, (0, 0, 0), 0, 0, [])), (18, (.istore 0, 1, (2, 0, 0), 0, 0, [])), (19, (.iload 0, 1, (2, 0, 0), 0, 0, [])), (20, (.aload 0, 1, (0, 0, 0), 0, 0, [])), (21, (.getfield 0, 3, (7, 0, 71), 0, 0, [])), (24, (.if_icmp .ge 0, 3, (40, 0, 0), 0, 0, [])), (27, (.aload 0, 1, (0, 0, 0), 0, 0, [])), (28, (.getfield 0, 3, (7, 32, 68), 0, 0, [])), (31, (.iload 0, 1, (2, 0, 0), 0, 0, []))],
  [(32, (.iconst 0, 1, (0, 0, 0), 0, 0, [])), (33, (.iastore, 1, (0, 0, 0), 0, 0, [])), (34, (.iinc 0 0, 3, (2, 0, 0), 1, 0, [])), (37, (.goto 0, 3, (19, 0, 0), 0, 0, [])), (40, (.iconst 0, 1, (0, 0, 0), 0, 0, [])), (41, (.istore 0, 1, (2, 0, 0), 0, 0, [])), (42, (.iload 0, 1, (2, 0, 0), 0, 0, [])), (43, (.aload 0, 1, (0, 0, 0), 0, 0, [])), (44, (.getfield 0, 3, (7, 4, 82), 0, 0, [])), (47, (.if_icmp .ge 0, 3, (96, 0, 0), 0, 0, [])), (50, (.aload 0, 1, (0, 0, 0), 0, 0, [])), (51, (.iload 0, 1, (2, 0, 0), 0, 0, [])), (52, (.invokevirtual 0, 3, (2, 218, 278), 0, 0, [])), (55, (.istore 0, 1, (3, 0, 0), 0, 0, [])), (56, (.iconst 0, 1, (0, 0, 0), 0, 0, [])), (57, (.istore 0, 2, (4, 0, 0), 0, 0, [])), (59, (.iload 0, 2, (4, 0, 0), 0, 0, [])), (61, (.aload 0, 1, (0, 0, 0), 0, 0, [])), (62, (.getfield 0, 3, (7, 0, 71), 0, 0, []))],
  [(65, (.if_icmp .ge 0, 3, (90, 0, 0), 0, 0, [])), (68, (.aload 0, 1, (0, 0, 0), 0, 0, [])), (69, (.getfield 0, 3, (7, 32, 68), 0, 0, [])), (72, (.iload 0, 2, (4, 0, 0), 0, 0, [])), (74, (.dup2, 1, (0, 0, 0), 0, 0, [])), (75, (.iaload, 1, (0, 0, 0), 0, 0, [])), (76, (.iload 0, 1, (3, 0, 0), 0, 0, [])), (77, (.iload 0, 2, (4, 0, 0), 0, 0, [])), (79, (.ishr, 1, (0, 0, 0), 0, 0, [])), (80, (.iconst 0, 1, (0, 0, 0), 1, 0, [])), (81, (.iand, 1, (0, 0, 0), 0, 0, [])), (82, (.iadd, 1, (0, 0, 0), 0, 0, [])), (83, (.iastore, 1, (0, 0, 0), 0, 0, [])), (84, (.iinc 0 0, 3, (4, 0, 0), 1, 0, [])), (87, (.goto 0, 3, (59, 0, 0), 0, 0, [])), (90, (.iinc 0 0, 3, (2, 0, 0), 1, 0, [])), (93, (.goto 0, 3, (42, 0, 0), 0, 0, []))],
  [(96, (.iconst 0, 1, (0, 0, 0), 0, 0, [])), (97, (.istore 0, 1, (2, 0, 0), 0, 0, [])), (98, (.iconst 0, 1, (0, 0, 0), 1, 0, [])), (99, (.istore 0, 1, (3, 0, 0), 0, 0, [])), (100, (.iload 0, 1, (3, 0, 0), 0, 0, [])), (101, (.aload 0, 1, (0, 0, 0), 0, 0, [])), (102, (.getfield 0, 3, (7, 0, 71), 0, 0, [])), (105, (.if_icmp .ge 0, 3, (131, 0, 0), 0, 0, [])), (108, (.aload 0, 1, (0, 0, 0), 0, 0, [])), (109, (.getfield 0, 3, (7, 32, 68), 0, 0, [])), (112, (.iload 0, 1, (3, 0, 0), 0, 0, [])), (113, (.iaload, 1, (0, 0, 0), 0, 0, [])), (114, (.aload 0, 1, (0, 0, 0), 0, 0, [])), (115, (.getfield 0, 3, (7, 32, 68), 0, 0, [])), (118, (.iload 0, 1, (2, 0, 0), 0, 0, [])), (119, (.iaload, 1, (0, 0, 0), 0, 0, [])), (120, (.if_icmp .le 0, 3, (125, 0, 0), 0, 0, [])), (123, (.iload 0, 1, (3, 0, 0), 0, 0, [])), (124, (.istore 0, 1, (2, 0, 0), 0, 0, [])), (125, (.iinc 0 0, 3, (3, 0, 0), 1, 0, []))],
  [(128, (.goto 0, 3, (100, 0, 0), 0, 0, [])), (131, (.iload 0, 1, (1, 0, 0), 0, 0, [])), (132, (.ifCond .ne 0, 3, (139, 0, 0), 0, 0, [])), (135, (.iload 0, 1, (2, 0, 0), 0, 0, [])), (136, (.goto 0, 3, (145, 0, 0), 0, 0, [])), (139, (.aload 0, 1, (0, 0, 0), 0, 0, [])), (140, (.getfield 0, 3, (7, 32, 68), 0, 0, [])), (143, (.iload 0, 1, (2, 0, 0), 0, 0, [])), (144, (.iaload, 1, (0, 0, 0), 0, 0, [])), (145, (.ireturn, 1, (0, 0, 0), 0, 0, []))]]
set_option maxRecDepth 20000 in
def tX7_round : List (List (Nat × XE)) := [[(0, (.aload 0, 1, (0, 0, 0), 0, 0, [])), (1, (.iload 0, 1, (1, 0, 0), 0, 0, [])), (2, (.invokevirtual 0, 3, (2, 142, 123), 0, 0, [])), (5, (.ifCond .ne 0, 3, (16, 0, 0), 0, 0, [])), (8, (.aload 0, 1, (0, 0, 0), 0, 0, [])), (9, (.iconst 0, 3, (0, 0, 0), (-1002), 0, [])), (12, (.invokevirtual 0, 3, (2, 138, 92), 0, 0, [])), (15, (.ireturn, 1, (0, 0, 0), 0, 0, [])), (16, (.aload 0, 1, (0, 0, 0), 0, 0, [])), (17, (.aload 0, 1, (0, 0, 0), 0, 0, [])), (18, (.getfield 0, 3, (7, 26, 56), 0, 0, [])), (21, (.invokevirtual 0, 3, (2, 232, 196), 0, 0, [])), (24, (.aload 0, 1, (0, 0, 0), 0, 0, [])), (25, (.getfield 0, 3, (7, 11, 31), 0, 0, [])), (28, (.iload 0, 1, (1, 0, 0), 0, 0, [])), (29, (.iaload, 1, (0, 0, 0), 0, 0, [])), (30, (.istore 0, 1, (2, 0, 0), 0, 0, [])), (31, (.aload 0, 1, (0, 0, 0), 0, 0, []))],
  [(32, (.getfield 0, 3, (7, 11, 31), 0, 0, [])), (35, (.iconst 0, 2, (0, 0, 0), 12, 0, [])), (37, (.iload 0, 1, (1, 0, 0), 0, 0, [])), (38, (.iadd, 1, (0, 0, 0), 0, 0, [])), (39, (.iaload, 1, (0, 0, 0), 0, 0, [])), (40, (.istore 0, 1, (3, 0, 0), 0, 0, [])), (41, (.iconst 0, 1, (0, 0, 0), (-1), 0, [])), (42, (.istore 0, 2, (4, 0, 0), 0, 0, [])), (44, (.iconst 0, 1, (0, 0, 0), 1, 0, [])), (45, (.istore 0, 2, (5, 0, 0), 0, 0, [])), (47, (.iload 0, 2, (5, 0, 0), 0, 0, [])), (49, (.iconst 0, 2, (0, 0, 0), 60, 0, [])), (51, (.if_icmp .gt 0, 3, (98, 0, 0), 0, 0, [])), (54, (.iload 0, 2, (4, 0, 0), 0, 0, [])), (56, (.iconst 0, 1, (0, 0, 0), (-1), 0, [])), (57, (.if_icmp .ne 0, 3, (98, 0, 0), 0, 0, [])), (60, (.aload 0, 1, (0, 0, 0), 0, 0, [])), (61, (.iload 0, 1, (1, 0, 0), 0, 0, [])), (62, (.invokevirtual 0, 3, (2, 184, 227), 0, 0, []))],
  [(65, (.aload 0, 1, (0, 0, 0), 0, 0, [])), (66, (.getfield 0, 3, (7, 11, 31), 0, 0, [])), (69, (.iload 0, 1, (1, 0, 0), 0, 0, [])), (70, (.iaload, 1, (0, 0, 0), 0, 0, [])), (71, (.iload 0, 1, (2, 0, 0), 0, 0, [])), (72, (.if_icmp .ne 0, 3, (92, 0, 0), 0, 0, [])), (75, (.aload 0, 1, (0, 0, 0), 0, 0, [])), (76, (.getfield 0, 3, (7, 11, 31), 0, 0, [])), (79, (.iconst 0, 2, (0, 0, 0), 12, 0, [])), (81, (.iload 0, 1, (1, 0, 0), 0, 0, [])), (82, (.iadd, 1, (0, 0, 0), 0, 0, [])), (83, (.iaload, 1, (0, 0, 0), 0, 0, [])), (84, (.iload 0, 1, (3, 0, 0), 0, 0, [])), (85, (.if_icmp .ne 0, 3, (92, 0, 0), 0, 0, [])), (88, (.iload 0, 2, (5, 0, 0), 0, 0, [])), (90, (.istore 0, 2, (4, 0, 0), 0, 0, [])), (92, (.iinc 0 0, 3, (5, 0, 0), 1, 0, [])), (95, (.goto 0, 3, (47, 0, 0), 0, 0, []))],
  [(98, (.aload 0, 1, (0, 0, 0), 0, 0, [])), (99, (.aload 0, 1, (0, 0, 0), 0, 0, [])), (100, (.getfield 0, 3, (7, 26, 56), 0, 0, [])), (103, (.invokevirtual 0, 3, (2, 233, 203), 0, 0, [])), (106, (.iload 0, 2, (4, 0, 0), 0, 0, [])), (108, (.ireturn, 1, (0, 0, 0), 0, 0, []))]]
set_option maxRecDepth 20000 in
def tX7_join : List (List (Nat × XE)) := [[(0, (.aload 0, 1, (0, 0, 0), 0, 0, [])), (1, (.iload 0, 1, (1, 0, 0), 0, 0, [])), (2, (.invokevirtual 0, 3, (2, 141, 106), 0, 0, [])), (5, (.ifCond .eq 0, 3, (21, 0, 0), 0, 0, [])), (8, (.aload 0, 1, (0, 0, 0), 0, 0, [])), (9, (.iload 0, 1, (2, 0, 0), 0, 0, [])), (10, (.invokevirtual 0, 3, (2, 141, 106), 0, 0, [])), (13, (.ifCond .eq 0, 3, (21, 0, 0), 0, 0, [])), (16, (.iload 0, 1, (1, 0, 0), 0, 0, [])), (17, (.iload 0, 1, (2, 0, 0), 0, 0, [])), (18, (.if_icmp .ne 0, 3, (29, 0, 0), 0, 0, [])), (21, (.aload 0, 1, (0, 0, 0), 0, 0, [])), (22, (.iconst 0, 3, (0, 0, 0), (-1002), 0, [])), (25, (.invokevirtual 0, 3, (2, 138, 92), 0, 0, [])), (28, (.ireturn, 1, (0, 0, 0), 0, 0, [])), (29, (.aload 0, 1, (0, 0, 0), 0, 0, [])), (30, (.aload 0, 1, (0, 0, 0), 0, 0, [])), (31, (.getfield 0, 3, (7, 26, 56), 0, 0, []))],
  [(34, (.invokevirtual 0, 3, (2, 232, 196), 0, 0, [])), (37, (.aload 0, 1, (0, 0, 0), 0, 0, [])), (38, (.getfield 0, 3, (7, 8, 25), 0, 0, [])), (41, (.iload 0, 1, (1, 0, 0), 0, 0, [])), (42, (.iconst 0, 1, (0, 0, 0), (-1), 0, [])), (43, (.iastore, 1, (0, 0, 0), 0, 0, [])), (44, (.aload 0, 1, (0, 0, 0), 0, 0, [])), (45, (.getfield 0, 3, (7, 8, 25), 0, 0, [])), (48, (.iload 0, 1, (2, 0, 0), 0, 0, [])), (49, (.iconst 0, 1, (0, 0, 0), (-1), 0, [])), (50, (.iastore, 1, (0, 0, 0), 0, 0, [])), (51, (.iconst 0, 1, (0, 0, 0), (-1), 0, [])), (52, (.istore 0, 1, (3, 0, 0), 0, 0, [])), (53, (.iconst 0, 1, (0, 0, 0), 0, 0, [])), (54, (.istore 0, 2, (4, 0, 0), 0, 0, [])), (56, (.iload 0, 2, (4, 0, 0), 0, 0, [])), (58, (.iconst 0, 2, (0, 0, 0), 60, 0, [])), (60, (.if_icmp .gt 0, 3, (124, 0, 0), 0, 0, [])), (63, (.iload 0, 1, (3, 0, 0), 0, 0, []))],
  [(64, (.iconst 0, 1, (0, 0, 0), (-1), 0, [])), (65, (.if_icmp .ne 0, 3, (124, 0, 0), 0, 0, [])), (68, (.iload 0, 2, (4, 0, 0), 0, 0, [])), (70, (.ifCond .le 0, 3, (82, 0, 0), 0, 0, [])), (73, (.aload 0, 1, (0, 0, 0), 0, 0, [])), (74, (.aload 0, 1, (0, 0, 0), 0, 0, [])), (75, (.getfield 0, 3, (7, 4, 82), 0, 0, [])), (78, (.invokevirtual 0, 3, (2, 185, 230), 0, 0, [])), (81, (.pop, 1, (0, 0, 0), 0, 0, [])), (82, (.aload 0, 1, (0, 0, 0), 0, 0, [])), (83, (.getfield 0, 3, (7, 9, 28), 0, 0, [])), (86, (.iload 0, 1, (1, 0, 0), 0, 0, [])), (87, (.iaload, 1, (0, 0, 0), 0, 0, [])), (88, (.ifCond .ne 0, 3, (118, 0, 0), 0, 0, [])), (91, (.aload 0, 1, (0, 0, 0), 0, 0, [])), (92, (.getfield 0, 3, (7, 9, 28), 0, 0, [])), (95, (.iload 0, 1, (2, 0, 0), 0, 0, []))],
  [(96, (.iaload, 1, (0, 0, 0), 0, 0, [])), (97, (.ifCond .ne 0, 3, (118, 0, 0), 0, 0, [])), (100, (.aload 0, 1, (0, 0, 0), 0, 0, [])), (101, (.getfield 0, 3, (7, 7, 22), 0, 0, [])), (104, (.iload 0, 1, (1, 0, 0), 0, 0, [])), (105, (.iaload, 1, (0, 0, 0), 0, 0, [])), (106, (.aload 0, 1, (0, 0, 0), 0, 0, [])), (107, (.getfield 0, 3, (7, 7, 22), 0, 0, [])), (110, (.iload 0, 1, (2, 0, 0), 0, 0, [])), (111, (.iaload, 1, (0, 0, 0), 0, 0, [])), (112, (.if_icmp .ne 0, 3, (118, 0, 0), 0, 0, [])), (115, (.iload 0, 2, (4, 0, 0), 0, 0, [])), (117, (.istore 0, 1, (3, 0, 0), 0, 0, [])), (118, (.iinc 0 0, 3, (4, 0, 0), 1, 0, [])), (121, (.goto 0, 3, (56, 0, 0), 0, 0, [])), (124, (.aload 0, 1, (0, 0, 0), 0, 0, [])), (125, (.aload 0, 1, (0, 0, 0), 0, 0, [])), (126, (.getfield 0, 3, (7, 26, 56), 0, 0, []))],
  [(129, (.invokevirtual 0, 3, (2, 233, 203), 0, 0, [])), (132, (.iload 0, 1, (3, 0, 0), 0, 0, [])), (133, (.ireturn, 1, (0, 0, 0), 0, 0, []))]]
set_option maxRecDepth 20000 in
def tX7_first : List (List (Nat × XE)) := [[(0, (.aload 0, 1, (0, 0, 0), 0, 0, [])), (1, (.iload 0, 1, (1, 0, 0), 0, 0, [])), (2, (.invokevirtual 0, 3, (2, 142, 123), 0, 0, [])), (5, (.ifCond .ne 0, 3, (16, 0, 0), 0, 0, [])), (8, (.aload 0, 1, (0, 0, 0), 0, 0, [])), (9, (.iconst 0, 3, (0, 0, 0), (-1002), 0, [])), (12, (.invokevirtual 0, 3, (2, 138, 92), 0, 0, [])), (15, (.ireturn, 1, (0, 0, 0), 0, 0, [])), (16, (.iconst 0, 1, (0, 0, 0), (-1), 0, [])), (17, (.istore 0, 1, (2, 0, 0), 0, 0, [])), (18, (.iconst 0, 2, (0, 0, 0), 61, 0, [])), (20, (.istore 0, 1, (3, 0, 0), 0, 0, [])), (21, (.iconst 0, 1, (0, 0, 0), 0, 0, [])), (22, (.istore 0, 2, (4, 0, 0), 0, 0, [])), (24, (.iload 0, 2, (4, 0, 0), 0, 0, [])), (26, (.aload 0, 1, (0, 0, 0), 0, 0, [])), (27, (.getfield 0, 3, (7, 4, 82), 0, 0, [])), (30, (.if_icmp .ge 0, 3, (98, 0, 0), 0, 0, []))],
  [(33, (.aload 0, 1, (0, 0, 0), 0, 0, [])), (34, (.getfield 0, 3, (7, 8, 25), 0, 0, [])), (37, (.iload 0, 2, (4, 0, 0), 0, 0, [])), (39, (.iaload, 1, (0, 0, 0), 0, 0, [])), (40, (.iload 0, 1, (1, 0, 0), 0, 0, [])), (41, (.if_icmp .ne 0, 3, (68, 0, 0), 0, 0, [])), (44, (.aload 0, 1, (0, 0, 0), 0, 0, [])), (45, (.getfield 0, 3, (7, 9, 28), 0, 0, [])), (48, (.iload 0, 2, (4, 0, 0), 0, 0, [])), (50, (.iaload, 1, (0, 0, 0), 0, 0, [])), (51, (.ifCond .ne 0, 3, (68, 0, 0), 0, 0, [])), (54, (.aload 0, 1, (0, 0, 0), 0, 0, [])), (55, (.iload 0, 2, (4, 0, 0), 0, 0, [])), (57, (.iconst 0, 1, (0, 0, 0), 1, 0, [])), (58, (.aload 0, 1, (0, 0, 0), 0, 0, [])), (59, (.getfield 0, 3, (7, 4, 82), 0, 0, [])), (62, (.invokevirtual 0, 3, (4, 190, 239), 0, 0, []))],
  [(65, (.goto 0, 3, (69, 0, 0), 0, 0, [])), (68, (.iconst 0, 1, (0, 0, 0), (-1), 0, [])), (69, (.istore 0, 2, (5, 0, 0), 0, 0, [])), (71, (.iload 0, 2, (5, 0, 0), 0, 0, [])), (73, (.iconst 0, 1, (0, 0, 0), (-1), 0, [])), (74, (.if_icmp .eq 0, 3, (92, 0, 0), 0, 0, [])), (77, (.iload 0, 2, (5, 0, 0), 0, 0, [])), (79, (.iload 0, 1, (3, 0, 0), 0, 0, [])), (80, (.if_icmp .lt 0, 3, (86, 0, 0), 0, 0, [])), (83, (.goto 0, 3, (92, 0, 0), 0, 0, [])), (86, (.iload 0, 2, (5, 0, 0), 0, 0, [])), (88, (.istore 0, 1, (3, 0, 0), 0, 0, [])), (89, (.iload 0, 2, (4, 0, 0), 0, 0, [])), (91, (.istore 0, 1, (2, 0, 0), 0, 0, [])), (92, (.iinc 0 0, 3, (4, 0, 0), 1, 0, [])), (95, (.goto 0, 3, (24, 0, 0), 0, 0, []))],
  [(98, (.iload 0, 1, (2, 0, 0), 0, 0, [])), (99, (.ireturn, 1, (0, 0, 0), 0, 0, []))]]
set_option maxRecDepth 20000 in
def tX7_next_ : List (List (Nat × XE)) := [[(0, (.iload 0, 1, (1, 0, 0), 0, 0, [])), (1, (.iload 0, 1, (2, 0, 0), 0, 0, [])), (2, (.invokevirtual 0, 3, (2, 143, 126), 0, 0, [])), (5, (.ifCond .eq 0, 3, (16, 0, 0), 0, 0, [])), (8, (.aload 0, 1, (0, 0, 0), 0, 0, [])), (9, (.iload 0, 1, (3, 0, 0), 0, 0, [])), (10, (.invokevirtual 0, 3, (2, 140, 116), 0, 0, [])), (13, (.ifCond .ne 0, 3, (24, 0, 0), 0, 0, [])), (16, (.aload 0, 1, (0, 0, 0), 0, 0, [])), (17, (.iconst 0, 3, (0, 0, 0), (-1002), 0, [])), (20, (.invokevirtual 0, 3, (2, 138, 92), 0, 0, [])), (23, (.ireturn, 1, (0, 0, 0), 0, 0, [])), (24, (.aload 0, 1, (0, 0, 0), 0, 0, [])), (25, (.iconst 0, 2, (0, 0, 0), 8, 0, [])), (27, (.iload 0, 1, (1, 0, 0), 0, 0, [])), (28, (.iload 0, 1, (2, 0, 0), 0, 0, [])), (29, (.iload 0, 1, (3, 0, 0), 0, 0, [])), (30, (.iconst 0, 1, (0, 0, 0), (-1), 0, [])), (31, (.invokevirtual 0, 3, (6, 163, 129), 0, 0, []))],
  [(34, (.aload 0, 1, (0, 0, 0), 0, 0, [])), (35, (.iconst 0, 2, (0, 0, 0), 8, 0, [])), (37, (.invokevirtual 0, 3, (2, 183, 223), 0, 0, [])), (40, (.aload 0, 1, (0, 0, 0), 0, 0, [])), (41, (.getfield 0, 3, (7, 9, 28), 0, 0, [])), (44, (.iconst 0, 2, (0, 0, 0), 8, 0, [])), (46, (.iaload, 1, (0, 0, 0), 0, 0, [])), (47, (.ifCond .ne 0, 3, (60, 0, 0), 0, 0, [])), (50, (.aload 0, 1, (0, 0, 0), 0, 0, [])), (51, (.getfield 0, 3, (7, 7, 22), 0, 0, [])), (54, (.iconst 0, 2, (0, 0, 0), 8, 0, [])), (56, (.iaload, 1, (0, 0, 0), 0, 0, [])), (57, (.goto 0, 3, (61, 0, 0), 0, 0, [])), (60, (.iconst 0, 1, (0, 0, 0), (-1), 0, [])), (61, (.ireturn, 1, (0, 0, 0), 0, 0, []))]]
set_option maxRecDepth 20000 in
def tX7_stays : List (List (Nat × XE)) := [[(0, (.iload 0, 1, (1, 0, 0), 0, 0, [])), (1, (.iload 0, 1, (2, 0, 0), 0, 0, [])), (2, (.invokevirtual 0, 3, (2, 143, 126), 0, 0, [])), (5, (.ifCond .ne 0, 3, (16, 0, 0), 0, 0, [])), (8, (.aload 0, 1, (0, 0, 0), 0, 0, [])), (9, (.iconst 0, 3, (0, 0, 0), (-1002), 0, [])), (12, (.invokevirtual 0, 3, (2, 138, 92), 0, 0, [])), (15, (.ireturn, 1, (0, 0, 0), 0, 0, [])), (16, (.iconst 0, 1, (0, 0, 0), 0, 0, [])), (17, (.istore 0, 1, (3, 0, 0), 0, 0, [])), (18, (.iconst 0, 1, (0, 0, 0), 0, 0, [])), (19, (.istore 0, 2, (4, 0, 0), 0, 0, [])), (21, (.iload 0, 2, (4, 0, 0), 0, 0, [])), (23, (.aload 0, 1, (0, 0, 0), 0, 0, [])), (24, (.getfield 0, 3, (7, 0, 71), 0, 0, [])), (27, (.if_icmp .ge 0, 3, (72, 0, 0), 0, 0, [])), (30, (.aload 0, 1, (0, 0, 0), 0, 0, [])), (31, (.iconst 0, 2, (0, 0, 0), 8, 0, []))],
  [(33, (.iload 0, 1, (1, 0, 0), 0, 0, [])), (34, (.iload 0, 1, (2, 0, 0), 0, 0, [])), (35, (.iload 0, 2, (4, 0, 0), 0, 0, [])), (37, (.iconst 0, 1, (0, 0, 0), (-1), 0, [])), (38, (.invokevirtual 0, 3, (6, 163, 129), 0, 0, [])), (41, (.aload 0, 1, (0, 0, 0), 0, 0, [])), (42, (.iconst 0, 2, (0, 0, 0), 8, 0, [])), (44, (.invokevirtual 0, 3, (2, 183, 223), 0, 0, [])), (47, (.aload 0, 1, (0, 0, 0), 0, 0, [])), (48, (.getfield 0, 3, (7, 7, 22), 0, 0, [])), (51, (.iconst 0, 2, (0, 0, 0), 8, 0, [])), (53, (.iaload, 1, (0, 0, 0), 0, 0, [])), (54, (.iload 0, 2, (4, 0, 0), 0, 0, [])), (56, (.if_icmp .ne 0, 3, (66, 0, 0), 0, 0, [])), (59, (.iload 0, 1, (3, 0, 0), 0, 0, [])), (60, (.iconst 0, 1, (0, 0, 0), 1, 0, [])), (61, (.iload 0, 2, (4, 0, 0), 0, 0, [])), (63, (.ishl, 1, (0, 0, 0), 0, 0, []))],
  [(64, (.ior, 1, (0, 0, 0), 0, 0, [])), (65, (.istore 0, 1, (3, 0, 0), 0, 0, [])), (66, (.iinc 0 0, 3, (4, 0, 0), 1, 0, [])), (69, (.goto 0, 3, (21, 0, 0), 0, 0, [])), (72, (.iload 0, 1, (3, 0, 0), 0, 0, [])), (73, (.ireturn, 1, (0, 0, 0), 0, 0, []))]]
set_option maxRecDepth 20000 in
def tX7_ofKind : List (List (Nat × XE)) := [[(0, (.iload 0, 1, (1, 0, 0), 0, 0, [])), (1, (.iconst 0, 1, (0, 0, 0), 0, 0, [])), (2, (.iconst 0, 1, (0, 0, 0), 5, 0, [])), (3, (.invokevirtual 0, 3, (3, 139, 78), 0, 0, [])), (6, (.ifCond .ne 0, 3, (17, 0, 0), 0, 0, [])), (9, (.aload 0, 1, (0, 0, 0), 0, 0, [])), (10, (.iconst 0, 3, (0, 0, 0), (-1002), 0, [])), (13, (.invokevirtual 0, 3, (2, 138, 92), 0, 0, [])), (16, (.ireturn, 1, (0, 0, 0), 0, 0, [])), (17, (.iconst 0, 1, (0, 0, 0), 0, 0, [])), (18, (.istore 0, 1, (2, 0, 0), 0, 0, [])), (19, (.iconst 0, 1, (0, 0, 0), 0, 0, [])), (20, (.istore 0, 1, (3, 0, 0), 0, 0, [])), (21, (.iload 0, 1, (3, 0, 0), 0, 0, [])), (22, (.aload 0, 1, (0, 0, 0), 0, 0, [])), (23, (.getfield 0, 3, (7, 4, 82), 0, 0, [])), (26, (.if_icmp .ge 0, 3, (48, 0, 0), 0, 0, [])), (29, (.aload 0, 1, (0, 0, 0), 0, 0, [])), (30, (.getfield 0, 3, (7, 5, 16), 0, 0, []))],
  [(33, (.iload 0, 1, (3, 0, 0), 0, 0, [])), (34, (.iaload, 1, (0, 0, 0), 0, 0, [])), (35, (.iload 0, 1, (1, 0, 0), 0, 0, [])), (36, (.if_icmp .ne 0, 3, (42, 0, 0), 0, 0, [])), (39, (.iinc 0 0, 3, (2, 0, 0), 1, 0, [])), (42, (.iinc 0 0, 3, (3, 0, 0), 1, 0, [])), (45, (.goto 0, 3, (21, 0, 0), 0, 0, [])), (48, (.iload 0, 1, (2, 0, 0), 0, 0, [])), (49, (.ireturn, 1, (0, 0, 0), 0, 0, []))]]
set_option maxRecDepth 20000 in
def tX7_judge : List (List (Nat × XE)) := [[(0, (.iload 0, 1, (1, 0, 0), 0, 0, [])), (1, (.invokevirtual 0, 3, (1, 145, 88), 0, 0, [])), (4, (.ifCond .eq 0, 3, (25, 0, 0), 0, 0, [])), (7, (.iload 0, 1, (2, 0, 0), 0, 0, [])), (8, (.iconst 0, 1, (0, 0, 0), 0, 0, [])), (9, (.iconst 0, 2, (0, 0, 0), 40, 0, [])), (11, (.invokevirtual 0, 3, (3, 139, 78), 0, 0, [])), (14, (.ifCond .eq 0, 3, (25, 0, 0), 0, 0, [])), (17, (.aload 0, 1, (0, 0, 0), 0, 0, [])), (18, (.iload 0, 1, (3, 0, 0), 0, 0, [])), (19, (.invokevirtual 0, 3, (2, 141, 106), 0, 0, [])), (22, (.ifCond .ne 0, 3, (33, 0, 0), 0, 0, [])), (25, (.aload 0, 1, (0, 0, 0), 0, 0, [])), (26, (.iconst 0, 3, (0, 0, 0), (-1002), 0, [])), (29, (.invokevirtual 0, 3, (2, 138, 92), 0, 0, []))],
  [(32, (.ireturn, 1, (0, 0, 0), 0, 0, [])), (33, (.aload 0, 1, (0, 0, 0), 0, 0, [])), (34, (.iload 0, 1, (1, 0, 0), 0, 0, [])), (35, (.iload 0, 1, (2, 0, 0), 0, 0, [])), (36, (.invokevirtual 0, 3, (3, 202, 256), 0, 0, [])), (39, (.istore 0, 2, (4, 0, 0), 0, 0, [])), (41, (.iload 0, 2, (4, 0, 0), 0, 0, [])), (43, (.ifCond .ge 0, 3, (53, 0, 0), 0, 0, [])), (46, (.aload 0, 1, (0, 0, 0), 0, 0, [])), (47, (.iload 0, 2, (4, 0, 0), 0, 0, [])), (49, (.invokevirtual 0, 3, (2, 138, 92), 0, 0, [])), (52, (.ireturn, 1, (0, 0, 0), 0, 0, [])), (53, (.aload 0, 1, (0, 0, 0), 0, 0, [])), (54, (.aload 0, 1, (0, 0, 0), 0, 0, [])), (55, (.getfield 0, 3, (7, 26, 56), 0, 0, [])), (58, (.invokevirtual 0, 3, (2, 232, 196), 0, 0, [])), (61, (.iconst 0, 1, (0, 0, 0), (-1), 0, [])), (62, (.istore 0, 2, (5, 0, 0), 0, 0, []))],
  [(64, (.iconst 0, 1, (0, 0, 0), 0, 0, [])), (65, (.istore 0, 2, (6, 0, 0), 0, 0, [])), (67, (.iload 0, 2, (6, 0, 0), 0, 0, [])), (69, (.iload 0, 1, (2, 0, 0), 0, 0, [])), (70, (.if_icmp .ge 0, 3, (116, 0, 0), 0, 0, [])), (73, (.iload 0, 2, (5, 0, 0), 0, 0, [])), (75, (.iconst 0, 1, (0, 0, 0), (-1), 0, [])), (76, (.if_icmp .ne 0, 3, (116, 0, 0), 0, 0, [])), (79, (.aload 0, 1, (0, 0, 0), 0, 0, [])), (80, (.aload 0, 1, (0, 0, 0), 0, 0, [])), (81, (.getfield 0, 3, (7, 4, 82), 0, 0, [])), (84, (.invokevirtual 0, 3, (2, 185, 230), 0, 0, [])), (87, (.pop, 1, (0, 0, 0), 0, 0, [])), (88, (.aload 0, 1, (0, 0, 0), 0, 0, [])), (89, (.getfield 0, 3, (7, 7, 22), 0, 0, [])), (92, (.iload 0, 1, (3, 0, 0), 0, 0, [])), (93, (.iaload, 1, (0, 0, 0), 0, 0, [])), (94, (.i2l, 1, (0, 0, 0), 0, 0, [])), (95, (.aload 0, 1, (0, 0, 0), 0, 0, []))],
  [(96, (.iload 0, 1, (1, 0, 0), 0, 0, [])), (97, (.iload 0, 2, (6, 0, 0), 0, 0, [])), (99, (.invokevirtual 0, 3, (3, 201, 252), 0, 0, [])), (102, (.lcmp, 1, (0, 0, 0), 0, 0, [])), (103, (.ifCond .eq 0, 3, (110, 0, 0), 0, 0, [])), (106, (.iload 0, 2, (6, 0, 0), 0, 0, [])), (108, (.istore 0, 2, (5, 0, 0), 0, 0, [])), (110, (.iinc 0 0, 3, (6, 0, 0), 1, 0, [])), (113, (.goto 0, 3, (67, 0, 0), 0, 0, [])), (116, (.aload 0, 1, (0, 0, 0), 0, 0, [])), (117, (.aload 0, 1, (0, 0, 0), 0, 0, [])), (118, (.getfield 0, 3, (7, 26, 56), 0, 0, [])), (121, (.invokevirtual 0, 3, (2, 233, 203), 0, 0, [])), (124, (.iload 0, 2, (5, 0, 0), 0, 0, [])), (126, (.ireturn, 1, (0, 0, 0), 0, 0, []))]]
set_option maxRecDepth 20000 in
def tX7_days : List (List (Nat × XE)) := [[(0, (.iload 0, 1, (1, 0, 0), 0, 0, [])), (1, (.iconst 0, 1, (0, 0, 0), 1, 0, [])), (2, (.iconst 0, 2, (0, 0, 0), 60, 0, [])), (4, (.invokevirtual 0, 3, (3, 139, 78), 0, 0, [])), (7, (.ifCond .ne 0, 3, (18, 0, 0), 0, 0, [])), (10, (.aload 0, 1, (0, 0, 0), 0, 0, [])), (11, (.iconst 0, 3, (0, 0, 0), (-1002), 0, [])), (14, (.invokevirtual 0, 3, (2, 138, 92), 0, 0, [])), (17, (.ireturn, 1, (0, 0, 0), 0, 0, [])), (18, (.aload 0, 1, (0, 0, 0), 0, 0, [])), (19, (.dup, 1, (0, 0, 0), 0, 0, [])), (20, (.getfield 0, 3, (7, 3, 281), 0, 0, [])), (23, (.aload 0, 1, (0, 0, 0), 0, 0, [])), (24, (.iload 0, 1, (1, 0, 0), 0, 0, [])), (25, (.invokevirtual 0, 3, (2, 186, 236), 0, 0, [])), (28, (.iadd, 1, (0, 0, 0), 0, 0, [])), (29, (.putfield 0, 3, (7, 3, 281), 0, 0, []))],
  [(32, (.aload 0, 1, (0, 0, 0), 0, 0, [])), (33, (.getfield 0, 3, (7, 3, 281), 0, 0, [])), (36, (.ireturn, 1, (0, 0, 0), 0, 0, []))]]
set_option maxRecDepth 20000 in
def tX7_draw : List (List (Nat × XE)) := [[(0, (.aload 0, 1, (0, 0, 0), 0, 0, [])), (1, (.aload 0, 1, (0, 0, 0), 0, 0, [])), (2, (.getfield 0, 3, (7, 12, 75), 0, 0, [])), (5, (.iconst 0, 3, (284, 1, 0), 1103515245, 0, [])), (8, (.imul, 1, (0, 0, 0), 0, 0, [])), (9, (.iconst 0, 3, (0, 0, 0), 12345, 0, [])), (12, (.iadd, 1, (0, 0, 0), 0, 0, [])), (13, (.putfield 0, 3, (7, 12, 75), 0, 0, [])), (16, (.aload 0, 1, (0, 0, 0), 0, 0, [])), (17, (.getfield 0, 3, (7, 12, 75), 0, 0, [])), (20, (.iconst 0, 2, (0, 0, 0), 16, 0, [])), (22, (.iushr, 1, (0, 0, 0), 0, 0, [])), (23, (.iload 0, 1, (1, 0, 0), 0, 0, [])), (24, (.irem, 1, (0, 0, 0), 0, 0, [])), (25, (.ireturn, 1, (0, 0, 0), 0, 0, []))]]
set_option maxRecDepth 20000 in
def tX7_drawn : List (List (Nat × XE)) := [[(0, (.iload 0, 1, (1, 0, 0), 0, 0, [])), (1, (.iconst 0, 1, (0, 0, 0), 1, 0, [])), (2, (.iconst 0, 2, (0, 0, 0), 60, 0, [])), (4, (.invokevirtual 0, 3, (3, 139, 78), 0, 0, [])), (7, (.ifCond .ne 0, 3, (18, 0, 0), 0, 0, [])), (10, (.aload 0, 1, (0, 0, 0), 0, 0, [])), (11, (.iconst 0, 3, (0, 0, 0), (-1002), 0, [])), (14, (.invokevirtual 0, 3, (2, 138, 92), 0, 0, [])), (17, (.ireturn, 1, (0, 0, 0), 0, 0, [])), (18, (.aload 0, 1, (0, 0, 0), 0, 0, [])), (19, (.getfield 0, 3, (7, 4, 82), 0, 0, [])), (22, (.ifCond .ne 0, 3, (33, 0, 0), 0, 0, [])), (25, (.aload 0, 1, (0, 0, 0), 0, 0, [])), (26, (.iconst 0, 3, (0, 0, 0), (-1005), 0, [])), (29, (.invokevirtual 0, 3, (2, 138, 92), 0, 0, []))],
  [(32, (.ireturn, 1, (0, 0, 0), 0, 0, [])), (33, (.iconst 0, 1, (0, 0, 0), 0, 0, [])), (34, (.istore 0, 1, (2, 0, 0), 0, 0, [])), (35, (.iconst 0, 1, (0, 0, 0), 0, 0, [])), (36, (.istore 0, 1, (3, 0, 0), 0, 0, [])), (37, (.iload 0, 1, (3, 0, 0), 0, 0, [])), (38, (.iload 0, 1, (1, 0, 0), 0, 0, [])), (39, (.if_icmp .ge 0, 3, (129, 0, 0), 0, 0, [])), (42, (.aload 0, 1, (0, 0, 0), 0, 0, [])), (43, (.getfield 0, 3, (7, 2, 13), 0, 0, [])), (46, (.iconst 0, 1, (0, 0, 0), 0, 0, [])), (47, (.aload 0, 1, (0, 0, 0), 0, 0, [])), (48, (.iconst 0, 1, (0, 0, 0), 5, 0, [])), (49, (.invokevirtual 0, 3, (2, 229, 285), 0, 0, [])), (52, (.iastore, 1, (0, 0, 0), 0, 0, [])), (53, (.aload 0, 1, (0, 0, 0), 0, 0, [])), (54, (.aload 0, 1, (0, 0, 0), 0, 0, [])), (55, (.getfield 0, 3, (7, 4, 82), 0, 0, [])), (58, (.invokevirtual 0, 3, (2, 229, 285), 0, 0, [])), (61, (.istore 0, 2, (4, 0, 0), 0, 0, [])), (63, (.aload 0, 1, (0, 0, 0), 0, 0, []))],
  [(64, (.aload 0, 1, (0, 0, 0), 0, 0, [])), (65, (.getfield 0, 3, (7, 0, 71), 0, 0, [])), (68, (.invokevirtual 0, 3, (2, 229, 285), 0, 0, [])), (71, (.istore 0, 2, (5, 0, 0), 0, 0, [])), (73, (.aload 0, 1, (0, 0, 0), 0, 0, [])), (74, (.getfield 0, 3, (7, 9, 28), 0, 0, [])), (77, (.iload 0, 2, (4, 0, 0), 0, 0, [])), (79, (.iaload, 1, (0, 0, 0), 0, 0, [])), (80, (.ifCond .eq 0, 3, (112, 0, 0), 0, 0, [])), (83, (.aload 0, 1, (0, 0, 0), 0, 0, [])), (84, (.iload 0, 2, (4, 0, 0), 0, 0, [])), (86, (.aload 0, 1, (0, 0, 0), 0, 0, [])), (87, (.getfield 0, 3, (7, 5, 16), 0, 0, [])), (90, (.iload 0, 2, (4, 0, 0), 0, 0, [])), (92, (.iaload, 1, (0, 0, 0), 0, 0, [])), (93, (.aload 0, 1, (0, 0, 0), 0, 0, [])), (94, (.getfield 0, 3, (7, 6, 19), 0, 0, []))],
  [(97, (.iload 0, 2, (4, 0, 0), 0, 0, [])), (99, (.iaload, 1, (0, 0, 0), 0, 0, [])), (100, (.iload 0, 2, (5, 0, 0), 0, 0, [])), (102, (.aload 0, 1, (0, 0, 0), 0, 0, [])), (103, (.getfield 0, 3, (7, 8, 25), 0, 0, [])), (106, (.iload 0, 2, (4, 0, 0), 0, 0, [])), (108, (.iaload, 1, (0, 0, 0), 0, 0, [])), (109, (.invokevirtual 0, 3, (6, 163, 129), 0, 0, [])), (112, (.iload 0, 1, (2, 0, 0), 0, 0, [])), (113, (.aload 0, 1, (0, 0, 0), 0, 0, [])), (114, (.aload 0, 1, (0, 0, 0), 0, 0, [])), (115, (.getfield 0, 3, (7, 4, 82), 0, 0, [])), (118, (.invokevirtual 0, 3, (2, 185, 230), 0, 0, [])), (121, (.iadd, 1, (0, 0, 0), 0, 0, [])), (122, (.istore 0, 1, (2, 0, 0), 0, 0, [])), (123, (.iinc 0 0, 3, (3, 0, 0), 1, 0, [])), (126, (.goto 0, 3, (37, 0, 0), 0, 0, []))],
  [(129, (.aload 0, 1, (0, 0, 0), 0, 0, [])), (130, (.dup, 1, (0, 0, 0), 0, 0, [])), (131, (.getfield 0, 3, (7, 3, 281), 0, 0, [])), (134, (.iload 0, 1, (2, 0, 0), 0, 0, [])), (135, (.iadd, 1, (0, 0, 0), 0, 0, [])), (136, (.putfield 0, 3, (7, 3, 281), 0, 0, [])), (139, (.iload 0, 1, (2, 0, 0), 0, 0, [])), (140, (.ireturn, 1, (0, 0, 0), 0, 0, []))]]
set_option maxRecDepth 20000 in
def tX7_seed : List (List (Nat × XE)) := [[(0, (.aload 0, 1, (0, 0, 0), 0, 0, [])), (1, (.getfield 0, 3, (7, 12, 75), 0, 0, [])), (4, (.istore 0, 1, (2, 0, 0), 0, 0, [])), (5, (.aload 0, 1, (0, 0, 0), 0, 0, [])), (6, (.iload 0, 1, (1, 0, 0), 0, 0, [])), (7, (.putfield 0, 3, (7, 12, 75), 0, 0, [])), (10, (.iload 0, 1, (2, 0, 0), 0, 0, [])), (11, (.ireturn, 1, (0, 0, 0), 0, 0, []))]]
set_option maxRecDepth 20000 in
def tX7_keep : List (List (Nat × XE)) := [[(0, (.iconst 0, 1, (0, 0, 0), 0, 0, [])), (1, (.istore 0, 1, (2, 0, 0), 0, 0, [])), (2, (.iload 0, 1, (2, 0, 0), 0, 0, [])), (3, (.iconst 0, 2, (0, 0, 0), 30, 0, [])), (5, (.if_icmp .ge 0, 3, (23, 0, 0), 0, 0, [])), (8, (.aload 0, 1, (1, 0, 0), 0, 0, [])), (9, (.iload 0, 1, (2, 0, 0), 0, 0, [])), (10, (.aload 0, 1, (0, 0, 0), 0, 0, [])), (11, (.getfield 0, 3, (7, 1, 7), 0, 0, [])), (14, (.iload 0, 1, (2, 0, 0), 0, 0, [])), (15, (.iaload, 1, (0, 0, 0), 0, 0, [])), (16, (.iastore, 1, (0, 0, 0), 0, 0, [])), (17, (.iinc 0 0, 3, (2, 0, 0), 1, 0, [])), (20, (.goto 0, 3, (2, 0, 0), 0, 0, [])), (23, (.iconst 0, 1, (0, 0, 0), 0, 0, [])), (24, (.istore 0, 1, (2, 0, 0), 0, 0, [])), (25, (.iload 0, 1, (2, 0, 0), 0, 0, [])), (26, (.iconst 0, 2, (0, 0, 0), 9, 0, [])), (28, (.if_icmp .ge 0, 3, (97, 0, 0), 0, 0, [])), (31, (.aload 0, 1, (1, 0, 0), 0, 0, []))],
  [(32, (.iconst 0, 2, (0, 0, 0), 30, 0, [])), (34, (.iload 0, 1, (2, 0, 0), 0, 0, [])), (35, (.iadd, 1, (0, 0, 0), 0, 0, [])), (36, (.aload 0, 1, (0, 0, 0), 0, 0, [])), (37, (.getfield 0, 3, (7, 5, 16), 0, 0, [])), (40, (.iload 0, 1, (2, 0, 0), 0, 0, [])), (41, (.iaload, 1, (0, 0, 0), 0, 0, [])), (42, (.iastore, 1, (0, 0, 0), 0, 0, [])), (43, (.aload 0, 1, (1, 0, 0), 0, 0, [])), (44, (.iconst 0, 2, (0, 0, 0), 39, 0, [])), (46, (.iload 0, 1, (2, 0, 0), 0, 0, [])), (47, (.iadd, 1, (0, 0, 0), 0, 0, [])), (48, (.aload 0, 1, (0, 0, 0), 0, 0, [])), (49, (.getfield 0, 3, (7, 6, 19), 0, 0, [])), (52, (.iload 0, 1, (2, 0, 0), 0, 0, [])), (53, (.iaload, 1, (0, 0, 0), 0, 0, [])), (54, (.iastore, 1, (0, 0, 0), 0, 0, [])), (55, (.aload 0, 1, (1, 0, 0), 0, 0, [])), (56, (.iconst 0, 2, (0, 0, 0), 48, 0, [])), (58, (.iload 0, 1, (2, 0, 0), 0, 0, [])), (59, (.iadd, 1, (0, 0, 0), 0, 0, [])), (60, (.aload 0, 1, (0, 0, 0), 0, 0, [])), (61, (.getfield 0, 3, (7, 7, 22), 0, 0, []))],
  [(64, (.iload 0, 1, (2, 0, 0), 0, 0, [])), (65, (.iaload, 1, (0, 0, 0), 0, 0, [])), (66, (.iastore, 1, (0, 0, 0), 0, 0, [])), (67, (.aload 0, 1, (1, 0, 0), 0, 0, [])), (68, (.iconst 0, 2, (0, 0, 0), 57, 0, [])), (70, (.iload 0, 1, (2, 0, 0), 0, 0, [])), (71, (.iadd, 1, (0, 0, 0), 0, 0, [])), (72, (.aload 0, 1, (0, 0, 0), 0, 0, [])), (73, (.getfield 0, 3, (7, 8, 25), 0, 0, [])), (76, (.iload 0, 1, (2, 0, 0), 0, 0, [])), (77, (.iaload, 1, (0, 0, 0), 0, 0, [])), (78, (.iastore, 1, (0, 0, 0), 0, 0, [])), (79, (.aload 0, 1, (1, 0, 0), 0, 0, [])), (80, (.iconst 0, 2, (0, 0, 0), 66, 0, [])), (82, (.iload 0, 1, (2, 0, 0), 0, 0, [])), (83, (.iadd, 1, (0, 0, 0), 0, 0, [])), (84, (.aload 0, 1, (0, 0, 0), 0, 0, [])), (85, (.getfield 0, 3, (7, 9, 28), 0, 0, [])), (88, (.iload 0, 1, (2, 0, 0), 0, 0, [])), (89, (.iaload, 1, (0, 0, 0), 0, 0, [])), (90, (.iastore, 1, (0, 0, 0), 0, 0, [])), (91, (.iinc 0 0, 3, (2, 0, 0), 1, 0, [])), (94, (.goto 0, 3, (25, 0, 0), 0, 0, []))],
  [(97, (.iconst 0, 1, (0, 0, 0), 0, 0, [])), (98, (.istore 0, 1, (2, 0, 0), 0, 0, [])), (99, (.iload 0, 1, (2, 0, 0), 0, 0, [])), (100, (.iconst 0, 2, (0, 0, 0), 18, 0, [])), (102, (.if_icmp .ge 0, 3, (123, 0, 0), 0, 0, [])), (105, (.aload 0, 1, (1, 0, 0), 0, 0, [])), (106, (.iconst 0, 2, (0, 0, 0), 75, 0, [])), (108, (.iload 0, 1, (2, 0, 0), 0, 0, [])), (109, (.iadd, 1, (0, 0, 0), 0, 0, [])), (110, (.aload 0, 1, (0, 0, 0), 0, 0, [])), (111, (.getfield 0, 3, (7, 11, 31), 0, 0, [])), (114, (.iload 0, 1, (2, 0, 0), 0, 0, [])), (115, (.iaload, 1, (0, 0, 0), 0, 0, [])), (116, (.iastore, 1, (0, 0, 0), 0, 0, [])), (117, (.iinc 0 0, 3, (2, 0, 0), 1, 0, [])), (120, (.goto 0, 3, (99, 0, 0), 0, 0, [])), (123, (.aload 0, 1, (1, 0, 0), 0, 0, [])), (124, (.iconst 0, 2, (0, 0, 0), 93, 0, [])), (126, (.aload 0, 1, (0, 0, 0), 0, 0, [])), (127, (.getfield 0, 3, (7, 0, 71), 0, 0, []))],
  [(130, (.iastore, 1, (0, 0, 0), 0, 0, [])), (131, (.aload 0, 1, (1, 0, 0), 0, 0, [])), (132, (.iconst 0, 2, (0, 0, 0), 94, 0, [])), (134, (.aload 0, 1, (0, 0, 0), 0, 0, [])), (135, (.getfield 0, 3, (7, 2, 13), 0, 0, [])), (138, (.iconst 0, 1, (0, 0, 0), 0, 0, [])), (139, (.iaload, 1, (0, 0, 0), 0, 0, [])), (140, (.iastore, 1, (0, 0, 0), 0, 0, [])), (141, (.aload 0, 1, (1, 0, 0), 0, 0, [])), (142, (.iconst 0, 2, (0, 0, 0), 95, 0, [])), (144, (.aload 0, 1, (0, 0, 0), 0, 0, [])), (145, (.getfield 0, 3, (7, 2, 13), 0, 0, [])), (148, (.iconst 0, 1, (0, 0, 0), 1, 0, [])), (149, (.iaload, 1, (0, 0, 0), 0, 0, [])), (150, (.iastore, 1, (0, 0, 0), 0, 0, [])), (151, (.aload 0, 1, (1, 0, 0), 0, 0, [])), (152, (.iconst 0, 2, (0, 0, 0), 96, 0, [])), (154, (.aload 0, 1, (0, 0, 0), 0, 0, [])), (155, (.getfield 0, 3, (7, 3, 281), 0, 0, [])), (158, (.iastore, 1, (0, 0, 0), 0, 0, [])), (159, (.aload 0, 1, (1, 0, 0), 0, 0, []))],
  [(160, (.iconst 0, 2, (0, 0, 0), 97, 0, [])), (162, (.aload 0, 1, (0, 0, 0), 0, 0, [])), (163, (.getfield 0, 3, (7, 4, 82), 0, 0, [])), (166, (.iastore, 1, (0, 0, 0), 0, 0, [])), (167, (.aload 0, 1, (1, 0, 0), 0, 0, [])), (168, (.iconst 0, 2, (0, 0, 0), 98, 0, [])), (170, (.aload 0, 1, (0, 0, 0), 0, 0, [])), (171, (.getfield 0, 3, (7, 10, 85), 0, 0, [])), (174, (.iastore, 1, (0, 0, 0), 0, 0, [])), (175, (.aload 0, 1, (1, 0, 0), 0, 0, [])), (176, (.iconst 0, 2, (0, 0, 0), 99, 0, [])), (178, (.aload 0, 1, (0, 0, 0), 0, 0, [])), (179, (.getfield 0, 3, (7, 12, 75), 0, 0, [])), (182, (.iastore, 1, (0, 0, 0), 0, 0, [])), (183, (.return_, 1, (0, 0, 0), 0, 0, []))]]
set_option maxRecDepth 20000 in
def tX7_again : List (List (Nat × XE)) := [[(0, (.iconst 0, 1, (0, 0, 0), 0, 0, [])), (1, (.istore 0, 1, (2, 0, 0), 0, 0, [])), (2, (.iload 0, 1, (2, 0, 0), 0, 0, [])), (3, (.iconst 0, 2, (0, 0, 0), 30, 0, [])), (5, (.if_icmp .ge 0, 3, (23, 0, 0), 0, 0, [])), (8, (.aload 0, 1, (0, 0, 0), 0, 0, [])), (9, (.getfield 0, 3, (7, 1, 7), 0, 0, [])), (12, (.iload 0, 1, (2, 0, 0), 0, 0, [])), (13, (.aload 0, 1, (1, 0, 0), 0, 0, [])), (14, (.iload 0, 1, (2, 0, 0), 0, 0, [])), (15, (.iaload, 1, (0, 0, 0), 0, 0, [])), (16, (.iastore, 1, (0, 0, 0), 0, 0, [])), (17, (.iinc 0 0, 3, (2, 0, 0), 1, 0, [])), (20, (.goto 0, 3, (2, 0, 0), 0, 0, [])), (23, (.iconst 0, 1, (0, 0, 0), 0, 0, [])), (24, (.istore 0, 1, (2, 0, 0), 0, 0, [])), (25, (.iload 0, 1, (2, 0, 0), 0, 0, [])), (26, (.iconst 0, 2, (0, 0, 0), 9, 0, [])), (28, (.if_icmp .ge 0, 3, (97, 0, 0), 0, 0, [])), (31, (.aload 0, 1, (0, 0, 0), 0, 0, []))],
  [(32, (.getfield 0, 3, (7, 5, 16), 0, 0, [])), (35, (.iload 0, 1, (2, 0, 0), 0, 0, [])), (36, (.aload 0, 1, (1, 0, 0), 0, 0, [])), (37, (.iconst 0, 2, (0, 0, 0), 30, 0, [])), (39, (.iload 0, 1, (2, 0, 0), 0, 0, [])), (40, (.iadd, 1, (0, 0, 0), 0, 0, [])), (41, (.iaload, 1, (0, 0, 0), 0, 0, [])), (42, (.iastore, 1, (0, 0, 0), 0, 0, [])), (43, (.aload 0, 1, (0, 0, 0), 0, 0, [])), (44, (.getfield 0, 3, (7, 6, 19), 0, 0, [])), (47, (.iload 0, 1, (2, 0, 0), 0, 0, [])), (48, (.aload 0, 1, (1, 0, 0), 0, 0, [])), (49, (.iconst 0, 2, (0, 0, 0), 39, 0, [])), (51, (.iload 0, 1, (2, 0, 0), 0, 0, [])), (52, (.iadd, 1, (0, 0, 0), 0, 0, [])), (53, (.iaload, 1, (0, 0, 0), 0, 0, [])), (54, (.iastore, 1, (0, 0, 0), 0, 0, [])), (55, (.aload 0, 1, (0, 0, 0), 0, 0, [])), (56, (.getfield 0, 3, (7, 7, 22), 0, 0, [])), (59, (.iload 0, 1, (2, 0, 0), 0, 0, [])), (60, (.aload 0, 1, (1, 0, 0), 0, 0, [])), (61, (.iconst 0, 2, (0, 0, 0), 48, 0, [])), (63, (.iload 0, 1, (2, 0, 0), 0, 0, []))],
  [(64, (.iadd, 1, (0, 0, 0), 0, 0, [])), (65, (.iaload, 1, (0, 0, 0), 0, 0, [])), (66, (.iastore, 1, (0, 0, 0), 0, 0, [])), (67, (.aload 0, 1, (0, 0, 0), 0, 0, [])), (68, (.getfield 0, 3, (7, 8, 25), 0, 0, [])), (71, (.iload 0, 1, (2, 0, 0), 0, 0, [])), (72, (.aload 0, 1, (1, 0, 0), 0, 0, [])), (73, (.iconst 0, 2, (0, 0, 0), 57, 0, [])), (75, (.iload 0, 1, (2, 0, 0), 0, 0, [])), (76, (.iadd, 1, (0, 0, 0), 0, 0, [])), (77, (.iaload, 1, (0, 0, 0), 0, 0, [])), (78, (.iastore, 1, (0, 0, 0), 0, 0, [])), (79, (.aload 0, 1, (0, 0, 0), 0, 0, [])), (80, (.getfield 0, 3, (7, 9, 28), 0, 0, [])), (83, (.iload 0, 1, (2, 0, 0), 0, 0, [])), (84, (.aload 0, 1, (1, 0, 0), 0, 0, [])), (85, (.iconst 0, 2, (0, 0, 0), 66, 0, [])), (87, (.iload 0, 1, (2, 0, 0), 0, 0, [])), (88, (.iadd, 1, (0, 0, 0), 0, 0, [])), (89, (.iaload, 1, (0, 0, 0), 0, 0, [])), (90, (.iastore, 1, (0, 0, 0), 0, 0, [])), (91, (.iinc 0 0, 3, (2, 0, 0), 1, 0, [])), (94, (.goto 0, 3, (25, 0, 0), 0, 0, []))],
  [(97, (.iconst 0, 1, (0, 0, 0), 0, 0, [])), (98, (.istore 0, 1, (2, 0, 0), 0, 0, [])), (99, (.iload 0, 1, (2, 0, 0), 0, 0, [])), (100, (.iconst 0, 2, (0, 0, 0), 18, 0, [])), (102, (.if_icmp .ge 0, 3, (123, 0, 0), 0, 0, [])), (105, (.aload 0, 1, (0, 0, 0), 0, 0, [])), (106, (.getfield 0, 3, (7, 11, 31), 0, 0, [])), (109, (.iload 0, 1, (2, 0, 0), 0, 0, [])), (110, (.aload 0, 1, (1, 0, 0), 0, 0, [])), (111, (.iconst 0, 2, (0, 0, 0), 75, 0, [])), (113, (.iload 0, 1, (2, 0, 0), 0, 0, [])), (114, (.iadd, 1, (0, 0, 0), 0, 0, [])), (115, (.iaload, 1, (0, 0, 0), 0, 0, [])), (116, (.iastore, 1, (0, 0, 0), 0, 0, [])), (117, (.iinc 0 0, 3, (2, 0, 0), 1, 0, [])), (120, (.goto 0, 3, (99, 0, 0), 0, 0, [])), (123, (.aload 0, 1, (0, 0, 0), 0, 0, [])), (124, (.aload 0, 1, (1, 0, 0), 0, 0, [])), (125, (.iconst 0, 2, (0, 0, 0), 93, 0, [])), (127, (.iaload, 1, (0, 0, 0), 0, 0, []))],
  [(128, (.putfield 0, 3, (7, 0, 71), 0, 0, [])), (131, (.aload 0, 1, (0, 0, 0), 0, 0, [])), (132, (.getfield 0, 3, (7, 2, 13), 0, 0, [])), (135, (.iconst 0, 1, (0, 0, 0), 0, 0, [])), (136, (.aload 0, 1, (1, 0, 0), 0, 0, [])), (137, (.iconst 0, 2, (0, 0, 0), 94, 0, [])), (139, (.iaload, 1, (0, 0, 0), 0, 0, [])), (140, (.iastore, 1, (0, 0, 0), 0, 0, [])), (141, (.aload 0, 1, (0, 0, 0), 0, 0, [])), (142, (.getfield 0, 3, (7, 2, 13), 0, 0, [])), (145, (.iconst 0, 1, (0, 0, 0), 1, 0, [])), (146, (.aload 0, 1, (1, 0, 0), 0, 0, [])), (147, (.iconst 0, 2, (0, 0, 0), 95, 0, [])), (149, (.iaload, 1, (0, 0, 0), 0, 0, [])), (150, (.iastore, 1, (0, 0, 0), 0, 0, [])), (151, (.aload 0, 1, (0, 0, 0), 0, 0, [])), (152, (.aload 0, 1, (1, 0, 0), 0, 0, [])), (153, (.iconst 0, 2, (0, 0, 0), 96, 0, [])), (155, (.iaload, 1, (0, 0, 0), 0, 0, [])), (156, (.putfield 0, 3, (7, 3, 281), 0, 0, [])), (159, (.aload 0, 1, (0, 0, 0), 0, 0, []))],
  [(160, (.aload 0, 1, (1, 0, 0), 0, 0, [])), (161, (.iconst 0, 2, (0, 0, 0), 97, 0, [])), (163, (.iaload, 1, (0, 0, 0), 0, 0, [])), (164, (.putfield 0, 3, (7, 4, 82), 0, 0, [])), (167, (.aload 0, 1, (0, 0, 0), 0, 0, [])), (168, (.aload 0, 1, (1, 0, 0), 0, 0, [])), (169, (.iconst 0, 2, (0, 0, 0), 98, 0, [])), (171, (.iaload, 1, (0, 0, 0), 0, 0, [])), (172, (.putfield 0, 3, (7, 10, 85), 0, 0, [])), (175, (.aload 0, 1, (0, 0, 0), 0, 0, [])), (176, (.aload 0, 1, (1, 0, 0), 0, 0, [])), (177, (.iconst 0, 2, (0, 0, 0), 99, 0, [])), (179, (.iaload, 1, (0, 0, 0), 0, 0, [])), (180, (.putfield 0, 3, (7, 12, 75), 0, 0, [])), (183, (.return_, 1, (0, 0, 0), 0, 0, []))]]
set_option maxRecDepth 20000 in
def tX7_image : List (List (Nat × XE)) := [[(0, (.aload 0, 1, (0, 0, 0), 0, 0, [])), (1, (.iconst 0, 1, (0, 0, 0), 1, 0, [])), (2, (.putfield 0, 3, (7, 23, 288), 0, 0, [])), (5, (.aload 0, 1, (0, 0, 0), 0, 0, [])), (6, (.aload 0, 1, (0, 0, 0), 0, 0, [])), (7, (.getfield 0, 3, (7, 24, 50), 0, 0, [])), (10, (.invokevirtual 0, 3, (2, 232, 196), 0, 0, [])), (13, (.iconst 0, 1, (0, 0, 0), 1, 0, [])), (14, (.ireturn, 1, (0, 0, 0), 0, 0, []))]]
set_option maxRecDepth 20000 in
def tX7_back : List (List (Nat × XE)) := [[(0, (.aload 0, 1, (0, 0, 0), 0, 0, [])), (1, (.getfield 0, 3, (7, 23, 288), 0, 0, [])), (4, (.ifCond .ne 0, 3, (15, 0, 0), 0, 0, [])), (7, (.aload 0, 1, (0, 0, 0), 0, 0, [])), (8, (.iconst 0, 3, (0, 0, 0), (-1005), 0, [])), (11, (.invokevirtual 0, 3, (2, 138, 92), 0, 0, [])), (14, (.ireturn, 1, (0, 0, 0), 0, 0, [])), (15, (.aload 0, 1, (0, 0, 0), 0, 0, [])), (16, (.aload 0, 1, (0, 0, 0), 0, 0, [])), (17, (.getfield 0, 3, (7, 24, 50), 0, 0, [])), (20, (.invokevirtual 0, 3, (2, 233, 203), 0, 0, [])), (23, (.iconst 0, 1, (0, 0, 0), 0, 0, [])), (24, (.istore 0, 1, (1, 0, 0), 0, 0, [])), (25, (.iload 0, 1, (1, 0, 0), 0, 0, [])), (26, (.iconst 0, 2, (0, 0, 0), 8, 0, [])), (28, (.if_icmp .ge 0, 3, (60, 0, 0), 0, 0, [])), (31, (.aload 0, 1, (0, 0, 0), 0, 0, []))],
  [(32, (.getfield 0, 3, (7, 19, 37), 0, 0, [])), (35, (.iload 0, 1, (1, 0, 0), 0, 0, [])), (36, (.iaload, 1, (0, 0, 0), 0, 0, [])), (37, (.iconst 0, 2, (0, 0, 0), 10, 0, [])), (39, (.aload 0, 1, (0, 0, 0), 0, 0, [])), (40, (.getfield 0, 3, (7, 4, 82), 0, 0, [])), (43, (.iadd, 1, (0, 0, 0), 0, 0, [])), (44, (.if_icmp .lt 0, 3, (54, 0, 0), 0, 0, [])), (47, (.aload 0, 1, (0, 0, 0), 0, 0, [])), (48, (.getfield 0, 3, (7, 19, 37), 0, 0, [])), (51, (.iload 0, 1, (1, 0, 0), 0, 0, [])), (52, (.iconst 0, 1, (0, 0, 0), (-1), 0, [])), (53, (.iastore, 1, (0, 0, 0), 0, 0, [])), (54, (.iinc 0 0, 3, (1, 0, 0), 1, 0, [])), (57, (.goto 0, 3, (25, 0, 0), 0, 0, [])), (60, (.iconst 0, 1, (0, 0, 0), 1, 0, [])), (61, (.ireturn, 1, (0, 0, 0), 0, 0, []))]]
set_option maxRecDepth 20000 in
def tX7_status : List (List (Nat × XE)) := [[(0, (.iconst 0, 1, (0, 0, 0), 0, 0, [])), (1, (.istore 0, 1, (2, 0, 0), 0, 0, [])), (2, (.iload 0, 1, (1, 0, 0), 0, 0, [])), (3, (.tableswitch 0 0 0 #[], 53, (133, 0, 0), 0, 0, [(0, 56), (1, 61), (2, 66), (3, 71), (4, 71), (5, 80), (6, 85), (7, 94), (8, 99), (9, 104)]))],
  [(56, (.aload 0, 1, (0, 0, 0), 0, 0, [])), (57, (.getfield 0, 3, (7, 4, 82), 0, 0, [])), (60, (.ireturn, 1, (0, 0, 0), 0, 0, [])), (61, (.aload 0, 1, (0, 0, 0), 0, 0, [])), (62, (.getfield 0, 3, (7, 10, 85), 0, 0, []))],
  [(65, (.ireturn, 1, (0, 0, 0), 0, 0, [])), (66, (.aload 0, 1, (0, 0, 0), 0, 0, [])), (67, (.getfield 0, 3, (7, 0, 71), 0, 0, [])), (70, (.ireturn, 1, (0, 0, 0), 0, 0, [])), (71, (.aload 0, 1, (0, 0, 0), 0, 0, [])), (72, (.getfield 0, 3, (7, 2, 13), 0, 0, [])), (75, (.iload 0, 1, (1, 0, 0), 0, 0, [])), (76, (.iconst 0, 1, (0, 0, 0), 3, 0, [])), (77, (.isub, 1, (0, 0, 0), 0, 0, [])), (78, (.iaload, 1, (0, 0, 0), 0, 0, [])), (79, (.ireturn, 1, (0, 0, 0), 0, 0, [])), (80, (.aload 0, 1, (0, 0, 0), 0, 0, [])), (81, (.getfield 0, 3, (7, 3, 281), 0, 0, [])), (84, (.ireturn, 1, (0, 0, 0), 0, 0, [])), (85, (.aload 0, 1, (0, 0, 0), 0, 0, [])), (86, (.iconst 0, 1, (0, 0, 0), 0, 0, [])), (87, (.invokevirtual 0, 3, (2, 212, 272), 0, 0, [])), (90, (.invokevirtual 0, 3, (1, 237, 292), 0, 0, [])), (93, (.ireturn, 1, (0, 0, 0), 0, 0, [])), (94, (.aload 0, 1, (0, 0, 0), 0, 0, [])), (95, (.getfield 0, 3, (7, 13, 133), 0, 0, []))],
  [(98, (.ireturn, 1, (0, 0, 0), 0, 0, [])), (99, (.aload 0, 1, (0, 0, 0), 0, 0, [])), (100, (.getfield 0, 3, (7, 12, 75), 0, 0, [])), (103, (.ireturn, 1, (0, 0, 0), 0, 0, [])), (104, (.iconst 0, 1, (0, 0, 0), 0, 0, [])), (105, (.istore 0, 1, (3, 0, 0), 0, 0, [])), (106, (.iload 0, 1, (3, 0, 0), 0, 0, [])), (107, (.iconst 0, 2, (0, 0, 0), 8, 0, [])), (109, (.if_icmp .ge 0, 3, (131, 0, 0), 0, 0, [])), (112, (.aload 0, 1, (0, 0, 0), 0, 0, [])), (113, (.getfield 0, 3, (7, 19, 37), 0, 0, [])), (116, (.iload 0, 1, (3, 0, 0), 0, 0, [])), (117, (.iaload, 1, (0, 0, 0), 0, 0, [])), (118, (.iconst 0, 1, (0, 0, 0), (-1), 0, [])), (119, (.if_icmp .eq 0, 3, (125, 0, 0), 0, 0, [])), (122, (.iinc 0 0, 3, (2, 0, 0), 1, 0, [])), (125, (.iinc 0 0, 3, (3, 0, 0), 1, 0, []))],
  [(128, (.goto 0, 3, (106, 0, 0), 0, 0, [])), (131, (.iload 0, 1, (2, 0, 0), 0, 0, [])), (132, (.ireturn, 1, (0, 0, 0), 0, 0, [])), (133, (.iload 0, 1, (1, 0, 0), 0, 0, [])), (134, (.iconst 0, 2, (0, 0, 0), 12, 0, [])), (136, (.iconst 0, 2, (0, 0, 0), 16, 0, [])), (138, (.invokevirtual 0, 3, (3, 139, 78), 0, 0, [])), (141, (.ifCond .eq 0, 3, (156, 0, 0), 0, 0, [])), (144, (.aload 0, 1, (0, 0, 0), 0, 0, [])), (145, (.getfield 0, 3, (7, 22, 47), 0, 0, [])), (148, (.iload 0, 1, (1, 0, 0), 0, 0, [])), (149, (.iconst 0, 2, (0, 0, 0), 10, 0, [])), (151, (.isub, 1, (0, 0, 0), 0, 0, [])), (152, (.iaload, 1, (0, 0, 0), 0, 0, [])), (153, (.goto 0, 3, (157, 0, 0), 0, 0, [])), (156, (.iconst 0, 1, (0, 0, 0), (-1), 0, [])), (157, (.ireturn, 1, (0, 0, 0), 0, 0, []))]]
set_option maxRecDepth 20000 in
def tJ6_bitCount_0f7a4 : List (List (Nat × XE)) := [[(0, (.iload 0, 1, (0, 0, 0), 0, 0, [])), (1, (.iload 0, 1, (0, 0, 0), 0, 0, [])), (2, (.iconst 0, 1, (0, 0, 0), 1, 0, [])), (3, (.iushr, 1, (0, 0, 0), 0, 0, [])), (4, (.iconst 0, 3, (265, 1, 0), 1431655765, 0, [])), (7, (.iand, 1, (0, 0, 0), 0, 0, [])), (8, (.isub, 1, (0, 0, 0), 0, 0, [])), (9, (.istore 0, 1, (0, 0, 0), 0, 0, [])), (10, (.iload 0, 1, (0, 0, 0), 0, 0, [])), (11, (.iconst 0, 3, (266, 1, 0), 858993459, 0, [])), (14, (.iand, 1, (0, 0, 0), 0, 0, [])), (15, (.iload 0, 1, (0, 0, 0), 0, 0, [])), (16, (.iconst 0, 1, (0, 0, 0), 2, 0, [])), (17, (.iushr, 1, (0, 0, 0), 0, 0, [])), (18, (.iconst 0, 3, (266, 1, 0), 858993459, 0, [])), (21, (.iand, 1, (0, 0, 0), 0, 0, [])), (22, (.iadd, 1, (0, 0, 0), 0, 0, [])), (23, (.istore 0, 1, (0, 0, 0), 0, 0, [])), (24, (.iload 0, 1, (0, 0, 0), 0, 0, [])), (25, (.iload 0, 1, (0, 0, 0), 0, 0, [])), (26, (.iconst 0, 1, (0, 0, 0), 4, 0, [])), (27, (.iushr, 1, (0, 0, 0), 0, 0, [])), (28, (.iadd, 1, (0, 0, 0), 0, 0, [])), (29, (.iconst 0, 3, (267, 1, 0), 252645135, 0, []))],
  [(32, (.iand, 1, (0, 0, 0), 0, 0, [])), (33, (.istore 0, 1, (0, 0, 0), 0, 0, [])), (34, (.iload 0, 1, (0, 0, 0), 0, 0, [])), (35, (.iload 0, 1, (0, 0, 0), 0, 0, [])), (36, (.iconst 0, 2, (0, 0, 0), 8, 0, [])), (38, (.iushr, 1, (0, 0, 0), 0, 0, [])), (39, (.iadd, 1, (0, 0, 0), 0, 0, [])), (40, (.istore 0, 1, (0, 0, 0), 0, 0, [])), (41, (.iload 0, 1, (0, 0, 0), 0, 0, [])), (42, (.iload 0, 1, (0, 0, 0), 0, 0, [])), (43, (.iconst 0, 2, (0, 0, 0), 16, 0, [])), (45, (.iushr, 1, (0, 0, 0), 0, 0, [])), (46, (.iadd, 1, (0, 0, 0), 0, 0, [])), (47, (.istore 0, 1, (0, 0, 0), 0, 0, [])), (48, (.iload 0, 1, (0, 0, 0), 0, 0, [])), (49, (.iconst 0, 2, (0, 0, 0), 63, 0, [])), (51, (.iand, 1, (0, 0, 0), 0, 0, [])), (52, (.ireturn, 1, (0, 0, 0), 0, 0, []))]]
set_option maxRecDepth 20000 in
def tJ0_length_8abf5 : List (List (Nat × XE)) := [[(0, (.aload 0, 1, (0, 0, 0), 0, 0, [])), (1, (.getfield 0, 3, (31, 0, 9), 0, 0, [])), (4, (.arraylength, 1, (0, 0, 0), 0, 0, [])), (5, (.aload 0, 1, (0, 0, 0), 0, 0, [])), (6, (.invokevirtual 0, 3, (1, 240, 335), 0, 0, [])), (9, (.ishr, 1, (0, 0, 0), 0, 0, [])), (10, (.ireturn, 1, (0, 0, 0), 0, 0, []))]]
set_option maxRecDepth 20000 in
def tJ0_charAt_5068e : List (List (Nat × XE)) := [[(0, (.aload 0, 1, (0, 0, 0), 0, 0, [])), (1, (.invokevirtual 0, 3, (1, 241, 492), 0, 0, [])), (4, (.ifCond .eq 0, 3, (16, 0, 0), 0, 0, [])), (7, (.aload 0, 1, (0, 0, 0), 0, 0, [])), (8, (.getfield 0, 3, (31, 0, 9), 0, 0, [])), (11, (.iload 0, 1, (1, 0, 0), 0, 0, [])), (12, (.invokevirtual 0, 3, (2, 243, 495), 0, 0, [])), (15, (.ireturn, 1, (0, 0, 0), 0, 0, [])), (16, (.aload 0, 1, (0, 0, 0), 0, 0, [])), (17, (.getfield 0, 3, (31, 0, 9), 0, 0, [])), (20, (.iload 0, 1, (1, 0, 0), 0, 0, [])), (24, (.ireturn, 1, (0, 0, 0), 0, 0, []))]]
set_option maxRecDepth 20000 in
def tJ0_coder_7d493 : List (List (Nat × XE)) := [[(0, (.getstatic 0, 3, (0, 0, 38), 0, 0, [])), (3, (.ifCond .eq 0, 3, (13, 0, 0), 0, 0, [])), (6, (.aload 0, 1, (0, 0, 0), 0, 0, [])), (7, (.getfield 0, 3, (31, 1, 15), 0, 0, [])), (10, (.goto 0, 3, (14, 0, 0), 0, 0, [])), (13, (.iconst 0, 1, (0, 0, 0), 1, 0, [])), (14, (.ireturn, 1, (0, 0, 0), 0, 0, []))]]
set_option maxRecDepth 20000 in
def tJ0_isLatin1_aae02 : List (List (Nat × XE)) := [[(0, (.getstatic 0, 3, (0, 0, 38), 0, 0, [])), (3, (.ifCond .eq 0, 3, (17, 0, 0), 0, 0, [])), (6, (.aload 0, 1, (0, 0, 0), 0, 0, [])), (7, (.getfield 0, 3, (31, 1, 15), 0, 0, [])), (10, (.ifCond .ne 0, 3, (17, 0, 0), 0, 0, [])), (13, (.iconst 0, 1, (0, 0, 0), 1, 0, [])), (14, (.goto 0, 3, (18, 0, 0), 0, 0, [])), (17, (.iconst 0, 1, (0, 0, 0), 0, 0, [])), (18, (.ireturn, 1, (0, 0, 0), 0, 0, []))]]
set_option maxRecDepth 20000 in
def tJ0_checkIndex_df160 : List (List (Nat × XE)) := [[(0, (.iload 0, 1, (0, 0, 0), 0, 0, [])), (1, (.iload 0, 1, (1, 0, 0), 0, 0, [])), (2, (.getstatic 0, 3, (34, 0, 1053), 0, 0, [])), (5, (.invokevirtual 0, 3, (3, 244, 1059), 0, 0, [])), (8, (.pop, 1, (0, 0, 0), 0, 0, [])), (9, (.return_, 1, (0, 0, 0), 0, 0, []))]]
set_option maxRecDepth 20000 in
def tJ1_charAt_3b067 : List (List (Nat × XE)) := [[(0, (.iload 0, 1, (1, 0, 0), 0, 0, [])), (1, (.aload 0, 1, (0, 0, 0), 0, 0, [])), (2, (.arraylength, 1, (0, 0, 0), 0, 0, [])), (3, (.invokevirtual 0, 3, (2, 242, 9), 0, 0, [])), (6, (.aload 0, 1, (0, 0, 0), 0, 0, [])), (7, (.iload 0, 1, (1, 0, 0), 0, 0, [])), (8, (.baload, 1, (0, 0, 0), 0, 0, [])), (9, (.iconst 0, 3, (0, 0, 0), 255, 0, [])), (12, (.iand, 1, (0, 0, 0), 0, 0, [])), (13, (.i2c, 1, (0, 0, 0), 0, 0, [])), (14, (.ireturn, 1, (0, 0, 0), 0, 0, []))]]
set_option maxRecDepth 20000 in
def tJ3_checkIndex_8e157 : List (List (Nat × XE)) := [[(0, (.iload 0, 1, (0, 0, 0), 0, 0, [])), (1, (.ifCond .lt 0, 3, (9, 0, 0), 0, 0, [])), (4, (.iload 0, 1, (0, 0, 0), 0, 0, [])), (5, (.iload 0, 1, (1, 0, 0), 0, 0, [])), (6, (.if_icmp .lt 0, 3, (16, 0, 0), 0, 0, [])), (9, (.aload 0, 1, (2, 0, 0), 0, 0, [])), (10, (.iload 0, 1, (0, 0, 0), 0, 0, [])), (11, (.iload 0, 1, (1, 0, 0), 0, 0, [])), (16, (.iload 0, 1, (0, 0, 0), 0, 0, [])), (17, (.ireturn, 1, (0, 0, 0), 0, 0, []))]]
set_option maxRecDepth 20000 in
def tL_law : List (List (Nat × XE)) := [[(0, (.new 0, 3, (6, 0, 7), 0, 0, [])), (3, (.dup, 1, (0, 0, 0), 0, 0, [])), (4, (.invokevirtual 0, 3, (1, 64, 9), 0, 0, [])), (7, (.astore 0, 1, (1, 0, 0), 0, 0, [])), (8, (.new 0, 3, (7, 0, 10), 0, 0, [])), (11, (.dup, 1, (0, 0, 0), 0, 0, [])), (12, (.invokevirtual 0, 3, (1, 137, 12), 0, 0, [])), (15, (.astore 0, 1, (2, 0, 0), 0, 0, [])), (16, (.iconst 0, 1, (0, 0, 0), 0, 0, [])), (17, (.istore 0, 1, (3, 0, 0), 0, 0, [])), (18, (.iload 0, 1, (3, 0, 0), 0, 0, [])), (19, (.aload 0, 1, (0, 0, 0), 0, 0, [])), (20, (.arraylength, 1, (0, 0, 0), 0, 0, [])), (21, (.iconst 0, 2, (0, 0, 0), 6, 0, [])), (23, (.isub, 1, (0, 0, 0), 0, 0, [])), (24, (.if_icmp .gt 0, 3, (2020, 0, 0), 0, 0, [])), (27, (.aload 0, 1, (0, 0, 0), 0, 0, [])), (28, (.iload 0, 1, (3, 0, 0), 0, 0, [])), (29, (.iaload, 1, (0, 0, 0), 0, 0, [])), (30, (.iconst 0, 2, (0, 0, 0), 63, 0, []))],
  [(32, (.iand, 1, (0, 0, 0), 0, 0, [])), (33, (.tableswitch 0 0 0 #[], 235, (2014, 0, 0), 0, 0, [(0, 268), (1, 311), (2, 384), (3, 447), (4, 481), (5, 504), (6, 537), (7, 570), (8, 593), (9, 636), (10, 679), (11, 712), (12, 745), (13, 768), (14, 781), (15, 794), (16, 827), (17, 860), (18, 883), (19, 926), (20, 959), (21, 982), (22, 1005), (23, 1038), (24, 1061), (25, 1094), (26, 1147), (27, 1190), (28, 1243), (29, 1286), (30, 1319), (31, 1352), (32, 1395), (33, 1418), (34, 1451), (35, 1474), (36, 1507), (37, 1530), (38, 1563), (39, 1586), (40, 1609), (41, 1642), (42, 1665), (43, 1688), (44, 1731), (45, 1764), (46, 1777), (47, 1800), (48, 1843), (49, 1896), (50, 1919), (51, 1942), (52, 1965), (53, 1978), (54, 1991)]))],
  [],
  [],
  [],
  [],
  [],
  [],
  [(268, (.aload 0, 1, (1, 0, 0), 0, 0, [])), (269, (.aload 0, 1, (0, 0, 0), 0, 0, [])), (270, (.iload 0, 1, (3, 0, 0), 0, 0, [])), (271, (.iconst 0, 1, (0, 0, 0), 1, 0, [])), (272, (.iadd, 1, (0, 0, 0), 0, 0, [])), (273, (.iaload, 1, (0, 0, 0), 0, 0, [])), (274, (.aload 0, 1, (0, 0, 0), 0, 0, [])), (275, (.iload 0, 1, (3, 0, 0), 0, 0, [])), (276, (.iconst 0, 1, (0, 0, 0), 2, 0, [])), (277, (.iadd, 1, (0, 0, 0), 0, 0, [])), (278, (.iaload, 1, (0, 0, 0), 0, 0, [])), (279, (.aload 0, 1, (0, 0, 0), 0, 0, [])), (280, (.iload 0, 1, (3, 0, 0), 0, 0, [])), (281, (.iconst 0, 1, (0, 0, 0), 3, 0, [])), (282, (.iadd, 1, (0, 0, 0), 0, 0, [])), (283, (.iaload, 1, (0, 0, 0), 0, 0, [])), (284, (.invokevirtual 0, 3, (4, 65, 13), 0, 0, [])), (287, (.aload 0, 1, (2, 0, 0), 0, 0, []))],
  [(288, (.aload 0, 1, (0, 0, 0), 0, 0, [])), (289, (.iload 0, 1, (3, 0, 0), 0, 0, [])), (290, (.iconst 0, 1, (0, 0, 0), 1, 0, [])), (291, (.iadd, 1, (0, 0, 0), 0, 0, [])), (292, (.iaload, 1, (0, 0, 0), 0, 0, [])), (293, (.aload 0, 1, (0, 0, 0), 0, 0, [])), (294, (.iload 0, 1, (3, 0, 0), 0, 0, [])), (295, (.iconst 0, 1, (0, 0, 0), 2, 0, [])), (296, (.iadd, 1, (0, 0, 0), 0, 0, [])), (297, (.iaload, 1, (0, 0, 0), 0, 0, [])), (298, (.aload 0, 1, (0, 0, 0), 0, 0, [])), (299, (.iload 0, 1, (3, 0, 0), 0, 0, [])), (300, (.iconst 0, 1, (0, 0, 0), 3, 0, [])), (301, (.iadd, 1, (0, 0, 0), 0, 0, [])), (302, (.iaload, 1, (0, 0, 0), 0, 0, [])), (303, (.invokevirtual 0, 3, (4, 147, 17), 0, 0, [])), (306, (.if_icmp .eq 0, 3, (2014, 0, 0), 0, 0, [])), (309, (.iconst 0, 1, (0, 0, 0), 0, 0, [])), (310, (.ireturn, 1, (0, 0, 0), 0, 0, [])), (311, (.aload 0, 1, (1, 0, 0), 0, 0, [])), (312, (.aload 0, 1, (0, 0, 0), 0, 0, [])), (313, (.iload 0, 1, (3, 0, 0), 0, 0, [])), (314, (.iconst 0, 1, (0, 0, 0), 1, 0, [])), (315, (.iadd, 1, (0, 0, 0), 0, 0, [])), (316, (.iaload, 1, (0, 0, 0), 0, 0, [])), (317, (.aload 0, 1, (0, 0, 0), 0, 0, [])), (318, (.iload 0, 1, (3, 0, 0), 0, 0, [])), (319, (.iconst 0, 1, (0, 0, 0), 2, 0, []))],
  [(320, (.iadd, 1, (0, 0, 0), 0, 0, [])), (321, (.iaload, 1, (0, 0, 0), 0, 0, [])), (322, (.aload 0, 1, (0, 0, 0), 0, 0, [])), (323, (.iload 0, 1, (3, 0, 0), 0, 0, [])), (324, (.iconst 0, 1, (0, 0, 0), 3, 0, [])), (325, (.iadd, 1, (0, 0, 0), 0, 0, [])), (326, (.iaload, 1, (0, 0, 0), 0, 0, [])), (327, (.i2l, 1, (0, 0, 0), 0, 0, [])), (328, (.iconst 0, 2, (0, 0, 0), 32, 0, [])), (330, (.lshl, 1, (0, 0, 0), 0, 0, [])), (331, (.aload 0, 1, (0, 0, 0), 0, 0, [])), (332, (.iload 0, 1, (3, 0, 0), 0, 0, [])), (333, (.iconst 0, 1, (0, 0, 0), 4, 0, [])), (334, (.iadd, 1, (0, 0, 0), 0, 0, [])), (335, (.iaload, 1, (0, 0, 0), 0, 0, [])), (336, (.i2l, 1, (0, 0, 0), 0, 0, [])), (337, (.lconst 0, 3, (18, 1, 0), 0, 4294967295, [])), (340, (.land, 1, (0, 0, 0), 0, 0, [])), (341, (.lor, 1, (0, 0, 0), 0, 0, [])), (342, (.invokevirtual 0, 3, (4, 66, 20), 0, 0, [])), (345, (.aload 0, 1, (2, 0, 0), 0, 0, [])), (346, (.aload 0, 1, (0, 0, 0), 0, 0, [])), (347, (.iload 0, 1, (3, 0, 0), 0, 0, [])), (348, (.iconst 0, 1, (0, 0, 0), 1, 0, [])), (349, (.iadd, 1, (0, 0, 0), 0, 0, [])), (350, (.iaload, 1, (0, 0, 0), 0, 0, [])), (351, (.aload 0, 1, (0, 0, 0), 0, 0, []))],
  [(352, (.iload 0, 1, (3, 0, 0), 0, 0, [])), (353, (.iconst 0, 1, (0, 0, 0), 2, 0, [])), (354, (.iadd, 1, (0, 0, 0), 0, 0, [])), (355, (.iaload, 1, (0, 0, 0), 0, 0, [])), (356, (.aload 0, 1, (0, 0, 0), 0, 0, [])), (357, (.iload 0, 1, (3, 0, 0), 0, 0, [])), (358, (.iconst 0, 1, (0, 0, 0), 3, 0, [])), (359, (.iadd, 1, (0, 0, 0), 0, 0, [])), (360, (.iaload, 1, (0, 0, 0), 0, 0, [])), (361, (.i2l, 1, (0, 0, 0), 0, 0, [])), (362, (.iconst 0, 2, (0, 0, 0), 32, 0, [])), (364, (.lshl, 1, (0, 0, 0), 0, 0, [])), (365, (.aload 0, 1, (0, 0, 0), 0, 0, [])), (366, (.iload 0, 1, (3, 0, 0), 0, 0, [])), (367, (.iconst 0, 1, (0, 0, 0), 4, 0, [])), (368, (.iadd, 1, (0, 0, 0), 0, 0, [])), (369, (.iaload, 1, (0, 0, 0), 0, 0, [])), (370, (.i2l, 1, (0, 0, 0), 0, 0, [])), (371, (.lconst 0, 3, (18, 1, 0), 0, 4294967295, [])), (374, (.land, 1, (0, 0, 0), 0, 0, [])), (375, (.lor, 1, (0, 0, 0), 0, 0, [])), (376, (.invokevirtual 0, 3, (4, 150, 24), 0, 0, [])), (379, (.if_icmp .eq 0, 3, (2014, 0, 0), 0, 0, [])), (382, (.iconst 0, 1, (0, 0, 0), 0, 0, [])), (383, (.ireturn, 1, (0, 0, 0), 0, 0, []))],
  [(384, (.aload 0, 1, (1, 0, 0), 0, 0, [])), (385, (.aload 0, 1, (0, 0, 0), 0, 0, [])), (386, (.iload 0, 1, (3, 0, 0), 0, 0, [])), (387, (.iconst 0, 1, (0, 0, 0), 1, 0, [])), (388, (.iadd, 1, (0, 0, 0), 0, 0, [])), (389, (.iaload, 1, (0, 0, 0), 0, 0, [])), (390, (.aload 0, 1, (0, 0, 0), 0, 0, [])), (391, (.iload 0, 1, (3, 0, 0), 0, 0, [])), (392, (.iconst 0, 1, (0, 0, 0), 2, 0, [])), (393, (.iadd, 1, (0, 0, 0), 0, 0, [])), (394, (.iaload, 1, (0, 0, 0), 0, 0, [])), (395, (.aload 0, 1, (0, 0, 0), 0, 0, [])), (396, (.iload 0, 1, (3, 0, 0), 0, 0, [])), (397, (.iconst 0, 1, (0, 0, 0), 3, 0, [])), (398, (.iadd, 1, (0, 0, 0), 0, 0, [])), (399, (.iaload, 1, (0, 0, 0), 0, 0, [])), (400, (.aload 0, 1, (0, 0, 0), 0, 0, [])), (401, (.iload 0, 1, (3, 0, 0), 0, 0, [])), (402, (.iconst 0, 1, (0, 0, 0), 4, 0, [])), (403, (.iadd, 1, (0, 0, 0), 0, 0, [])), (404, (.iaload, 1, (0, 0, 0), 0, 0, [])), (405, (.aload 0, 1, (0, 0, 0), 0, 0, [])), (406, (.iload 0, 1, (3, 0, 0), 0, 0, [])), (407, (.iconst 0, 1, (0, 0, 0), 5, 0, [])), (408, (.iadd, 1, (0, 0, 0), 0, 0, [])), (409, (.iaload, 1, (0, 0, 0), 0, 0, [])), (410, (.invokevirtual 0, 3, (6, 67, 25), 0, 0, [])), (413, (.aload 0, 1, (2, 0, 0), 0, 0, [])), (414, (.aload 0, 1, (0, 0, 0), 0, 0, [])), (415, (.iload 0, 1, (3, 0, 0), 0, 0, []))],
  [(416, (.iconst 0, 1, (0, 0, 0), 1, 0, [])), (417, (.iadd, 1, (0, 0, 0), 0, 0, [])), (418, (.iaload, 1, (0, 0, 0), 0, 0, [])), (419, (.aload 0, 1, (0, 0, 0), 0, 0, [])), (420, (.iload 0, 1, (3, 0, 0), 0, 0, [])), (421, (.iconst 0, 1, (0, 0, 0), 2, 0, [])), (422, (.iadd, 1, (0, 0, 0), 0, 0, [])), (423, (.iaload, 1, (0, 0, 0), 0, 0, [])), (424, (.aload 0, 1, (0, 0, 0), 0, 0, [])), (425, (.iload 0, 1, (3, 0, 0), 0, 0, [])), (426, (.iconst 0, 1, (0, 0, 0), 3, 0, [])), (427, (.iadd, 1, (0, 0, 0), 0, 0, [])), (428, (.iaload, 1, (0, 0, 0), 0, 0, [])), (429, (.aload 0, 1, (0, 0, 0), 0, 0, [])), (430, (.iload 0, 1, (3, 0, 0), 0, 0, [])), (431, (.iconst 0, 1, (0, 0, 0), 4, 0, [])), (432, (.iadd, 1, (0, 0, 0), 0, 0, [])), (433, (.iaload, 1, (0, 0, 0), 0, 0, [])), (434, (.aload 0, 1, (0, 0, 0), 0, 0, [])), (435, (.iload 0, 1, (3, 0, 0), 0, 0, [])), (436, (.iconst 0, 1, (0, 0, 0), 5, 0, [])), (437, (.iadd, 1, (0, 0, 0), 0, 0, [])), (438, (.iaload, 1, (0, 0, 0), 0, 0, [])), (439, (.invokevirtual 0, 3, (6, 151, 29), 0, 0, [])), (442, (.if_icmp .eq 0, 3, (2014, 0, 0), 0, 0, [])), (445, (.iconst 0, 1, (0, 0, 0), 0, 0, [])), (446, (.ireturn, 1, (0, 0, 0), 0, 0, [])), (447, (.aload 0, 1, (1, 0, 0), 0, 0, []))],
  [(448, (.aload 0, 1, (0, 0, 0), 0, 0, [])), (449, (.iload 0, 1, (3, 0, 0), 0, 0, [])), (450, (.iconst 0, 1, (0, 0, 0), 1, 0, [])), (451, (.iadd, 1, (0, 0, 0), 0, 0, [])), (452, (.iaload, 1, (0, 0, 0), 0, 0, [])), (453, (.aload 0, 1, (0, 0, 0), 0, 0, [])), (454, (.iload 0, 1, (3, 0, 0), 0, 0, [])), (455, (.iconst 0, 1, (0, 0, 0), 2, 0, [])), (456, (.iadd, 1, (0, 0, 0), 0, 0, [])), (457, (.iaload, 1, (0, 0, 0), 0, 0, [])), (458, (.invokevirtual 0, 3, (3, 68, 30), 0, 0, [])), (461, (.aload 0, 1, (2, 0, 0), 0, 0, [])), (462, (.aload 0, 1, (0, 0, 0), 0, 0, [])), (463, (.iload 0, 1, (3, 0, 0), 0, 0, [])), (464, (.iconst 0, 1, (0, 0, 0), 1, 0, [])), (465, (.iadd, 1, (0, 0, 0), 0, 0, [])), (466, (.iaload, 1, (0, 0, 0), 0, 0, [])), (467, (.aload 0, 1, (0, 0, 0), 0, 0, [])), (468, (.iload 0, 1, (3, 0, 0), 0, 0, [])), (469, (.iconst 0, 1, (0, 0, 0), 2, 0, [])), (470, (.iadd, 1, (0, 0, 0), 0, 0, [])), (471, (.iaload, 1, (0, 0, 0), 0, 0, [])), (472, (.invokevirtual 0, 3, (3, 152, 34), 0, 0, [])), (475, (.lcmp, 1, (0, 0, 0), 0, 0, [])), (476, (.ifCond .eq 0, 3, (2014, 0, 0), 0, 0, [])), (479, (.iconst 0, 1, (0, 0, 0), 0, 0, []))],
  [(480, (.ireturn, 1, (0, 0, 0), 0, 0, [])), (481, (.aload 0, 1, (1, 0, 0), 0, 0, [])), (482, (.aload 0, 1, (0, 0, 0), 0, 0, [])), (483, (.iload 0, 1, (3, 0, 0), 0, 0, [])), (484, (.iconst 0, 1, (0, 0, 0), 1, 0, [])), (485, (.iadd, 1, (0, 0, 0), 0, 0, [])), (486, (.iaload, 1, (0, 0, 0), 0, 0, [])), (487, (.invokevirtual 0, 3, (2, 69, 35), 0, 0, [])), (490, (.aload 0, 1, (2, 0, 0), 0, 0, [])), (491, (.aload 0, 1, (0, 0, 0), 0, 0, [])), (492, (.iload 0, 1, (3, 0, 0), 0, 0, [])), (493, (.iconst 0, 1, (0, 0, 0), 1, 0, [])), (494, (.iadd, 1, (0, 0, 0), 0, 0, [])), (495, (.iaload, 1, (0, 0, 0), 0, 0, [])), (496, (.invokevirtual 0, 3, (2, 153, 39), 0, 0, [])), (499, (.if_icmp .eq 0, 3, (2014, 0, 0), 0, 0, [])), (502, (.iconst 0, 1, (0, 0, 0), 0, 0, [])), (503, (.ireturn, 1, (0, 0, 0), 0, 0, [])), (504, (.aload 0, 1, (1, 0, 0), 0, 0, [])), (505, (.aload 0, 1, (0, 0, 0), 0, 0, [])), (506, (.iload 0, 1, (3, 0, 0), 0, 0, [])), (507, (.iconst 0, 1, (0, 0, 0), 1, 0, [])), (508, (.iadd, 1, (0, 0, 0), 0, 0, [])), (509, (.iaload, 1, (0, 0, 0), 0, 0, [])), (510, (.aload 0, 1, (0, 0, 0), 0, 0, [])), (511, (.iload 0, 1, (3, 0, 0), 0, 0, []))],
  [(512, (.iconst 0, 1, (0, 0, 0), 2, 0, [])), (513, (.iadd, 1, (0, 0, 0), 0, 0, [])), (514, (.iaload, 1, (0, 0, 0), 0, 0, [])), (515, (.invokevirtual 0, 3, (3, 70, 40), 0, 0, [])), (518, (.aload 0, 1, (2, 0, 0), 0, 0, [])), (519, (.aload 0, 1, (0, 0, 0), 0, 0, [])), (520, (.iload 0, 1, (3, 0, 0), 0, 0, [])), (521, (.iconst 0, 1, (0, 0, 0), 1, 0, [])), (522, (.iadd, 1, (0, 0, 0), 0, 0, [])), (523, (.iaload, 1, (0, 0, 0), 0, 0, [])), (524, (.aload 0, 1, (0, 0, 0), 0, 0, [])), (525, (.iload 0, 1, (3, 0, 0), 0, 0, [])), (526, (.iconst 0, 1, (0, 0, 0), 2, 0, [])), (527, (.iadd, 1, (0, 0, 0), 0, 0, [])), (528, (.iaload, 1, (0, 0, 0), 0, 0, [])), (529, (.invokevirtual 0, 3, (3, 154, 44), 0, 0, [])), (532, (.if_icmp .eq 0, 3, (2014, 0, 0), 0, 0, [])), (535, (.iconst 0, 1, (0, 0, 0), 0, 0, [])), (536, (.ireturn, 1, (0, 0, 0), 0, 0, [])), (537, (.aload 0, 1, (1, 0, 0), 0, 0, [])), (538, (.aload 0, 1, (0, 0, 0), 0, 0, [])), (539, (.iload 0, 1, (3, 0, 0), 0, 0, [])), (540, (.iconst 0, 1, (0, 0, 0), 1, 0, [])), (541, (.iadd, 1, (0, 0, 0), 0, 0, [])), (542, (.iaload, 1, (0, 0, 0), 0, 0, [])), (543, (.aload 0, 1, (0, 0, 0), 0, 0, []))],
  [(544, (.iload 0, 1, (3, 0, 0), 0, 0, [])), (545, (.iconst 0, 1, (0, 0, 0), 2, 0, [])), (546, (.iadd, 1, (0, 0, 0), 0, 0, [])), (547, (.iaload, 1, (0, 0, 0), 0, 0, [])), (548, (.invokevirtual 0, 3, (3, 71, 45), 0, 0, [])), (551, (.aload 0, 1, (2, 0, 0), 0, 0, [])), (552, (.aload 0, 1, (0, 0, 0), 0, 0, [])), (553, (.iload 0, 1, (3, 0, 0), 0, 0, [])), (554, (.iconst 0, 1, (0, 0, 0), 1, 0, [])), (555, (.iadd, 1, (0, 0, 0), 0, 0, [])), (556, (.iaload, 1, (0, 0, 0), 0, 0, [])), (557, (.aload 0, 1, (0, 0, 0), 0, 0, [])), (558, (.iload 0, 1, (3, 0, 0), 0, 0, [])), (559, (.iconst 0, 1, (0, 0, 0), 2, 0, [])), (560, (.iadd, 1, (0, 0, 0), 0, 0, [])), (561, (.iaload, 1, (0, 0, 0), 0, 0, [])), (562, (.invokevirtual 0, 3, (3, 156, 48), 0, 0, [])), (565, (.if_icmp .eq 0, 3, (2014, 0, 0), 0, 0, [])), (568, (.iconst 0, 1, (0, 0, 0), 0, 0, [])), (569, (.ireturn, 1, (0, 0, 0), 0, 0, [])), (570, (.aload 0, 1, (1, 0, 0), 0, 0, [])), (571, (.aload 0, 1, (0, 0, 0), 0, 0, [])), (572, (.iload 0, 1, (3, 0, 0), 0, 0, [])), (573, (.iconst 0, 1, (0, 0, 0), 1, 0, [])), (574, (.iadd, 1, (0, 0, 0), 0, 0, [])), (575, (.iaload, 1, (0, 0, 0), 0, 0, []))],
  [(576, (.invokevirtual 0, 3, (2, 72, 49), 0, 0, [])), (579, (.aload 0, 1, (2, 0, 0), 0, 0, [])), (580, (.aload 0, 1, (0, 0, 0), 0, 0, [])), (581, (.iload 0, 1, (3, 0, 0), 0, 0, [])), (582, (.iconst 0, 1, (0, 0, 0), 1, 0, [])), (583, (.iadd, 1, (0, 0, 0), 0, 0, [])), (584, (.iaload, 1, (0, 0, 0), 0, 0, [])), (585, (.invokevirtual 0, 3, (2, 157, 52), 0, 0, [])), (588, (.if_icmp .eq 0, 3, (2014, 0, 0), 0, 0, [])), (591, (.iconst 0, 1, (0, 0, 0), 0, 0, [])), (592, (.ireturn, 1, (0, 0, 0), 0, 0, [])), (593, (.aload 0, 1, (1, 0, 0), 0, 0, [])), (594, (.aload 0, 1, (0, 0, 0), 0, 0, [])), (595, (.iload 0, 1, (3, 0, 0), 0, 0, [])), (596, (.iconst 0, 1, (0, 0, 0), 1, 0, [])), (597, (.iadd, 1, (0, 0, 0), 0, 0, [])), (598, (.iaload, 1, (0, 0, 0), 0, 0, [])), (599, (.aload 0, 1, (0, 0, 0), 0, 0, [])), (600, (.iload 0, 1, (3, 0, 0), 0, 0, [])), (601, (.iconst 0, 1, (0, 0, 0), 2, 0, [])), (602, (.iadd, 1, (0, 0, 0), 0, 0, [])), (603, (.iaload, 1, (0, 0, 0), 0, 0, [])), (604, (.aload 0, 1, (0, 0, 0), 0, 0, [])), (605, (.iload 0, 1, (3, 0, 0), 0, 0, [])), (606, (.iconst 0, 1, (0, 0, 0), 3, 0, [])), (607, (.iadd, 1, (0, 0, 0), 0, 0, []))],
  [(608, (.iaload, 1, (0, 0, 0), 0, 0, [])), (609, (.invokevirtual 0, 3, (4, 73, 53), 0, 0, [])), (612, (.aload 0, 1, (2, 0, 0), 0, 0, [])), (613, (.aload 0, 1, (0, 0, 0), 0, 0, [])), (614, (.iload 0, 1, (3, 0, 0), 0, 0, [])), (615, (.iconst 0, 1, (0, 0, 0), 1, 0, [])), (616, (.iadd, 1, (0, 0, 0), 0, 0, [])), (617, (.iaload, 1, (0, 0, 0), 0, 0, [])), (618, (.aload 0, 1, (0, 0, 0), 0, 0, [])), (619, (.iload 0, 1, (3, 0, 0), 0, 0, [])), (620, (.iconst 0, 1, (0, 0, 0), 2, 0, [])), (621, (.iadd, 1, (0, 0, 0), 0, 0, [])), (622, (.iaload, 1, (0, 0, 0), 0, 0, [])), (623, (.aload 0, 1, (0, 0, 0), 0, 0, [])), (624, (.iload 0, 1, (3, 0, 0), 0, 0, [])), (625, (.iconst 0, 1, (0, 0, 0), 3, 0, [])), (626, (.iadd, 1, (0, 0, 0), 0, 0, [])), (627, (.iaload, 1, (0, 0, 0), 0, 0, [])), (628, (.invokevirtual 0, 3, (4, 159, 56), 0, 0, [])), (631, (.if_icmp .eq 0, 3, (2014, 0, 0), 0, 0, [])), (634, (.iconst 0, 1, (0, 0, 0), 0, 0, [])), (635, (.ireturn, 1, (0, 0, 0), 0, 0, [])), (636, (.aload 0, 1, (1, 0, 0), 0, 0, [])), (637, (.aload 0, 1, (0, 0, 0), 0, 0, [])), (638, (.iload 0, 1, (3, 0, 0), 0, 0, [])), (639, (.iconst 0, 1, (0, 0, 0), 1, 0, []))],
  [(640, (.iadd, 1, (0, 0, 0), 0, 0, [])), (641, (.iaload, 1, (0, 0, 0), 0, 0, [])), (642, (.aload 0, 1, (0, 0, 0), 0, 0, [])), (643, (.iload 0, 1, (3, 0, 0), 0, 0, [])), (644, (.iconst 0, 1, (0, 0, 0), 2, 0, [])), (645, (.iadd, 1, (0, 0, 0), 0, 0, [])), (646, (.iaload, 1, (0, 0, 0), 0, 0, [])), (647, (.aload 0, 1, (0, 0, 0), 0, 0, [])), (648, (.iload 0, 1, (3, 0, 0), 0, 0, [])), (649, (.iconst 0, 1, (0, 0, 0), 3, 0, [])), (650, (.iadd, 1, (0, 0, 0), 0, 0, [])), (651, (.iaload, 1, (0, 0, 0), 0, 0, [])), (652, (.invokevirtual 0, 3, (4, 74, 57), 0, 0, [])), (655, (.aload 0, 1, (2, 0, 0), 0, 0, [])), (656, (.aload 0, 1, (0, 0, 0), 0, 0, [])), (657, (.iload 0, 1, (3, 0, 0), 0, 0, [])), (658, (.iconst 0, 1, (0, 0, 0), 1, 0, [])), (659, (.iadd, 1, (0, 0, 0), 0, 0, [])), (660, (.iaload, 1, (0, 0, 0), 0, 0, [])), (661, (.aload 0, 1, (0, 0, 0), 0, 0, [])), (662, (.iload 0, 1, (3, 0, 0), 0, 0, [])), (663, (.iconst 0, 1, (0, 0, 0), 2, 0, [])), (664, (.iadd, 1, (0, 0, 0), 0, 0, [])), (665, (.iaload, 1, (0, 0, 0), 0, 0, [])), (666, (.aload 0, 1, (0, 0, 0), 0, 0, [])), (667, (.iload 0, 1, (3, 0, 0), 0, 0, [])), (668, (.iconst 0, 1, (0, 0, 0), 3, 0, [])), (669, (.iadd, 1, (0, 0, 0), 0, 0, [])), (670, (.iaload, 1, (0, 0, 0), 0, 0, [])), (671, (.invokevirtual 0, 3, (4, 160, 60), 0, 0, []))],
  [(674, (.if_icmp .eq 0, 3, (2014, 0, 0), 0, 0, [])), (677, (.iconst 0, 1, (0, 0, 0), 0, 0, [])), (678, (.ireturn, 1, (0, 0, 0), 0, 0, [])), (679, (.aload 0, 1, (1, 0, 0), 0, 0, [])), (680, (.aload 0, 1, (0, 0, 0), 0, 0, [])), (681, (.iload 0, 1, (3, 0, 0), 0, 0, [])), (682, (.iconst 0, 1, (0, 0, 0), 1, 0, [])), (683, (.iadd, 1, (0, 0, 0), 0, 0, [])), (684, (.iaload, 1, (0, 0, 0), 0, 0, [])), (685, (.aload 0, 1, (0, 0, 0), 0, 0, [])), (686, (.iload 0, 1, (3, 0, 0), 0, 0, [])), (687, (.iconst 0, 1, (0, 0, 0), 2, 0, [])), (688, (.iadd, 1, (0, 0, 0), 0, 0, [])), (689, (.iaload, 1, (0, 0, 0), 0, 0, [])), (690, (.invokevirtual 0, 3, (3, 75, 61), 0, 0, [])), (693, (.aload 0, 1, (2, 0, 0), 0, 0, [])), (694, (.aload 0, 1, (0, 0, 0), 0, 0, [])), (695, (.iload 0, 1, (3, 0, 0), 0, 0, [])), (696, (.iconst 0, 1, (0, 0, 0), 1, 0, [])), (697, (.iadd, 1, (0, 0, 0), 0, 0, [])), (698, (.iaload, 1, (0, 0, 0), 0, 0, [])), (699, (.aload 0, 1, (0, 0, 0), 0, 0, [])), (700, (.iload 0, 1, (3, 0, 0), 0, 0, [])), (701, (.iconst 0, 1, (0, 0, 0), 2, 0, [])), (702, (.iadd, 1, (0, 0, 0), 0, 0, [])), (703, (.iaload, 1, (0, 0, 0), 0, 0, []))],
  [(704, (.invokevirtual 0, 3, (3, 161, 64), 0, 0, [])), (707, (.if_icmp .eq 0, 3, (2014, 0, 0), 0, 0, [])), (710, (.iconst 0, 1, (0, 0, 0), 0, 0, [])), (711, (.ireturn, 1, (0, 0, 0), 0, 0, [])), (712, (.aload 0, 1, (1, 0, 0), 0, 0, [])), (713, (.aload 0, 1, (0, 0, 0), 0, 0, [])), (714, (.iload 0, 1, (3, 0, 0), 0, 0, [])), (715, (.iconst 0, 1, (0, 0, 0), 1, 0, [])), (716, (.iadd, 1, (0, 0, 0), 0, 0, [])), (717, (.iaload, 1, (0, 0, 0), 0, 0, [])), (718, (.aload 0, 1, (0, 0, 0), 0, 0, [])), (719, (.iload 0, 1, (3, 0, 0), 0, 0, [])), (720, (.iconst 0, 1, (0, 0, 0), 2, 0, [])), (721, (.iadd, 1, (0, 0, 0), 0, 0, [])), (722, (.iaload, 1, (0, 0, 0), 0, 0, [])), (723, (.invokevirtual 0, 3, (3, 76, 65), 0, 0, [])), (726, (.aload 0, 1, (2, 0, 0), 0, 0, [])), (727, (.aload 0, 1, (0, 0, 0), 0, 0, [])), (728, (.iload 0, 1, (3, 0, 0), 0, 0, [])), (729, (.iconst 0, 1, (0, 0, 0), 1, 0, [])), (730, (.iadd, 1, (0, 0, 0), 0, 0, [])), (731, (.iaload, 1, (0, 0, 0), 0, 0, [])), (732, (.aload 0, 1, (0, 0, 0), 0, 0, [])), (733, (.iload 0, 1, (3, 0, 0), 0, 0, [])), (734, (.iconst 0, 1, (0, 0, 0), 2, 0, [])), (735, (.iadd, 1, (0, 0, 0), 0, 0, []))],
  [(736, (.iaload, 1, (0, 0, 0), 0, 0, [])), (737, (.invokevirtual 0, 3, (3, 162, 68), 0, 0, [])), (740, (.if_icmp .eq 0, 3, (2014, 0, 0), 0, 0, [])), (743, (.iconst 0, 1, (0, 0, 0), 0, 0, [])), (744, (.ireturn, 1, (0, 0, 0), 0, 0, [])), (745, (.aload 0, 1, (1, 0, 0), 0, 0, [])), (746, (.aload 0, 1, (0, 0, 0), 0, 0, [])), (747, (.iload 0, 1, (3, 0, 0), 0, 0, [])), (748, (.iconst 0, 1, (0, 0, 0), 1, 0, [])), (749, (.iadd, 1, (0, 0, 0), 0, 0, [])), (750, (.iaload, 1, (0, 0, 0), 0, 0, [])), (751, (.invokevirtual 0, 3, (2, 77, 69), 0, 0, [])), (754, (.aload 0, 1, (2, 0, 0), 0, 0, [])), (755, (.aload 0, 1, (0, 0, 0), 0, 0, [])), (756, (.iload 0, 1, (3, 0, 0), 0, 0, [])), (757, (.iconst 0, 1, (0, 0, 0), 1, 0, [])), (758, (.iadd, 1, (0, 0, 0), 0, 0, [])), (759, (.iaload, 1, (0, 0, 0), 0, 0, [])), (760, (.invokevirtual 0, 3, (2, 165, 72), 0, 0, [])), (763, (.if_icmp .eq 0, 3, (2014, 0, 0), 0, 0, [])), (766, (.iconst 0, 1, (0, 0, 0), 0, 0, [])), (767, (.ireturn, 1, (0, 0, 0), 0, 0, []))],
  [(768, (.aload 0, 1, (1, 0, 0), 0, 0, [])), (769, (.invokevirtual 0, 3, (1, 78, 73), 0, 0, [])), (772, (.aload 0, 1, (2, 0, 0), 0, 0, [])), (773, (.invokevirtual 0, 3, (1, 166, 77), 0, 0, [])), (776, (.if_icmp .eq 0, 3, (2014, 0, 0), 0, 0, [])), (779, (.iconst 0, 1, (0, 0, 0), 0, 0, [])), (780, (.ireturn, 1, (0, 0, 0), 0, 0, [])), (781, (.aload 0, 1, (1, 0, 0), 0, 0, [])), (782, (.invokevirtual 0, 3, (1, 79, 78), 0, 0, [])), (785, (.aload 0, 1, (2, 0, 0), 0, 0, [])), (786, (.invokevirtual 0, 3, (1, 176, 81), 0, 0, [])), (789, (.if_icmp .eq 0, 3, (2014, 0, 0), 0, 0, [])), (792, (.iconst 0, 1, (0, 0, 0), 0, 0, [])), (793, (.ireturn, 1, (0, 0, 0), 0, 0, [])), (794, (.aload 0, 1, (1, 0, 0), 0, 0, [])), (795, (.aload 0, 1, (0, 0, 0), 0, 0, [])), (796, (.iload 0, 1, (3, 0, 0), 0, 0, [])), (797, (.iconst 0, 1, (0, 0, 0), 1, 0, [])), (798, (.iadd, 1, (0, 0, 0), 0, 0, [])), (799, (.iaload, 1, (0, 0, 0), 0, 0, []))],
  [(800, (.aload 0, 1, (0, 0, 0), 0, 0, [])), (801, (.iload 0, 1, (3, 0, 0), 0, 0, [])), (802, (.iconst 0, 1, (0, 0, 0), 2, 0, [])), (803, (.iadd, 1, (0, 0, 0), 0, 0, [])), (804, (.iaload, 1, (0, 0, 0), 0, 0, [])), (805, (.invokevirtual 0, 3, (3, 80, 82), 0, 0, [])), (808, (.aload 0, 1, (2, 0, 0), 0, 0, [])), (809, (.aload 0, 1, (0, 0, 0), 0, 0, [])), (810, (.iload 0, 1, (3, 0, 0), 0, 0, [])), (811, (.iconst 0, 1, (0, 0, 0), 1, 0, [])), (812, (.iadd, 1, (0, 0, 0), 0, 0, [])), (813, (.iaload, 1, (0, 0, 0), 0, 0, [])), (814, (.aload 0, 1, (0, 0, 0), 0, 0, [])), (815, (.iload 0, 1, (3, 0, 0), 0, 0, [])), (816, (.iconst 0, 1, (0, 0, 0), 2, 0, [])), (817, (.iadd, 1, (0, 0, 0), 0, 0, [])), (818, (.iaload, 1, (0, 0, 0), 0, 0, [])), (819, (.invokevirtual 0, 3, (3, 178, 85), 0, 0, [])), (822, (.if_icmp .eq 0, 3, (2014, 0, 0), 0, 0, [])), (825, (.iconst 0, 1, (0, 0, 0), 0, 0, [])), (826, (.ireturn, 1, (0, 0, 0), 0, 0, [])), (827, (.aload 0, 1, (1, 0, 0), 0, 0, [])), (828, (.aload 0, 1, (0, 0, 0), 0, 0, [])), (829, (.iload 0, 1, (3, 0, 0), 0, 0, [])), (830, (.iconst 0, 1, (0, 0, 0), 1, 0, [])), (831, (.iadd, 1, (0, 0, 0), 0, 0, []))],
  [(832, (.iaload, 1, (0, 0, 0), 0, 0, [])), (833, (.aload 0, 1, (0, 0, 0), 0, 0, [])), (834, (.iload 0, 1, (3, 0, 0), 0, 0, [])), (835, (.iconst 0, 1, (0, 0, 0), 2, 0, [])), (836, (.iadd, 1, (0, 0, 0), 0, 0, [])), (837, (.iaload, 1, (0, 0, 0), 0, 0, [])), (838, (.invokevirtual 0, 3, (3, 81, 86), 0, 0, [])), (841, (.aload 0, 1, (2, 0, 0), 0, 0, [])), (842, (.aload 0, 1, (0, 0, 0), 0, 0, [])), (843, (.iload 0, 1, (3, 0, 0), 0, 0, [])), (844, (.iconst 0, 1, (0, 0, 0), 1, 0, [])), (845, (.iadd, 1, (0, 0, 0), 0, 0, [])), (846, (.iaload, 1, (0, 0, 0), 0, 0, [])), (847, (.aload 0, 1, (0, 0, 0), 0, 0, [])), (848, (.iload 0, 1, (3, 0, 0), 0, 0, [])), (849, (.iconst 0, 1, (0, 0, 0), 2, 0, [])), (850, (.iadd, 1, (0, 0, 0), 0, 0, [])), (851, (.iaload, 1, (0, 0, 0), 0, 0, [])), (852, (.invokevirtual 0, 3, (3, 180, 89), 0, 0, [])), (855, (.if_icmp .eq 0, 3, (2014, 0, 0), 0, 0, [])), (858, (.iconst 0, 1, (0, 0, 0), 0, 0, [])), (859, (.ireturn, 1, (0, 0, 0), 0, 0, [])), (860, (.aload 0, 1, (1, 0, 0), 0, 0, [])), (861, (.aload 0, 1, (0, 0, 0), 0, 0, [])), (862, (.iload 0, 1, (3, 0, 0), 0, 0, [])), (863, (.iconst 0, 1, (0, 0, 0), 1, 0, []))],
  [(864, (.iadd, 1, (0, 0, 0), 0, 0, [])), (865, (.iaload, 1, (0, 0, 0), 0, 0, [])), (866, (.invokevirtual 0, 3, (2, 82, 90), 0, 0, [])), (869, (.aload 0, 1, (2, 0, 0), 0, 0, [])), (870, (.aload 0, 1, (0, 0, 0), 0, 0, [])), (871, (.iload 0, 1, (3, 0, 0), 0, 0, [])), (872, (.iconst 0, 1, (0, 0, 0), 1, 0, [])), (873, (.iadd, 1, (0, 0, 0), 0, 0, [])), (874, (.iaload, 1, (0, 0, 0), 0, 0, [])), (875, (.invokevirtual 0, 3, (2, 181, 93), 0, 0, [])), (878, (.if_icmp .eq 0, 3, (2014, 0, 0), 0, 0, [])), (881, (.iconst 0, 1, (0, 0, 0), 0, 0, [])), (882, (.ireturn, 1, (0, 0, 0), 0, 0, [])), (883, (.aload 0, 1, (1, 0, 0), 0, 0, [])), (884, (.aload 0, 1, (0, 0, 0), 0, 0, [])), (885, (.iload 0, 1, (3, 0, 0), 0, 0, [])), (886, (.iconst 0, 1, (0, 0, 0), 1, 0, [])), (887, (.iadd, 1, (0, 0, 0), 0, 0, [])), (888, (.iaload, 1, (0, 0, 0), 0, 0, [])), (889, (.aload 0, 1, (0, 0, 0), 0, 0, [])), (890, (.iload 0, 1, (3, 0, 0), 0, 0, [])), (891, (.iconst 0, 1, (0, 0, 0), 2, 0, [])), (892, (.iadd, 1, (0, 0, 0), 0, 0, [])), (893, (.iaload, 1, (0, 0, 0), 0, 0, [])), (894, (.aload 0, 1, (0, 0, 0), 0, 0, [])), (895, (.iload 0, 1, (3, 0, 0), 0, 0, []))],
  [(896, (.iconst 0, 1, (0, 0, 0), 3, 0, [])), (897, (.iadd, 1, (0, 0, 0), 0, 0, [])), (898, (.iaload, 1, (0, 0, 0), 0, 0, [])), (899, (.invokevirtual 0, 3, (4, 83, 94), 0, 0, [])), (902, (.aload 0, 1, (2, 0, 0), 0, 0, [])), (903, (.aload 0, 1, (0, 0, 0), 0, 0, [])), (904, (.iload 0, 1, (3, 0, 0), 0, 0, [])), (905, (.iconst 0, 1, (0, 0, 0), 1, 0, [])), (906, (.iadd, 1, (0, 0, 0), 0, 0, [])), (907, (.iaload, 1, (0, 0, 0), 0, 0, [])), (908, (.aload 0, 1, (0, 0, 0), 0, 0, [])), (909, (.iload 0, 1, (3, 0, 0), 0, 0, [])), (910, (.iconst 0, 1, (0, 0, 0), 2, 0, [])), (911, (.iadd, 1, (0, 0, 0), 0, 0, [])), (912, (.iaload, 1, (0, 0, 0), 0, 0, [])), (913, (.aload 0, 1, (0, 0, 0), 0, 0, [])), (914, (.iload 0, 1, (3, 0, 0), 0, 0, [])), (915, (.iconst 0, 1, (0, 0, 0), 3, 0, [])), (916, (.iadd, 1, (0, 0, 0), 0, 0, [])), (917, (.iaload, 1, (0, 0, 0), 0, 0, [])), (918, (.invokevirtual 0, 3, (4, 187, 97), 0, 0, [])), (921, (.if_icmp .eq 0, 3, (2014, 0, 0), 0, 0, [])), (924, (.iconst 0, 1, (0, 0, 0), 0, 0, [])), (925, (.ireturn, 1, (0, 0, 0), 0, 0, [])), (926, (.aload 0, 1, (1, 0, 0), 0, 0, [])), (927, (.aload 0, 1, (0, 0, 0), 0, 0, []))],
  [(928, (.iload 0, 1, (3, 0, 0), 0, 0, [])), (929, (.iconst 0, 1, (0, 0, 0), 1, 0, [])), (930, (.iadd, 1, (0, 0, 0), 0, 0, [])), (931, (.iaload, 1, (0, 0, 0), 0, 0, [])), (932, (.aload 0, 1, (0, 0, 0), 0, 0, [])), (933, (.iload 0, 1, (3, 0, 0), 0, 0, [])), (934, (.iconst 0, 1, (0, 0, 0), 2, 0, [])), (935, (.iadd, 1, (0, 0, 0), 0, 0, [])), (936, (.iaload, 1, (0, 0, 0), 0, 0, [])), (937, (.invokevirtual 0, 3, (3, 84, 98), 0, 0, [])), (940, (.aload 0, 1, (2, 0, 0), 0, 0, [])), (941, (.aload 0, 1, (0, 0, 0), 0, 0, [])), (942, (.iload 0, 1, (3, 0, 0), 0, 0, [])), (943, (.iconst 0, 1, (0, 0, 0), 1, 0, [])), (944, (.iadd, 1, (0, 0, 0), 0, 0, [])), (945, (.iaload, 1, (0, 0, 0), 0, 0, [])), (946, (.aload 0, 1, (0, 0, 0), 0, 0, [])), (947, (.iload 0, 1, (3, 0, 0), 0, 0, [])), (948, (.iconst 0, 1, (0, 0, 0), 2, 0, [])), (949, (.iadd, 1, (0, 0, 0), 0, 0, [])), (950, (.iaload, 1, (0, 0, 0), 0, 0, [])), (951, (.invokevirtual 0, 3, (3, 188, 101), 0, 0, [])), (954, (.if_icmp .eq 0, 3, (2014, 0, 0), 0, 0, [])), (957, (.iconst 0, 1, (0, 0, 0), 0, 0, [])), (958, (.ireturn, 1, (0, 0, 0), 0, 0, [])), (959, (.aload 0, 1, (1, 0, 0), 0, 0, []))],
  [(960, (.aload 0, 1, (0, 0, 0), 0, 0, [])), (961, (.iload 0, 1, (3, 0, 0), 0, 0, [])), (962, (.iconst 0, 1, (0, 0, 0), 1, 0, [])), (963, (.iadd, 1, (0, 0, 0), 0, 0, [])), (964, (.iaload, 1, (0, 0, 0), 0, 0, [])), (965, (.invokevirtual 0, 3, (2, 85, 102), 0, 0, [])), (968, (.aload 0, 1, (2, 0, 0), 0, 0, [])), (969, (.aload 0, 1, (0, 0, 0), 0, 0, [])), (970, (.iload 0, 1, (3, 0, 0), 0, 0, [])), (971, (.iconst 0, 1, (0, 0, 0), 1, 0, [])), (972, (.iadd, 1, (0, 0, 0), 0, 0, [])), (973, (.iaload, 1, (0, 0, 0), 0, 0, [])), (974, (.invokevirtual 0, 3, (2, 189, 105), 0, 0, [])), (977, (.if_icmp .eq 0, 3, (2014, 0, 0), 0, 0, [])), (980, (.iconst 0, 1, (0, 0, 0), 0, 0, [])), (981, (.ireturn, 1, (0, 0, 0), 0, 0, [])), (982, (.aload 0, 1, (1, 0, 0), 0, 0, [])), (983, (.aload 0, 1, (0, 0, 0), 0, 0, [])), (984, (.iload 0, 1, (3, 0, 0), 0, 0, [])), (985, (.iconst 0, 1, (0, 0, 0), 1, 0, [])), (986, (.iadd, 1, (0, 0, 0), 0, 0, [])), (987, (.iaload, 1, (0, 0, 0), 0, 0, [])), (988, (.invokevirtual 0, 3, (2, 86, 106), 0, 0, [])), (991, (.aload 0, 1, (2, 0, 0), 0, 0, []))],
  [(992, (.aload 0, 1, (0, 0, 0), 0, 0, [])), (993, (.iload 0, 1, (3, 0, 0), 0, 0, [])), (994, (.iconst 0, 1, (0, 0, 0), 1, 0, [])), (995, (.iadd, 1, (0, 0, 0), 0, 0, [])), (996, (.iaload, 1, (0, 0, 0), 0, 0, [])), (997, (.invokevirtual 0, 3, (2, 191, 109), 0, 0, [])), (1000, (.if_icmp .eq 0, 3, (2014, 0, 0), 0, 0, [])), (1003, (.iconst 0, 1, (0, 0, 0), 0, 0, [])), (1004, (.ireturn, 1, (0, 0, 0), 0, 0, [])), (1005, (.aload 0, 1, (1, 0, 0), 0, 0, [])), (1006, (.aload 0, 1, (0, 0, 0), 0, 0, [])), (1007, (.iload 0, 1, (3, 0, 0), 0, 0, [])), (1008, (.iconst 0, 1, (0, 0, 0), 1, 0, [])), (1009, (.iadd, 1, (0, 0, 0), 0, 0, [])), (1010, (.iaload, 1, (0, 0, 0), 0, 0, [])), (1011, (.aload 0, 1, (0, 0, 0), 0, 0, [])), (1012, (.iload 0, 1, (3, 0, 0), 0, 0, [])), (1013, (.iconst 0, 1, (0, 0, 0), 2, 0, [])), (1014, (.iadd, 1, (0, 0, 0), 0, 0, [])), (1015, (.iaload, 1, (0, 0, 0), 0, 0, [])), (1016, (.invokevirtual 0, 3, (3, 87, 110), 0, 0, [])), (1019, (.aload 0, 1, (2, 0, 0), 0, 0, [])), (1020, (.aload 0, 1, (0, 0, 0), 0, 0, [])), (1021, (.iload 0, 1, (3, 0, 0), 0, 0, [])), (1022, (.iconst 0, 1, (0, 0, 0), 1, 0, [])), (1023, (.iadd, 1, (0, 0, 0), 0, 0, []))],
  [(1024, (.iaload, 1, (0, 0, 0), 0, 0, [])), (1025, (.aload 0, 1, (0, 0, 0), 0, 0, [])), (1026, (.iload 0, 1, (3, 0, 0), 0, 0, [])), (1027, (.iconst 0, 1, (0, 0, 0), 2, 0, [])), (1028, (.iadd, 1, (0, 0, 0), 0, 0, [])), (1029, (.iaload, 1, (0, 0, 0), 0, 0, [])), (1030, (.invokevirtual 0, 3, (3, 194, 113), 0, 0, [])), (1033, (.if_icmp .eq 0, 3, (2014, 0, 0), 0, 0, [])), (1036, (.iconst 0, 1, (0, 0, 0), 0, 0, [])), (1037, (.ireturn, 1, (0, 0, 0), 0, 0, [])), (1038, (.aload 0, 1, (1, 0, 0), 0, 0, [])), (1039, (.aload 0, 1, (0, 0, 0), 0, 0, [])), (1040, (.iload 0, 1, (3, 0, 0), 0, 0, [])), (1041, (.iconst 0, 1, (0, 0, 0), 1, 0, [])), (1042, (.iadd, 1, (0, 0, 0), 0, 0, [])), (1043, (.iaload, 1, (0, 0, 0), 0, 0, [])), (1044, (.invokevirtual 0, 3, (2, 88, 114), 0, 0, [])), (1047, (.aload 0, 1, (2, 0, 0), 0, 0, [])), (1048, (.aload 0, 1, (0, 0, 0), 0, 0, [])), (1049, (.iload 0, 1, (3, 0, 0), 0, 0, [])), (1050, (.iconst 0, 1, (0, 0, 0), 1, 0, [])), (1051, (.iadd, 1, (0, 0, 0), 0, 0, [])), (1052, (.iaload, 1, (0, 0, 0), 0, 0, [])), (1053, (.invokevirtual 0, 3, (2, 195, 117), 0, 0, []))],
  [(1056, (.if_icmp .eq 0, 3, (2014, 0, 0), 0, 0, [])), (1059, (.iconst 0, 1, (0, 0, 0), 0, 0, [])), (1060, (.ireturn, 1, (0, 0, 0), 0, 0, [])), (1061, (.aload 0, 1, (1, 0, 0), 0, 0, [])), (1062, (.aload 0, 1, (0, 0, 0), 0, 0, [])), (1063, (.iload 0, 1, (3, 0, 0), 0, 0, [])), (1064, (.iconst 0, 1, (0, 0, 0), 1, 0, [])), (1065, (.iadd, 1, (0, 0, 0), 0, 0, [])), (1066, (.iaload, 1, (0, 0, 0), 0, 0, [])), (1067, (.aload 0, 1, (0, 0, 0), 0, 0, [])), (1068, (.iload 0, 1, (3, 0, 0), 0, 0, [])), (1069, (.iconst 0, 1, (0, 0, 0), 2, 0, [])), (1070, (.iadd, 1, (0, 0, 0), 0, 0, [])), (1071, (.iaload, 1, (0, 0, 0), 0, 0, [])), (1072, (.invokevirtual 0, 3, (3, 89, 118), 0, 0, [])), (1075, (.aload 0, 1, (2, 0, 0), 0, 0, [])), (1076, (.aload 0, 1, (0, 0, 0), 0, 0, [])), (1077, (.iload 0, 1, (3, 0, 0), 0, 0, [])), (1078, (.iconst 0, 1, (0, 0, 0), 1, 0, [])), (1079, (.iadd, 1, (0, 0, 0), 0, 0, [])), (1080, (.iaload, 1, (0, 0, 0), 0, 0, [])), (1081, (.aload 0, 1, (0, 0, 0), 0, 0, [])), (1082, (.iload 0, 1, (3, 0, 0), 0, 0, [])), (1083, (.iconst 0, 1, (0, 0, 0), 2, 0, [])), (1084, (.iadd, 1, (0, 0, 0), 0, 0, [])), (1085, (.iaload, 1, (0, 0, 0), 0, 0, [])), (1086, (.invokevirtual 0, 3, (3, 196, 121), 0, 0, []))],
  [(1089, (.if_icmp .eq 0, 3, (2014, 0, 0), 0, 0, [])), (1092, (.iconst 0, 1, (0, 0, 0), 0, 0, [])), (1093, (.ireturn, 1, (0, 0, 0), 0, 0, [])), (1094, (.aload 0, 1, (1, 0, 0), 0, 0, [])), (1095, (.aload 0, 1, (0, 0, 0), 0, 0, [])), (1096, (.iload 0, 1, (3, 0, 0), 0, 0, [])), (1097, (.iconst 0, 1, (0, 0, 0), 1, 0, [])), (1098, (.iadd, 1, (0, 0, 0), 0, 0, [])), (1099, (.iaload, 1, (0, 0, 0), 0, 0, [])), (1100, (.aload 0, 1, (0, 0, 0), 0, 0, [])), (1101, (.iload 0, 1, (3, 0, 0), 0, 0, [])), (1102, (.iconst 0, 1, (0, 0, 0), 2, 0, [])), (1103, (.iadd, 1, (0, 0, 0), 0, 0, [])), (1104, (.iaload, 1, (0, 0, 0), 0, 0, [])), (1105, (.aload 0, 1, (0, 0, 0), 0, 0, [])), (1106, (.iload 0, 1, (3, 0, 0), 0, 0, [])), (1107, (.iconst 0, 1, (0, 0, 0), 3, 0, [])), (1108, (.iadd, 1, (0, 0, 0), 0, 0, [])), (1109, (.iaload, 1, (0, 0, 0), 0, 0, [])), (1110, (.aload 0, 1, (0, 0, 0), 0, 0, [])), (1111, (.iload 0, 1, (3, 0, 0), 0, 0, [])), (1112, (.iconst 0, 1, (0, 0, 0), 4, 0, [])), (1113, (.iadd, 1, (0, 0, 0), 0, 0, [])), (1114, (.iaload, 1, (0, 0, 0), 0, 0, [])), (1115, (.invokevirtual 0, 3, (5, 90, 122), 0, 0, [])), (1118, (.aload 0, 1, (2, 0, 0), 0, 0, [])), (1119, (.aload 0, 1, (0, 0, 0), 0, 0, []))],
  [(1120, (.iload 0, 1, (3, 0, 0), 0, 0, [])), (1121, (.iconst 0, 1, (0, 0, 0), 1, 0, [])), (1122, (.iadd, 1, (0, 0, 0), 0, 0, [])), (1123, (.iaload, 1, (0, 0, 0), 0, 0, [])), (1124, (.aload 0, 1, (0, 0, 0), 0, 0, [])), (1125, (.iload 0, 1, (3, 0, 0), 0, 0, [])), (1126, (.iconst 0, 1, (0, 0, 0), 2, 0, [])), (1127, (.iadd, 1, (0, 0, 0), 0, 0, [])), (1128, (.iaload, 1, (0, 0, 0), 0, 0, [])), (1129, (.aload 0, 1, (0, 0, 0), 0, 0, [])), (1130, (.iload 0, 1, (3, 0, 0), 0, 0, [])), (1131, (.iconst 0, 1, (0, 0, 0), 3, 0, [])), (1132, (.iadd, 1, (0, 0, 0), 0, 0, [])), (1133, (.iaload, 1, (0, 0, 0), 0, 0, [])), (1134, (.aload 0, 1, (0, 0, 0), 0, 0, [])), (1135, (.iload 0, 1, (3, 0, 0), 0, 0, [])), (1136, (.iconst 0, 1, (0, 0, 0), 4, 0, [])), (1137, (.iadd, 1, (0, 0, 0), 0, 0, [])), (1138, (.iaload, 1, (0, 0, 0), 0, 0, [])), (1139, (.invokevirtual 0, 3, (5, 198, 126), 0, 0, [])), (1142, (.if_icmp .eq 0, 3, (2014, 0, 0), 0, 0, [])), (1145, (.iconst 0, 1, (0, 0, 0), 0, 0, [])), (1146, (.ireturn, 1, (0, 0, 0), 0, 0, [])), (1147, (.aload 0, 1, (1, 0, 0), 0, 0, [])), (1148, (.aload 0, 1, (0, 0, 0), 0, 0, [])), (1149, (.iload 0, 1, (3, 0, 0), 0, 0, [])), (1150, (.iconst 0, 1, (0, 0, 0), 1, 0, [])), (1151, (.iadd, 1, (0, 0, 0), 0, 0, []))],
  [(1152, (.iaload, 1, (0, 0, 0), 0, 0, [])), (1153, (.aload 0, 1, (0, 0, 0), 0, 0, [])), (1154, (.iload 0, 1, (3, 0, 0), 0, 0, [])), (1155, (.iconst 0, 1, (0, 0, 0), 2, 0, [])), (1156, (.iadd, 1, (0, 0, 0), 0, 0, [])), (1157, (.iaload, 1, (0, 0, 0), 0, 0, [])), (1158, (.aload 0, 1, (0, 0, 0), 0, 0, [])), (1159, (.iload 0, 1, (3, 0, 0), 0, 0, [])), (1160, (.iconst 0, 1, (0, 0, 0), 3, 0, [])), (1161, (.iadd, 1, (0, 0, 0), 0, 0, [])), (1162, (.iaload, 1, (0, 0, 0), 0, 0, [])), (1163, (.invokevirtual 0, 3, (4, 91, 127), 0, 0, [])), (1166, (.aload 0, 1, (2, 0, 0), 0, 0, [])), (1167, (.aload 0, 1, (0, 0, 0), 0, 0, [])), (1168, (.iload 0, 1, (3, 0, 0), 0, 0, [])), (1169, (.iconst 0, 1, (0, 0, 0), 1, 0, [])), (1170, (.iadd, 1, (0, 0, 0), 0, 0, [])), (1171, (.iaload, 1, (0, 0, 0), 0, 0, [])), (1172, (.aload 0, 1, (0, 0, 0), 0, 0, [])), (1173, (.iload 0, 1, (3, 0, 0), 0, 0, [])), (1174, (.iconst 0, 1, (0, 0, 0), 2, 0, [])), (1175, (.iadd, 1, (0, 0, 0), 0, 0, [])), (1176, (.iaload, 1, (0, 0, 0), 0, 0, [])), (1177, (.aload 0, 1, (0, 0, 0), 0, 0, [])), (1178, (.iload 0, 1, (3, 0, 0), 0, 0, [])), (1179, (.iconst 0, 1, (0, 0, 0), 3, 0, [])), (1180, (.iadd, 1, (0, 0, 0), 0, 0, [])), (1181, (.iaload, 1, (0, 0, 0), 0, 0, [])), (1182, (.invokevirtual 0, 3, (4, 200, 130), 0, 0, []))],
  [(1185, (.if_icmp .eq 0, 3, (2014, 0, 0), 0, 0, [])), (1188, (.iconst 0, 1, (0, 0, 0), 0, 0, [])), (1189, (.ireturn, 1, (0, 0, 0), 0, 0, [])), (1190, (.aload 0, 1, (1, 0, 0), 0, 0, [])), (1191, (.aload 0, 1, (0, 0, 0), 0, 0, [])), (1192, (.iload 0, 1, (3, 0, 0), 0, 0, [])), (1193, (.iconst 0, 1, (0, 0, 0), 1, 0, [])), (1194, (.iadd, 1, (0, 0, 0), 0, 0, [])), (1195, (.iaload, 1, (0, 0, 0), 0, 0, [])), (1196, (.aload 0, 1, (0, 0, 0), 0, 0, [])), (1197, (.iload 0, 1, (3, 0, 0), 0, 0, [])), (1198, (.iconst 0, 1, (0, 0, 0), 2, 0, [])), (1199, (.iadd, 1, (0, 0, 0), 0, 0, [])), (1200, (.iaload, 1, (0, 0, 0), 0, 0, [])), (1201, (.aload 0, 1, (0, 0, 0), 0, 0, [])), (1202, (.iload 0, 1, (3, 0, 0), 0, 0, [])), (1203, (.iconst 0, 1, (0, 0, 0), 3, 0, [])), (1204, (.iadd, 1, (0, 0, 0), 0, 0, [])), (1205, (.iaload, 1, (0, 0, 0), 0, 0, [])), (1206, (.aload 0, 1, (0, 0, 0), 0, 0, [])), (1207, (.iload 0, 1, (3, 0, 0), 0, 0, [])), (1208, (.iconst 0, 1, (0, 0, 0), 4, 0, [])), (1209, (.iadd, 1, (0, 0, 0), 0, 0, [])), (1210, (.iaload, 1, (0, 0, 0), 0, 0, [])), (1211, (.invokevirtual 0, 3, (5, 92, 131), 0, 0, [])), (1214, (.aload 0, 1, (2, 0, 0), 0, 0, [])), (1215, (.aload 0, 1, (0, 0, 0), 0, 0, []))],
  [(1216, (.iload 0, 1, (3, 0, 0), 0, 0, [])), (1217, (.iconst 0, 1, (0, 0, 0), 1, 0, [])), (1218, (.iadd, 1, (0, 0, 0), 0, 0, [])), (1219, (.iaload, 1, (0, 0, 0), 0, 0, [])), (1220, (.aload 0, 1, (0, 0, 0), 0, 0, [])), (1221, (.iload 0, 1, (3, 0, 0), 0, 0, [])), (1222, (.iconst 0, 1, (0, 0, 0), 2, 0, [])), (1223, (.iadd, 1, (0, 0, 0), 0, 0, [])), (1224, (.iaload, 1, (0, 0, 0), 0, 0, [])), (1225, (.aload 0, 1, (0, 0, 0), 0, 0, [])), (1226, (.iload 0, 1, (3, 0, 0), 0, 0, [])), (1227, (.iconst 0, 1, (0, 0, 0), 3, 0, [])), (1228, (.iadd, 1, (0, 0, 0), 0, 0, [])), (1229, (.iaload, 1, (0, 0, 0), 0, 0, [])), (1230, (.aload 0, 1, (0, 0, 0), 0, 0, [])), (1231, (.iload 0, 1, (3, 0, 0), 0, 0, [])), (1232, (.iconst 0, 1, (0, 0, 0), 4, 0, [])), (1233, (.iadd, 1, (0, 0, 0), 0, 0, [])), (1234, (.iaload, 1, (0, 0, 0), 0, 0, [])), (1235, (.invokevirtual 0, 3, (5, 204, 134), 0, 0, [])), (1238, (.if_icmp .eq 0, 3, (2014, 0, 0), 0, 0, [])), (1241, (.iconst 0, 1, (0, 0, 0), 0, 0, [])), (1242, (.ireturn, 1, (0, 0, 0), 0, 0, [])), (1243, (.aload 0, 1, (1, 0, 0), 0, 0, [])), (1244, (.aload 0, 1, (0, 0, 0), 0, 0, [])), (1245, (.iload 0, 1, (3, 0, 0), 0, 0, [])), (1246, (.iconst 0, 1, (0, 0, 0), 1, 0, [])), (1247, (.iadd, 1, (0, 0, 0), 0, 0, []))],
  [(1248, (.iaload, 1, (0, 0, 0), 0, 0, [])), (1249, (.aload 0, 1, (0, 0, 0), 0, 0, [])), (1250, (.iload 0, 1, (3, 0, 0), 0, 0, [])), (1251, (.iconst 0, 1, (0, 0, 0), 2, 0, [])), (1252, (.iadd, 1, (0, 0, 0), 0, 0, [])), (1253, (.iaload, 1, (0, 0, 0), 0, 0, [])), (1254, (.aload 0, 1, (0, 0, 0), 0, 0, [])), (1255, (.iload 0, 1, (3, 0, 0), 0, 0, [])), (1256, (.iconst 0, 1, (0, 0, 0), 3, 0, [])), (1257, (.iadd, 1, (0, 0, 0), 0, 0, [])), (1258, (.iaload, 1, (0, 0, 0), 0, 0, [])), (1259, (.invokevirtual 0, 3, (4, 93, 135), 0, 0, [])), (1262, (.aload 0, 1, (2, 0, 0), 0, 0, [])), (1263, (.aload 0, 1, (0, 0, 0), 0, 0, [])), (1264, (.iload 0, 1, (3, 0, 0), 0, 0, [])), (1265, (.iconst 0, 1, (0, 0, 0), 1, 0, [])), (1266, (.iadd, 1, (0, 0, 0), 0, 0, [])), (1267, (.iaload, 1, (0, 0, 0), 0, 0, [])), (1268, (.aload 0, 1, (0, 0, 0), 0, 0, [])), (1269, (.iload 0, 1, (3, 0, 0), 0, 0, [])), (1270, (.iconst 0, 1, (0, 0, 0), 2, 0, [])), (1271, (.iadd, 1, (0, 0, 0), 0, 0, [])), (1272, (.iaload, 1, (0, 0, 0), 0, 0, [])), (1273, (.aload 0, 1, (0, 0, 0), 0, 0, [])), (1274, (.iload 0, 1, (3, 0, 0), 0, 0, [])), (1275, (.iconst 0, 1, (0, 0, 0), 3, 0, [])), (1276, (.iadd, 1, (0, 0, 0), 0, 0, [])), (1277, (.iaload, 1, (0, 0, 0), 0, 0, [])), (1278, (.invokevirtual 0, 3, (4, 205, 138), 0, 0, []))],
  [(1281, (.if_icmp .eq 0, 3, (2014, 0, 0), 0, 0, [])), (1284, (.iconst 0, 1, (0, 0, 0), 0, 0, [])), (1285, (.ireturn, 1, (0, 0, 0), 0, 0, [])), (1286, (.aload 0, 1, (1, 0, 0), 0, 0, [])), (1287, (.aload 0, 1, (0, 0, 0), 0, 0, [])), (1288, (.iload 0, 1, (3, 0, 0), 0, 0, [])), (1289, (.iconst 0, 1, (0, 0, 0), 1, 0, [])), (1290, (.iadd, 1, (0, 0, 0), 0, 0, [])), (1291, (.iaload, 1, (0, 0, 0), 0, 0, [])), (1292, (.aload 0, 1, (0, 0, 0), 0, 0, [])), (1293, (.iload 0, 1, (3, 0, 0), 0, 0, [])), (1294, (.iconst 0, 1, (0, 0, 0), 2, 0, [])), (1295, (.iadd, 1, (0, 0, 0), 0, 0, [])), (1296, (.iaload, 1, (0, 0, 0), 0, 0, [])), (1297, (.invokevirtual 0, 3, (3, 94, 139), 0, 0, [])), (1300, (.aload 0, 1, (2, 0, 0), 0, 0, [])), (1301, (.aload 0, 1, (0, 0, 0), 0, 0, [])), (1302, (.iload 0, 1, (3, 0, 0), 0, 0, [])), (1303, (.iconst 0, 1, (0, 0, 0), 1, 0, [])), (1304, (.iadd, 1, (0, 0, 0), 0, 0, [])), (1305, (.iaload, 1, (0, 0, 0), 0, 0, [])), (1306, (.aload 0, 1, (0, 0, 0), 0, 0, [])), (1307, (.iload 0, 1, (3, 0, 0), 0, 0, [])), (1308, (.iconst 0, 1, (0, 0, 0), 2, 0, [])), (1309, (.iadd, 1, (0, 0, 0), 0, 0, [])), (1310, (.iaload, 1, (0, 0, 0), 0, 0, [])), (1311, (.invokevirtual 0, 3, (3, 207, 142), 0, 0, []))],
  [(1314, (.if_icmp .eq 0, 3, (2014, 0, 0), 0, 0, [])), (1317, (.iconst 0, 1, (0, 0, 0), 0, 0, [])), (1318, (.ireturn, 1, (0, 0, 0), 0, 0, [])), (1319, (.aload 0, 1, (1, 0, 0), 0, 0, [])), (1320, (.aload 0, 1, (0, 0, 0), 0, 0, [])), (1321, (.iload 0, 1, (3, 0, 0), 0, 0, [])), (1322, (.iconst 0, 1, (0, 0, 0), 1, 0, [])), (1323, (.iadd, 1, (0, 0, 0), 0, 0, [])), (1324, (.iaload, 1, (0, 0, 0), 0, 0, [])), (1325, (.aload 0, 1, (0, 0, 0), 0, 0, [])), (1326, (.iload 0, 1, (3, 0, 0), 0, 0, [])), (1327, (.iconst 0, 1, (0, 0, 0), 2, 0, [])), (1328, (.iadd, 1, (0, 0, 0), 0, 0, [])), (1329, (.iaload, 1, (0, 0, 0), 0, 0, [])), (1330, (.invokevirtual 0, 3, (3, 95, 143), 0, 0, [])), (1333, (.aload 0, 1, (2, 0, 0), 0, 0, [])), (1334, (.aload 0, 1, (0, 0, 0), 0, 0, [])), (1335, (.iload 0, 1, (3, 0, 0), 0, 0, [])), (1336, (.iconst 0, 1, (0, 0, 0), 1, 0, [])), (1337, (.iadd, 1, (0, 0, 0), 0, 0, [])), (1338, (.iaload, 1, (0, 0, 0), 0, 0, [])), (1339, (.aload 0, 1, (0, 0, 0), 0, 0, [])), (1340, (.iload 0, 1, (3, 0, 0), 0, 0, [])), (1341, (.iconst 0, 1, (0, 0, 0), 2, 0, [])), (1342, (.iadd, 1, (0, 0, 0), 0, 0, [])), (1343, (.iaload, 1, (0, 0, 0), 0, 0, []))],
  [(1344, (.invokevirtual 0, 3, (3, 208, 146), 0, 0, [])), (1347, (.if_icmp .eq 0, 3, (2014, 0, 0), 0, 0, [])), (1350, (.iconst 0, 1, (0, 0, 0), 0, 0, [])), (1351, (.ireturn, 1, (0, 0, 0), 0, 0, [])), (1352, (.aload 0, 1, (1, 0, 0), 0, 0, [])), (1353, (.aload 0, 1, (0, 0, 0), 0, 0, [])), (1354, (.iload 0, 1, (3, 0, 0), 0, 0, [])), (1355, (.iconst 0, 1, (0, 0, 0), 1, 0, [])), (1356, (.iadd, 1, (0, 0, 0), 0, 0, [])), (1357, (.iaload, 1, (0, 0, 0), 0, 0, [])), (1358, (.aload 0, 1, (0, 0, 0), 0, 0, [])), (1359, (.iload 0, 1, (3, 0, 0), 0, 0, [])), (1360, (.iconst 0, 1, (0, 0, 0), 2, 0, [])), (1361, (.iadd, 1, (0, 0, 0), 0, 0, [])), (1362, (.iaload, 1, (0, 0, 0), 0, 0, [])), (1363, (.aload 0, 1, (0, 0, 0), 0, 0, [])), (1364, (.iload 0, 1, (3, 0, 0), 0, 0, [])), (1365, (.iconst 0, 1, (0, 0, 0), 3, 0, [])), (1366, (.iadd, 1, (0, 0, 0), 0, 0, [])), (1367, (.iaload, 1, (0, 0, 0), 0, 0, [])), (1368, (.invokevirtual 0, 3, (4, 96, 147), 0, 0, [])), (1371, (.aload 0, 1, (2, 0, 0), 0, 0, [])), (1372, (.aload 0, 1, (0, 0, 0), 0, 0, [])), (1373, (.iload 0, 1, (3, 0, 0), 0, 0, [])), (1374, (.iconst 0, 1, (0, 0, 0), 1, 0, [])), (1375, (.iadd, 1, (0, 0, 0), 0, 0, []))],
  [(1376, (.iaload, 1, (0, 0, 0), 0, 0, [])), (1377, (.aload 0, 1, (0, 0, 0), 0, 0, [])), (1378, (.iload 0, 1, (3, 0, 0), 0, 0, [])), (1379, (.iconst 0, 1, (0, 0, 0), 2, 0, [])), (1380, (.iadd, 1, (0, 0, 0), 0, 0, [])), (1381, (.iaload, 1, (0, 0, 0), 0, 0, [])), (1382, (.aload 0, 1, (0, 0, 0), 0, 0, [])), (1383, (.iload 0, 1, (3, 0, 0), 0, 0, [])), (1384, (.iconst 0, 1, (0, 0, 0), 3, 0, [])), (1385, (.iadd, 1, (0, 0, 0), 0, 0, [])), (1386, (.iaload, 1, (0, 0, 0), 0, 0, [])), (1387, (.invokevirtual 0, 3, (4, 209, 150), 0, 0, [])), (1390, (.if_icmp .eq 0, 3, (2014, 0, 0), 0, 0, [])), (1393, (.iconst 0, 1, (0, 0, 0), 0, 0, [])), (1394, (.ireturn, 1, (0, 0, 0), 0, 0, [])), (1395, (.aload 0, 1, (1, 0, 0), 0, 0, [])), (1396, (.aload 0, 1, (0, 0, 0), 0, 0, [])), (1397, (.iload 0, 1, (3, 0, 0), 0, 0, [])), (1398, (.iconst 0, 1, (0, 0, 0), 1, 0, [])), (1399, (.iadd, 1, (0, 0, 0), 0, 0, [])), (1400, (.iaload, 1, (0, 0, 0), 0, 0, [])), (1401, (.invokevirtual 0, 3, (2, 97, 151), 0, 0, [])), (1404, (.aload 0, 1, (2, 0, 0), 0, 0, [])), (1405, (.aload 0, 1, (0, 0, 0), 0, 0, [])), (1406, (.iload 0, 1, (3, 0, 0), 0, 0, [])), (1407, (.iconst 0, 1, (0, 0, 0), 1, 0, []))],
  [(1408, (.iadd, 1, (0, 0, 0), 0, 0, [])), (1409, (.iaload, 1, (0, 0, 0), 0, 0, [])), (1410, (.invokevirtual 0, 3, (2, 210, 154), 0, 0, [])), (1413, (.if_icmp .eq 0, 3, (2014, 0, 0), 0, 0, [])), (1416, (.iconst 0, 1, (0, 0, 0), 0, 0, [])), (1417, (.ireturn, 1, (0, 0, 0), 0, 0, [])), (1418, (.aload 0, 1, (1, 0, 0), 0, 0, [])), (1419, (.aload 0, 1, (0, 0, 0), 0, 0, [])), (1420, (.iload 0, 1, (3, 0, 0), 0, 0, [])), (1421, (.iconst 0, 1, (0, 0, 0), 1, 0, [])), (1422, (.iadd, 1, (0, 0, 0), 0, 0, [])), (1423, (.iaload, 1, (0, 0, 0), 0, 0, [])), (1424, (.aload 0, 1, (0, 0, 0), 0, 0, [])), (1425, (.iload 0, 1, (3, 0, 0), 0, 0, [])), (1426, (.iconst 0, 1, (0, 0, 0), 2, 0, [])), (1427, (.iadd, 1, (0, 0, 0), 0, 0, [])), (1428, (.iaload, 1, (0, 0, 0), 0, 0, [])), (1429, (.invokevirtual 0, 3, (3, 98, 155), 0, 0, [])), (1432, (.aload 0, 1, (2, 0, 0), 0, 0, [])), (1433, (.aload 0, 1, (0, 0, 0), 0, 0, [])), (1434, (.iload 0, 1, (3, 0, 0), 0, 0, [])), (1435, (.iconst 0, 1, (0, 0, 0), 1, 0, [])), (1436, (.iadd, 1, (0, 0, 0), 0, 0, [])), (1437, (.iaload, 1, (0, 0, 0), 0, 0, [])), (1438, (.aload 0, 1, (0, 0, 0), 0, 0, [])), (1439, (.iload 0, 1, (3, 0, 0), 0, 0, []))],
  [(1440, (.iconst 0, 1, (0, 0, 0), 2, 0, [])), (1441, (.iadd, 1, (0, 0, 0), 0, 0, [])), (1442, (.iaload, 1, (0, 0, 0), 0, 0, [])), (1443, (.invokevirtual 0, 3, (3, 211, 158), 0, 0, [])), (1446, (.if_icmp .eq 0, 3, (2014, 0, 0), 0, 0, [])), (1449, (.iconst 0, 1, (0, 0, 0), 0, 0, [])), (1450, (.ireturn, 1, (0, 0, 0), 0, 0, [])), (1451, (.aload 0, 1, (1, 0, 0), 0, 0, [])), (1452, (.aload 0, 1, (0, 0, 0), 0, 0, [])), (1453, (.iload 0, 1, (3, 0, 0), 0, 0, [])), (1454, (.iconst 0, 1, (0, 0, 0), 1, 0, [])), (1455, (.iadd, 1, (0, 0, 0), 0, 0, [])), (1456, (.iaload, 1, (0, 0, 0), 0, 0, [])), (1457, (.invokevirtual 0, 3, (2, 99, 159), 0, 0, [])), (1460, (.aload 0, 1, (2, 0, 0), 0, 0, [])), (1461, (.aload 0, 1, (0, 0, 0), 0, 0, [])), (1462, (.iload 0, 1, (3, 0, 0), 0, 0, [])), (1463, (.iconst 0, 1, (0, 0, 0), 1, 0, [])), (1464, (.iadd, 1, (0, 0, 0), 0, 0, [])), (1465, (.iaload, 1, (0, 0, 0), 0, 0, [])), (1466, (.invokevirtual 0, 3, (2, 214, 162), 0, 0, [])), (1469, (.if_icmp .eq 0, 3, (2014, 0, 0), 0, 0, []))],
  [(1472, (.iconst 0, 1, (0, 0, 0), 0, 0, [])), (1473, (.ireturn, 1, (0, 0, 0), 0, 0, [])), (1474, (.aload 0, 1, (1, 0, 0), 0, 0, [])), (1475, (.aload 0, 1, (0, 0, 0), 0, 0, [])), (1476, (.iload 0, 1, (3, 0, 0), 0, 0, [])), (1477, (.iconst 0, 1, (0, 0, 0), 1, 0, [])), (1478, (.iadd, 1, (0, 0, 0), 0, 0, [])), (1479, (.iaload, 1, (0, 0, 0), 0, 0, [])), (1480, (.aload 0, 1, (0, 0, 0), 0, 0, [])), (1481, (.iload 0, 1, (3, 0, 0), 0, 0, [])), (1482, (.iconst 0, 1, (0, 0, 0), 2, 0, [])), (1483, (.iadd, 1, (0, 0, 0), 0, 0, [])), (1484, (.iaload, 1, (0, 0, 0), 0, 0, [])), (1485, (.invokevirtual 0, 3, (3, 100, 163), 0, 0, [])), (1488, (.aload 0, 1, (2, 0, 0), 0, 0, [])), (1489, (.aload 0, 1, (0, 0, 0), 0, 0, [])), (1490, (.iload 0, 1, (3, 0, 0), 0, 0, [])), (1491, (.iconst 0, 1, (0, 0, 0), 1, 0, [])), (1492, (.iadd, 1, (0, 0, 0), 0, 0, [])), (1493, (.iaload, 1, (0, 0, 0), 0, 0, [])), (1494, (.aload 0, 1, (0, 0, 0), 0, 0, [])), (1495, (.iload 0, 1, (3, 0, 0), 0, 0, [])), (1496, (.iconst 0, 1, (0, 0, 0), 2, 0, [])), (1497, (.iadd, 1, (0, 0, 0), 0, 0, [])), (1498, (.iaload, 1, (0, 0, 0), 0, 0, [])), (1499, (.invokevirtual 0, 3, (3, 216, 166), 0, 0, [])), (1502, (.if_icmp .eq 0, 3, (2014, 0, 0), 0, 0, []))],
  [(1505, (.iconst 0, 1, (0, 0, 0), 0, 0, [])), (1506, (.ireturn, 1, (0, 0, 0), 0, 0, [])), (1507, (.aload 0, 1, (1, 0, 0), 0, 0, [])), (1508, (.aload 0, 1, (0, 0, 0), 0, 0, [])), (1509, (.iload 0, 1, (3, 0, 0), 0, 0, [])), (1510, (.iconst 0, 1, (0, 0, 0), 1, 0, [])), (1511, (.iadd, 1, (0, 0, 0), 0, 0, [])), (1512, (.iaload, 1, (0, 0, 0), 0, 0, [])), (1513, (.invokevirtual 0, 3, (2, 101, 167), 0, 0, [])), (1516, (.aload 0, 1, (2, 0, 0), 0, 0, [])), (1517, (.aload 0, 1, (0, 0, 0), 0, 0, [])), (1518, (.iload 0, 1, (3, 0, 0), 0, 0, [])), (1519, (.iconst 0, 1, (0, 0, 0), 1, 0, [])), (1520, (.iadd, 1, (0, 0, 0), 0, 0, [])), (1521, (.iaload, 1, (0, 0, 0), 0, 0, [])), (1522, (.invokevirtual 0, 3, (2, 217, 170), 0, 0, [])), (1525, (.if_icmp .eq 0, 3, (2014, 0, 0), 0, 0, [])), (1528, (.iconst 0, 1, (0, 0, 0), 0, 0, [])), (1529, (.ireturn, 1, (0, 0, 0), 0, 0, [])), (1530, (.aload 0, 1, (1, 0, 0), 0, 0, [])), (1531, (.aload 0, 1, (0, 0, 0), 0, 0, [])), (1532, (.iload 0, 1, (3, 0, 0), 0, 0, [])), (1533, (.iconst 0, 1, (0, 0, 0), 1, 0, [])), (1534, (.iadd, 1, (0, 0, 0), 0, 0, [])), (1535, (.iaload, 1, (0, 0, 0), 0, 0, []))],
  [(1536, (.aload 0, 1, (0, 0, 0), 0, 0, [])), (1537, (.iload 0, 1, (3, 0, 0), 0, 0, [])), (1538, (.iconst 0, 1, (0, 0, 0), 2, 0, [])), (1539, (.iadd, 1, (0, 0, 0), 0, 0, [])), (1540, (.iaload, 1, (0, 0, 0), 0, 0, [])), (1541, (.invokevirtual 0, 3, (3, 102, 171), 0, 0, [])), (1544, (.aload 0, 1, (2, 0, 0), 0, 0, [])), (1545, (.aload 0, 1, (0, 0, 0), 0, 0, [])), (1546, (.iload 0, 1, (3, 0, 0), 0, 0, [])), (1547, (.iconst 0, 1, (0, 0, 0), 1, 0, [])), (1548, (.iadd, 1, (0, 0, 0), 0, 0, [])), (1549, (.iaload, 1, (0, 0, 0), 0, 0, [])), (1550, (.aload 0, 1, (0, 0, 0), 0, 0, [])), (1551, (.iload 0, 1, (3, 0, 0), 0, 0, [])), (1552, (.iconst 0, 1, (0, 0, 0), 2, 0, [])), (1553, (.iadd, 1, (0, 0, 0), 0, 0, [])), (1554, (.iaload, 1, (0, 0, 0), 0, 0, [])), (1555, (.invokevirtual 0, 3, (3, 219, 174), 0, 0, [])), (1558, (.if_icmp .eq 0, 3, (2014, 0, 0), 0, 0, [])), (1561, (.iconst 0, 1, (0, 0, 0), 0, 0, [])), (1562, (.ireturn, 1, (0, 0, 0), 0, 0, [])), (1563, (.aload 0, 1, (1, 0, 0), 0, 0, [])), (1564, (.aload 0, 1, (0, 0, 0), 0, 0, [])), (1565, (.iload 0, 1, (3, 0, 0), 0, 0, [])), (1566, (.iconst 0, 1, (0, 0, 0), 1, 0, [])), (1567, (.iadd, 1, (0, 0, 0), 0, 0, []))],
  [(1568, (.iaload, 1, (0, 0, 0), 0, 0, [])), (1569, (.invokevirtual 0, 3, (2, 103, 175), 0, 0, [])), (1572, (.aload 0, 1, (2, 0, 0), 0, 0, [])), (1573, (.aload 0, 1, (0, 0, 0), 0, 0, [])), (1574, (.iload 0, 1, (3, 0, 0), 0, 0, [])), (1575, (.iconst 0, 1, (0, 0, 0), 1, 0, [])), (1576, (.iadd, 1, (0, 0, 0), 0, 0, [])), (1577, (.iaload, 1, (0, 0, 0), 0, 0, [])), (1578, (.invokevirtual 0, 3, (2, 220, 178), 0, 0, [])), (1581, (.if_icmp .eq 0, 3, (2014, 0, 0), 0, 0, [])), (1584, (.iconst 0, 1, (0, 0, 0), 0, 0, [])), (1585, (.ireturn, 1, (0, 0, 0), 0, 0, [])), (1586, (.aload 0, 1, (1, 0, 0), 0, 0, [])), (1587, (.aload 0, 1, (0, 0, 0), 0, 0, [])), (1588, (.iload 0, 1, (3, 0, 0), 0, 0, [])), (1589, (.iconst 0, 1, (0, 0, 0), 1, 0, [])), (1590, (.iadd, 1, (0, 0, 0), 0, 0, [])), (1591, (.iaload, 1, (0, 0, 0), 0, 0, [])), (1592, (.invokevirtual 0, 3, (2, 104, 179), 0, 0, [])), (1595, (.aload 0, 1, (2, 0, 0), 0, 0, [])), (1596, (.aload 0, 1, (0, 0, 0), 0, 0, [])), (1597, (.iload 0, 1, (3, 0, 0), 0, 0, [])), (1598, (.iconst 0, 1, (0, 0, 0), 1, 0, [])), (1599, (.iadd, 1, (0, 0, 0), 0, 0, []))],
  [(1600, (.iaload, 1, (0, 0, 0), 0, 0, [])), (1601, (.invokevirtual 0, 3, (2, 221, 182), 0, 0, [])), (1604, (.if_icmp .eq 0, 3, (2014, 0, 0), 0, 0, [])), (1607, (.iconst 0, 1, (0, 0, 0), 0, 0, [])), (1608, (.ireturn, 1, (0, 0, 0), 0, 0, [])), (1609, (.aload 0, 1, (1, 0, 0), 0, 0, [])), (1610, (.aload 0, 1, (0, 0, 0), 0, 0, [])), (1611, (.iload 0, 1, (3, 0, 0), 0, 0, [])), (1612, (.iconst 0, 1, (0, 0, 0), 1, 0, [])), (1613, (.iadd, 1, (0, 0, 0), 0, 0, [])), (1614, (.iaload, 1, (0, 0, 0), 0, 0, [])), (1615, (.aload 0, 1, (0, 0, 0), 0, 0, [])), (1616, (.iload 0, 1, (3, 0, 0), 0, 0, [])), (1617, (.iconst 0, 1, (0, 0, 0), 2, 0, [])), (1618, (.iadd, 1, (0, 0, 0), 0, 0, [])), (1619, (.iaload, 1, (0, 0, 0), 0, 0, [])), (1620, (.invokevirtual 0, 3, (3, 105, 183), 0, 0, [])), (1623, (.aload 0, 1, (2, 0, 0), 0, 0, [])), (1624, (.aload 0, 1, (0, 0, 0), 0, 0, [])), (1625, (.iload 0, 1, (3, 0, 0), 0, 0, [])), (1626, (.iconst 0, 1, (0, 0, 0), 1, 0, [])), (1627, (.iadd, 1, (0, 0, 0), 0, 0, [])), (1628, (.iaload, 1, (0, 0, 0), 0, 0, [])), (1629, (.aload 0, 1, (0, 0, 0), 0, 0, [])), (1630, (.iload 0, 1, (3, 0, 0), 0, 0, [])), (1631, (.iconst 0, 1, (0, 0, 0), 2, 0, []))],
  [(1632, (.iadd, 1, (0, 0, 0), 0, 0, [])), (1633, (.iaload, 1, (0, 0, 0), 0, 0, [])), (1634, (.invokevirtual 0, 3, (3, 222, 186), 0, 0, [])), (1637, (.if_icmp .eq 0, 3, (2014, 0, 0), 0, 0, [])), (1640, (.iconst 0, 1, (0, 0, 0), 0, 0, [])), (1641, (.ireturn, 1, (0, 0, 0), 0, 0, [])), (1642, (.aload 0, 1, (1, 0, 0), 0, 0, [])), (1643, (.aload 0, 1, (0, 0, 0), 0, 0, [])), (1644, (.iload 0, 1, (3, 0, 0), 0, 0, [])), (1645, (.iconst 0, 1, (0, 0, 0), 1, 0, [])), (1646, (.iadd, 1, (0, 0, 0), 0, 0, [])), (1647, (.iaload, 1, (0, 0, 0), 0, 0, [])), (1648, (.invokevirtual 0, 3, (2, 106, 187), 0, 0, [])), (1651, (.aload 0, 1, (2, 0, 0), 0, 0, [])), (1652, (.aload 0, 1, (0, 0, 0), 0, 0, [])), (1653, (.iload 0, 1, (3, 0, 0), 0, 0, [])), (1654, (.iconst 0, 1, (0, 0, 0), 1, 0, [])), (1655, (.iadd, 1, (0, 0, 0), 0, 0, [])), (1656, (.iaload, 1, (0, 0, 0), 0, 0, [])), (1657, (.invokevirtual 0, 3, (2, 192, 190), 0, 0, [])), (1660, (.if_icmp .eq 0, 3, (2014, 0, 0), 0, 0, [])), (1663, (.iconst 0, 1, (0, 0, 0), 0, 0, []))],
  [(1664, (.ireturn, 1, (0, 0, 0), 0, 0, [])), (1665, (.aload 0, 1, (1, 0, 0), 0, 0, [])), (1666, (.aload 0, 1, (0, 0, 0), 0, 0, [])), (1667, (.iload 0, 1, (3, 0, 0), 0, 0, [])), (1668, (.iconst 0, 1, (0, 0, 0), 1, 0, [])), (1669, (.iadd, 1, (0, 0, 0), 0, 0, [])), (1670, (.iaload, 1, (0, 0, 0), 0, 0, [])), (1671, (.invokevirtual 0, 3, (2, 107, 191), 0, 0, [])), (1674, (.aload 0, 1, (2, 0, 0), 0, 0, [])), (1675, (.aload 0, 1, (0, 0, 0), 0, 0, [])), (1676, (.iload 0, 1, (3, 0, 0), 0, 0, [])), (1677, (.iconst 0, 1, (0, 0, 0), 1, 0, [])), (1678, (.iadd, 1, (0, 0, 0), 0, 0, [])), (1679, (.iaload, 1, (0, 0, 0), 0, 0, [])), (1680, (.invokevirtual 0, 3, (2, 223, 194), 0, 0, [])), (1683, (.if_icmp .eq 0, 3, (2014, 0, 0), 0, 0, [])), (1686, (.iconst 0, 1, (0, 0, 0), 0, 0, [])), (1687, (.ireturn, 1, (0, 0, 0), 0, 0, [])), (1688, (.aload 0, 1, (1, 0, 0), 0, 0, [])), (1689, (.aload 0, 1, (0, 0, 0), 0, 0, [])), (1690, (.iload 0, 1, (3, 0, 0), 0, 0, [])), (1691, (.iconst 0, 1, (0, 0, 0), 1, 0, [])), (1692, (.iadd, 1, (0, 0, 0), 0, 0, [])), (1693, (.iaload, 1, (0, 0, 0), 0, 0, [])), (1694, (.aload 0, 1, (0, 0, 0), 0, 0, [])), (1695, (.iload 0, 1, (3, 0, 0), 0, 0, []))],
  [(1696, (.iconst 0, 1, (0, 0, 0), 2, 0, [])), (1697, (.iadd, 1, (0, 0, 0), 0, 0, [])), (1698, (.iaload, 1, (0, 0, 0), 0, 0, [])), (1699, (.aload 0, 1, (0, 0, 0), 0, 0, [])), (1700, (.iload 0, 1, (3, 0, 0), 0, 0, [])), (1701, (.iconst 0, 1, (0, 0, 0), 3, 0, [])), (1702, (.iadd, 1, (0, 0, 0), 0, 0, [])), (1703, (.iaload, 1, (0, 0, 0), 0, 0, [])), (1704, (.invokevirtual 0, 3, (4, 108, 195), 0, 0, [])), (1707, (.aload 0, 1, (2, 0, 0), 0, 0, [])), (1708, (.aload 0, 1, (0, 0, 0), 0, 0, [])), (1709, (.iload 0, 1, (3, 0, 0), 0, 0, [])), (1710, (.iconst 0, 1, (0, 0, 0), 1, 0, [])), (1711, (.iadd, 1, (0, 0, 0), 0, 0, [])), (1712, (.iaload, 1, (0, 0, 0), 0, 0, [])), (1713, (.aload 0, 1, (0, 0, 0), 0, 0, [])), (1714, (.iload 0, 1, (3, 0, 0), 0, 0, [])), (1715, (.iconst 0, 1, (0, 0, 0), 2, 0, [])), (1716, (.iadd, 1, (0, 0, 0), 0, 0, [])), (1717, (.iaload, 1, (0, 0, 0), 0, 0, [])), (1718, (.aload 0, 1, (0, 0, 0), 0, 0, [])), (1719, (.iload 0, 1, (3, 0, 0), 0, 0, [])), (1720, (.iconst 0, 1, (0, 0, 0), 3, 0, [])), (1721, (.iadd, 1, (0, 0, 0), 0, 0, [])), (1722, (.iaload, 1, (0, 0, 0), 0, 0, [])), (1723, (.invokevirtual 0, 3, (4, 224, 198), 0, 0, [])), (1726, (.if_icmp .eq 0, 3, (2014, 0, 0), 0, 0, []))],
  [(1729, (.iconst 0, 1, (0, 0, 0), 0, 0, [])), (1730, (.ireturn, 1, (0, 0, 0), 0, 0, [])), (1731, (.aload 0, 1, (1, 0, 0), 0, 0, [])), (1732, (.aload 0, 1, (0, 0, 0), 0, 0, [])), (1733, (.iload 0, 1, (3, 0, 0), 0, 0, [])), (1734, (.iconst 0, 1, (0, 0, 0), 1, 0, [])), (1735, (.iadd, 1, (0, 0, 0), 0, 0, [])), (1736, (.iaload, 1, (0, 0, 0), 0, 0, [])), (1737, (.aload 0, 1, (0, 0, 0), 0, 0, [])), (1738, (.iload 0, 1, (3, 0, 0), 0, 0, [])), (1739, (.iconst 0, 1, (0, 0, 0), 2, 0, [])), (1740, (.iadd, 1, (0, 0, 0), 0, 0, [])), (1741, (.iaload, 1, (0, 0, 0), 0, 0, [])), (1742, (.invokevirtual 0, 3, (3, 109, 199), 0, 0, [])), (1745, (.aload 0, 1, (2, 0, 0), 0, 0, [])), (1746, (.aload 0, 1, (0, 0, 0), 0, 0, [])), (1747, (.iload 0, 1, (3, 0, 0), 0, 0, [])), (1748, (.iconst 0, 1, (0, 0, 0), 1, 0, [])), (1749, (.iadd, 1, (0, 0, 0), 0, 0, [])), (1750, (.iaload, 1, (0, 0, 0), 0, 0, [])), (1751, (.aload 0, 1, (0, 0, 0), 0, 0, [])), (1752, (.iload 0, 1, (3, 0, 0), 0, 0, [])), (1753, (.iconst 0, 1, (0, 0, 0), 2, 0, [])), (1754, (.iadd, 1, (0, 0, 0), 0, 0, [])), (1755, (.iaload, 1, (0, 0, 0), 0, 0, [])), (1756, (.invokevirtual 0, 3, (3, 225, 202), 0, 0, [])), (1759, (.if_icmp .eq 0, 3, (2014, 0, 0), 0, 0, []))],
  [(1762, (.iconst 0, 1, (0, 0, 0), 0, 0, [])), (1763, (.ireturn, 1, (0, 0, 0), 0, 0, [])), (1764, (.aload 0, 1, (1, 0, 0), 0, 0, [])), (1765, (.invokevirtual 0, 3, (1, 110, 203), 0, 0, [])), (1768, (.aload 0, 1, (2, 0, 0), 0, 0, [])), (1769, (.invokevirtual 0, 3, (1, 215, 206), 0, 0, [])), (1772, (.if_icmp .eq 0, 3, (2014, 0, 0), 0, 0, [])), (1775, (.iconst 0, 1, (0, 0, 0), 0, 0, [])), (1776, (.ireturn, 1, (0, 0, 0), 0, 0, [])), (1777, (.aload 0, 1, (1, 0, 0), 0, 0, [])), (1778, (.aload 0, 1, (0, 0, 0), 0, 0, [])), (1779, (.iload 0, 1, (3, 0, 0), 0, 0, [])), (1780, (.iconst 0, 1, (0, 0, 0), 1, 0, [])), (1781, (.iadd, 1, (0, 0, 0), 0, 0, [])), (1782, (.iaload, 1, (0, 0, 0), 0, 0, [])), (1783, (.invokevirtual 0, 3, (2, 111, 207), 0, 0, [])), (1786, (.aload 0, 1, (2, 0, 0), 0, 0, [])), (1787, (.aload 0, 1, (0, 0, 0), 0, 0, [])), (1788, (.iload 0, 1, (3, 0, 0), 0, 0, [])), (1789, (.iconst 0, 1, (0, 0, 0), 1, 0, [])), (1790, (.iadd, 1, (0, 0, 0), 0, 0, [])), (1791, (.iaload, 1, (0, 0, 0), 0, 0, []))],
  [(1792, (.invokevirtual 0, 3, (2, 226, 210), 0, 0, [])), (1795, (.if_icmp .eq 0, 3, (2014, 0, 0), 0, 0, [])), (1798, (.iconst 0, 1, (0, 0, 0), 0, 0, [])), (1799, (.ireturn, 1, (0, 0, 0), 0, 0, [])), (1800, (.aload 0, 1, (1, 0, 0), 0, 0, [])), (1801, (.aload 0, 1, (0, 0, 0), 0, 0, [])), (1802, (.iload 0, 1, (3, 0, 0), 0, 0, [])), (1803, (.iconst 0, 1, (0, 0, 0), 1, 0, [])), (1804, (.iadd, 1, (0, 0, 0), 0, 0, [])), (1805, (.iaload, 1, (0, 0, 0), 0, 0, [])), (1806, (.aload 0, 1, (0, 0, 0), 0, 0, [])), (1807, (.iload 0, 1, (3, 0, 0), 0, 0, [])), (1808, (.iconst 0, 1, (0, 0, 0), 2, 0, [])), (1809, (.iadd, 1, (0, 0, 0), 0, 0, [])), (1810, (.iaload, 1, (0, 0, 0), 0, 0, [])), (1811, (.aload 0, 1, (0, 0, 0), 0, 0, [])), (1812, (.iload 0, 1, (3, 0, 0), 0, 0, [])), (1813, (.iconst 0, 1, (0, 0, 0), 3, 0, [])), (1814, (.iadd, 1, (0, 0, 0), 0, 0, [])), (1815, (.iaload, 1, (0, 0, 0), 0, 0, [])), (1816, (.invokevirtual 0, 3, (4, 112, 211), 0, 0, [])), (1819, (.aload 0, 1, (2, 0, 0), 0, 0, [])), (1820, (.aload 0, 1, (0, 0, 0), 0, 0, [])), (1821, (.iload 0, 1, (3, 0, 0), 0, 0, [])), (1822, (.iconst 0, 1, (0, 0, 0), 1, 0, [])), (1823, (.iadd, 1, (0, 0, 0), 0, 0, []))],
  [(1824, (.iaload, 1, (0, 0, 0), 0, 0, [])), (1825, (.aload 0, 1, (0, 0, 0), 0, 0, [])), (1826, (.iload 0, 1, (3, 0, 0), 0, 0, [])), (1827, (.iconst 0, 1, (0, 0, 0), 2, 0, [])), (1828, (.iadd, 1, (0, 0, 0), 0, 0, [])), (1829, (.iaload, 1, (0, 0, 0), 0, 0, [])), (1830, (.aload 0, 1, (0, 0, 0), 0, 0, [])), (1831, (.iload 0, 1, (3, 0, 0), 0, 0, [])), (1832, (.iconst 0, 1, (0, 0, 0), 3, 0, [])), (1833, (.iadd, 1, (0, 0, 0), 0, 0, [])), (1834, (.iaload, 1, (0, 0, 0), 0, 0, [])), (1835, (.invokevirtual 0, 3, (4, 227, 214), 0, 0, [])), (1838, (.if_icmp .eq 0, 3, (2014, 0, 0), 0, 0, [])), (1841, (.iconst 0, 1, (0, 0, 0), 0, 0, [])), (1842, (.ireturn, 1, (0, 0, 0), 0, 0, [])), (1843, (.aload 0, 1, (1, 0, 0), 0, 0, [])), (1844, (.aload 0, 1, (0, 0, 0), 0, 0, [])), (1845, (.iload 0, 1, (3, 0, 0), 0, 0, [])), (1846, (.iconst 0, 1, (0, 0, 0), 1, 0, [])), (1847, (.iadd, 1, (0, 0, 0), 0, 0, [])), (1848, (.iaload, 1, (0, 0, 0), 0, 0, [])), (1849, (.aload 0, 1, (0, 0, 0), 0, 0, [])), (1850, (.iload 0, 1, (3, 0, 0), 0, 0, [])), (1851, (.iconst 0, 1, (0, 0, 0), 2, 0, [])), (1852, (.iadd, 1, (0, 0, 0), 0, 0, [])), (1853, (.iaload, 1, (0, 0, 0), 0, 0, [])), (1854, (.aload 0, 1, (0, 0, 0), 0, 0, [])), (1855, (.iload 0, 1, (3, 0, 0), 0, 0, []))],
  [(1856, (.iconst 0, 1, (0, 0, 0), 3, 0, [])), (1857, (.iadd, 1, (0, 0, 0), 0, 0, [])), (1858, (.iaload, 1, (0, 0, 0), 0, 0, [])), (1859, (.aload 0, 1, (0, 0, 0), 0, 0, [])), (1860, (.iload 0, 1, (3, 0, 0), 0, 0, [])), (1861, (.iconst 0, 1, (0, 0, 0), 4, 0, [])), (1862, (.iadd, 1, (0, 0, 0), 0, 0, [])), (1863, (.iaload, 1, (0, 0, 0), 0, 0, [])), (1864, (.invokevirtual 0, 3, (5, 113, 215), 0, 0, [])), (1867, (.aload 0, 1, (2, 0, 0), 0, 0, [])), (1868, (.aload 0, 1, (0, 0, 0), 0, 0, [])), (1869, (.iload 0, 1, (3, 0, 0), 0, 0, [])), (1870, (.iconst 0, 1, (0, 0, 0), 1, 0, [])), (1871, (.iadd, 1, (0, 0, 0), 0, 0, [])), (1872, (.iaload, 1, (0, 0, 0), 0, 0, [])), (1873, (.aload 0, 1, (0, 0, 0), 0, 0, [])), (1874, (.iload 0, 1, (3, 0, 0), 0, 0, [])), (1875, (.iconst 0, 1, (0, 0, 0), 2, 0, [])), (1876, (.iadd, 1, (0, 0, 0), 0, 0, [])), (1877, (.iaload, 1, (0, 0, 0), 0, 0, [])), (1878, (.aload 0, 1, (0, 0, 0), 0, 0, [])), (1879, (.iload 0, 1, (3, 0, 0), 0, 0, [])), (1880, (.iconst 0, 1, (0, 0, 0), 3, 0, [])), (1881, (.iadd, 1, (0, 0, 0), 0, 0, [])), (1882, (.iaload, 1, (0, 0, 0), 0, 0, [])), (1883, (.aload 0, 1, (0, 0, 0), 0, 0, [])), (1884, (.iload 0, 1, (3, 0, 0), 0, 0, [])), (1885, (.iconst 0, 1, (0, 0, 0), 4, 0, [])), (1886, (.iadd, 1, (0, 0, 0), 0, 0, [])), (1887, (.iaload, 1, (0, 0, 0), 0, 0, []))],
  [(1888, (.invokevirtual 0, 3, (5, 164, 218), 0, 0, [])), (1891, (.if_icmp .eq 0, 3, (2014, 0, 0), 0, 0, [])), (1894, (.iconst 0, 1, (0, 0, 0), 0, 0, [])), (1895, (.ireturn, 1, (0, 0, 0), 0, 0, [])), (1896, (.aload 0, 1, (1, 0, 0), 0, 0, [])), (1897, (.aload 0, 1, (0, 0, 0), 0, 0, [])), (1898, (.iload 0, 1, (3, 0, 0), 0, 0, [])), (1899, (.iconst 0, 1, (0, 0, 0), 1, 0, [])), (1900, (.iadd, 1, (0, 0, 0), 0, 0, [])), (1901, (.iaload, 1, (0, 0, 0), 0, 0, [])), (1902, (.invokevirtual 0, 3, (2, 114, 219), 0, 0, [])), (1905, (.aload 0, 1, (2, 0, 0), 0, 0, [])), (1906, (.aload 0, 1, (0, 0, 0), 0, 0, [])), (1907, (.iload 0, 1, (3, 0, 0), 0, 0, [])), (1908, (.iconst 0, 1, (0, 0, 0), 1, 0, [])), (1909, (.iadd, 1, (0, 0, 0), 0, 0, [])), (1910, (.iaload, 1, (0, 0, 0), 0, 0, [])), (1911, (.invokevirtual 0, 3, (2, 228, 222), 0, 0, [])), (1914, (.if_icmp .eq 0, 3, (2014, 0, 0), 0, 0, [])), (1917, (.iconst 0, 1, (0, 0, 0), 0, 0, [])), (1918, (.ireturn, 1, (0, 0, 0), 0, 0, [])), (1919, (.aload 0, 1, (1, 0, 0), 0, 0, []))],
  [(1920, (.aload 0, 1, (0, 0, 0), 0, 0, [])), (1921, (.iload 0, 1, (3, 0, 0), 0, 0, [])), (1922, (.iconst 0, 1, (0, 0, 0), 1, 0, [])), (1923, (.iadd, 1, (0, 0, 0), 0, 0, [])), (1924, (.iaload, 1, (0, 0, 0), 0, 0, [])), (1925, (.invokevirtual 0, 3, (2, 115, 223), 0, 0, [])), (1928, (.aload 0, 1, (2, 0, 0), 0, 0, [])), (1929, (.aload 0, 1, (0, 0, 0), 0, 0, [])), (1930, (.iload 0, 1, (3, 0, 0), 0, 0, [])), (1931, (.iconst 0, 1, (0, 0, 0), 1, 0, [])), (1932, (.iadd, 1, (0, 0, 0), 0, 0, [])), (1933, (.iaload, 1, (0, 0, 0), 0, 0, [])), (1934, (.invokevirtual 0, 3, (2, 230, 226), 0, 0, [])), (1937, (.if_icmp .eq 0, 3, (2014, 0, 0), 0, 0, [])), (1940, (.iconst 0, 1, (0, 0, 0), 0, 0, [])), (1941, (.ireturn, 1, (0, 0, 0), 0, 0, [])), (1942, (.aload 0, 1, (1, 0, 0), 0, 0, [])), (1943, (.aload 0, 1, (0, 0, 0), 0, 0, [])), (1944, (.iload 0, 1, (3, 0, 0), 0, 0, [])), (1945, (.iconst 0, 1, (0, 0, 0), 1, 0, [])), (1946, (.iadd, 1, (0, 0, 0), 0, 0, [])), (1947, (.iaload, 1, (0, 0, 0), 0, 0, [])), (1948, (.invokevirtual 0, 3, (2, 116, 227), 0, 0, [])), (1951, (.aload 0, 1, (2, 0, 0), 0, 0, []))],
  [(1952, (.aload 0, 1, (0, 0, 0), 0, 0, [])), (1953, (.iload 0, 1, (3, 0, 0), 0, 0, [])), (1954, (.iconst 0, 1, (0, 0, 0), 1, 0, [])), (1955, (.iadd, 1, (0, 0, 0), 0, 0, [])), (1956, (.iaload, 1, (0, 0, 0), 0, 0, [])), (1957, (.invokevirtual 0, 3, (2, 231, 230), 0, 0, [])), (1960, (.if_icmp .eq 0, 3, (2014, 0, 0), 0, 0, [])), (1963, (.iconst 0, 1, (0, 0, 0), 0, 0, [])), (1964, (.ireturn, 1, (0, 0, 0), 0, 0, [])), (1965, (.aload 0, 1, (1, 0, 0), 0, 0, [])), (1966, (.invokevirtual 0, 3, (1, 117, 231), 0, 0, [])), (1969, (.aload 0, 1, (2, 0, 0), 0, 0, [])), (1970, (.invokevirtual 0, 3, (1, 234, 234), 0, 0, [])), (1973, (.if_icmp .eq 0, 3, (2014, 0, 0), 0, 0, [])), (1976, (.iconst 0, 1, (0, 0, 0), 0, 0, [])), (1977, (.ireturn, 1, (0, 0, 0), 0, 0, [])), (1978, (.aload 0, 1, (1, 0, 0), 0, 0, [])), (1979, (.invokevirtual 0, 3, (1, 118, 235), 0, 0, [])), (1982, (.aload 0, 1, (2, 0, 0), 0, 0, [])), (1983, (.invokevirtual 0, 3, (1, 235, 238), 0, 0, []))],
  [(1986, (.if_icmp .eq 0, 3, (2014, 0, 0), 0, 0, [])), (1989, (.iconst 0, 1, (0, 0, 0), 0, 0, [])), (1990, (.ireturn, 1, (0, 0, 0), 0, 0, [])), (1991, (.aload 0, 1, (1, 0, 0), 0, 0, [])), (1992, (.aload 0, 1, (0, 0, 0), 0, 0, [])), (1993, (.iload 0, 1, (3, 0, 0), 0, 0, [])), (1994, (.iconst 0, 1, (0, 0, 0), 1, 0, [])), (1995, (.iadd, 1, (0, 0, 0), 0, 0, [])), (1996, (.iaload, 1, (0, 0, 0), 0, 0, [])), (1997, (.invokevirtual 0, 3, (2, 119, 239), 0, 0, [])), (2000, (.aload 0, 1, (2, 0, 0), 0, 0, [])), (2001, (.aload 0, 1, (0, 0, 0), 0, 0, [])), (2002, (.iload 0, 1, (3, 0, 0), 0, 0, [])), (2003, (.iconst 0, 1, (0, 0, 0), 1, 0, [])), (2004, (.iadd, 1, (0, 0, 0), 0, 0, [])), (2005, (.iaload, 1, (0, 0, 0), 0, 0, [])), (2006, (.invokevirtual 0, 3, (2, 236, 242), 0, 0, [])), (2009, (.if_icmp .eq 0, 3, (2014, 0, 0), 0, 0, [])), (2012, (.iconst 0, 1, (0, 0, 0), 0, 0, [])), (2013, (.ireturn, 1, (0, 0, 0), 0, 0, [])), (2014, (.iinc 0 0, 3, (3, 0, 0), 6, 0, []))],
  [(2017, (.goto 0, 3, (18, 0, 0), 0, 0, [])), (2020, (.iconst 0, 1, (0, 0, 0), 1, 0, [])), (2021, (.ireturn, 1, (0, 0, 0), 0, 0, []))]]
end
section
/-! WHAT IS STATIC behind the making: how many of each kind, how long the rows are, which references the fields and rows hold -/
def CNT : Nat → Nat := fun c => match c with
  | 0 => 28 | 1 => 8 | 2 => 1 | 3 => 2 | 4 => 23 | 5 => 3 | 6 => 1 | 7 => 1
  | 20 => 8 | 21 => 1 | 22 => 3 | 23 => 1 | 24 => 3 | 25 => 1 | 26 => 1
  | 40 => 3 | 41 => 2 | 42 => 2 | 43 => 8 | 44 => 9 | 45 => 1 | 46 => 1 | 47 => 1 | 48 => 1
  | 50 => 1 | 51 => 1 | 52 => 1 | 53 => 1 | 54 => 1 | 55 => 1 | 56 => 1 | 57 => 1 | 58 => 1 | 59 => 1 | 60 => 1 | 61 => 1 | 62 => 3 | 65 => 1 | 66 => 1 | 67 => 1 | 68 => 1
  | _ => 0
def LEN (n : Nat) : Nat → Nat → Nat := fun c i => match c with
  | 20 => 40 | 21 => 320 | 22 => 8 | 23 => 8 | 24 => 6 | 25 => 8 | 26 => 9
  | 30 => [5, 6, 6, 7, 4, 3, 6, 6, 5, 7, 4, 3].getD i 0 | 32 => 6 | 33 => n
  | 40 => 30 | 41 => 61 | 42 => 61 | 43 => 6 | 44 => 64 | 45 => 250 | 46 => 4 | 47 => 5 | 48 => 8
  | 50 => 30 | 51 => 2 | 52 => 9 | 53 => 9 | 54 => 9 | 55 => 9 | 56 => 9 | 57 => 18 | 58 => 250 | 59 => 8 | 60 => 8 | 61 => 7 | 62 => 102 | 65 => 48 | 66 => 8 | 67 => 8 | 68 => 30
  | _ => 0
def RF : Nat → Nat → Nat → Option (Nat × Nat) := fun c i k => match c with
  | 1 => some (20, i)
  | 2 => (match k with | 2 => some (45, 0) | _ => some (46, 0))
  | 3 => (match k with | 0 => some (41, i) | _ => some (42, i))
  | 5 => (match k with | 7 => some (40, i) | 8 => some (22, i) | 9 => some (24, i) | 10 => some (0, 9 * i) | _ => some (4, 7 * i))
  | 6 => (match k with | 0 => some (5, 0) | 1 => some (5, 1) | 2 => some (5, 2) | 4 => some (23, 0) | 5 => some (2, 0) | 6 => some (47, 0) | 7 => some (3, 0) | 8 => some (3, 1) | 9 => some (0, 27) | 10 => some (4, 21) | 11 => some (4, 22) | 12 => some (48, 0) | 13 => some (25, 0) | _ => some (26, 0))
  | 7 => (match k with | 1 => some (50, 0) | 2 => some (51, 0) | 5 => some (52, 0) | 6 => some (53, 0) | 7 => some (54, 0) | 8 => some (55, 0) | 9 => some (56, 0) | 11 => some (57, 0) | 14 => some (58, 0) | 19 => some (59, 0) | 20 => some (60, 0) | 21 => some (21, 0) | 22 => some (61, 0) | 24 => some (62, 0) | 25 => some (62, 1) | 26 => some (62, 2) | 27 => some (65, 0) | 28 => some (66, 0) | 29 => some (67, 0) | _ => some (68, 0))
  | 22 => some (0, 9 * i + 1 + k)
  | 23 => some (1, k)
  | 24 => some (4, 7 * i + 1 + k)
  | 25 => some (43, k)
  | 26 => some (44, k)
  | 31 => some (30, i)
  | _ => none
def ST0 (n : Nat) : ST := (CNT, LEN n, RF, 0, 0)
end
section
/-! THE LINKS, by program: what the constant pools mean, each with its place among the words of the tables -/
def cnL : List String := [RX0, RX1, RX2, RX3, RX4, RX5, RX6, RX7, RL, RJ0, RJ1, RJ2, RJ3, RJ6, RJ9, RJ10]
def cn (o : Nat) : String := cnL.getD o ""
def TT (c : Nat) : u_T := (vwCl.getD c ("", TX0, 0)).2.1
def NF (c : Nat) : Nat := (vwCl.getD c ("", TX0, 0)).2.2
def WSg : List Cond := lw_tbl.filter goodWord
def posOK (i : Nat) (w : Cond) : Bool := decide (lw_tbl[i]? = some w) && goodWord w
def FLt : List (Nat × Nat × Nat × Nat × Nat) := [(0, 9, 0, 0, 97), (0, 15, 0, 1, 100), (0, 18, 0, 2, 103), (0, 21, 0, 3, 107), (0, 24, 0, 4, 110), (1, 9, 1, 0, 249), (1, 15, 1, 1, 251), (1, 18, 1, 2, 253), (2, 9, 2, 0, 201), (2, 15, 2, 1, 203), (2, 18, 2, 2, 205), (2, 22, 2, 3, 206), (2, 25, 2, 4, 207), (2, 28, 2, 5, 208), (2, 31, 2, 6, 209), (2, 58, 5, 0, 146), (2, 81, 5, 1, 149), (2, 84, 5, 2, 152), (2, 87, 5, 6, 161), (3, 9, 3, 0, 231), (3, 15, 3, 1, 232), (3, 18, 0, 2, 104), (3, 24, 0, 4, 111), (4, 7, 4, 0, 131), (4, 13, 4, 1, 134), (4, 16, 4, 2, 136), (5, 9, 5, 0, 145), (5, 15, 5, 1, 148), (5, 18, 5, 2, 151), (5, 21, 5, 3, 154), (5, 24, 5, 4, 156), (5, 27, 5, 5, 158), (5, 30, 5, 6, 160), (5, 33, 5, 7, 163), (5, 39, 5, 8, 164), (5, 45, 5, 9, 165), (5, 50, 5, 10, 166), (5, 55, 5, 11, 167), (5, 92, 0, 3, 108), (5, 95, 0, 4, 112), (5, 98, 0, 2, 106), (5, 101, 4, 0, 133), (5, 110, 0, 0, 99), (5, 113, 0, 1, 101), (6, 10, 6, 0, 263), (6, 16, 6, 1, 264), (6, 19, 6, 2, 265), (6, 22, 6, 3, 266), (6, 28, 6, 4, 267), (6, 35, 6, 5, 268), (6, 39, 6, 6, 269), (6, 46, 6, 7, 270), (6, 50, 6, 8, 271), (6, 56, 6, 9, 272), (6, 63, 6, 10, 273), (6, 67, 6, 11, 274), (6, 70, 6, 12, 275), (6, 75, 6, 13, 276), (6, 78, 6, 14, 277), (6, 117, 1, 0, 250), (6, 125, 1, 2, 254), (6, 149, 0, 0, 98), (6, 155, 0, 2, 105), (6, 158, 5, 2, 153), (6, 165, 5, 0, 147), (6, 185, 4, 0, 132), (6, 188, 4, 1, 135), (6, 191, 4, 2, 137), (6, 200, 5, 1, 150), (6, 209, 2, 0, 202), (6, 220, 2, 1, 204), (6, 227, 0, 3, 109), (6, 258, 5, 6, 162), (6, 272, 1, 1, 252), (6, 273, 0, 1, 102), (6, 301, 5, 5, 159), (6, 304, 0, 4, 113), (6, 337, 5, 3, 155), (6, 343, 5, 4, 157), (7, 7, 7, 1, 937), (7, 13, 7, 2, 938), (7, 16, 7, 5, 941), (7, 19, 7, 6, 942), (7, 22, 7, 7, 943), (7, 25, 7, 8, 944), (7, 28, 7, 9, 945), (7, 31, 7, 11, 947), (7, 34, 7, 14, 950), (7, 37, 7, 19, 955), (7, 40, 7, 20, 956), (7, 43, 7, 21, 957), (7, 47, 7, 22, 958), (7, 50, 7, 24, 960), (7, 53, 7, 25, 961), (7, 56, 7, 26, 962), (7, 59, 7, 27, 963), (7, 62, 7, 28, 964), (7, 65, 7, 29, 965), (7, 68, 7, 32, 968), (7, 71, 7, 0, 936), (7, 75, 7, 12, 948), (7, 82, 7, 4, 940), (7, 85, 7, 10, 946), (7, 133, 7, 13, 949), (7, 136, 7, 16, 952), (7, 139, 7, 15, 951), (7, 142, 7, 17, 953), (7, 151, 7, 18, 954), (7, 262, 7, 30, 966), (7, 265, 7, 31, 967), (7, 281, 7, 3, 939), (7, 288, 7, 23, 959)]
set_option maxRecDepth 100000 in
theorem FLt_ok : FLt.all (fun e => decide (e.2.2.1 < 8) && decide (e.2.2.2.1 < NF e.2.2.1) && posOK e.2.2.2.2 (.fieldLink (cn e.1) e.2.1 (TT e.2.2.1 e.2.2.2.1).1 (TT e.2.2.1 e.2.2.2.1).2.1 (TT e.2.2.1 e.2.2.2.1).2.2.1)) = true := by decide +kernel
abbrev MIe : Type := MethodName × ByteArray × Nat × Option FieldType × Nat
/-- what the tables say of a method: its code word; and what a program decides -/
def miOK (e : MIe) : Prop := Cond.code e.1 e.2.1 e.2.2.1 e.2.2.2.1 ∈ WSg
theorem miOK_of {y : MethodName} {c : ByteArray} {n : Nat} {r : Option FieldType} {o : Nat} (i : Nat) (h : lw_tbl[i]? = some (.code y c n r)) : miOK (y, c, n, r, o) := List.mem_filter.mpr ⟨List.mem_of_getElem? h, rfl⟩
def MI0 : List MIe := [(yX0_init, cX0_init, 1, (Option.none : Option Jvm.ClassFile.FieldType), 0),
  (yX0_start, cX0_start, 5, (Option.none : Option Jvm.ClassFile.FieldType), 0),
  (yX0_become, cX0_become, 2, (Option.none : Option Jvm.ClassFile.FieldType), 0),
  (yX0_tellOf, cX0_tellOf, 2, (Option.some Jvm.ClassFile.FieldType.int), 0),
  (yX1_init, cX1_init, 1, (Option.none : Option Jvm.ClassFile.FieldType), 1),
  (yX1_isEmpty, cX1_isEmpty, 1, (Option.some Jvm.ClassFile.FieldType.boolean), 1),
  (yX1_isRow, cX1_isRow, 1, (Option.some Jvm.ClassFile.FieldType.boolean), 1),
  (yX1_isBottle, cX1_isBottle, 1, (Option.some Jvm.ClassFile.FieldType.boolean), 1),
  (yX1_whyNoRow, cX1_whyNoRow, 1, (Option.some Jvm.ClassFile.FieldType.int), 1),
  (yX1_hasPlace, cX1_hasPlace, 2, (Option.some Jvm.ClassFile.FieldType.boolean), 1),
  (yX1_hasSpan, cX1_hasSpan, 3, (Option.some Jvm.ClassFile.FieldType.boolean), 1),
  (yX1_startRow, cX1_startRow, 4, (Option.none : Option Jvm.ClassFile.FieldType), 1),
  (yX1_put, cX1_put, 4, (Option.none : Option Jvm.ClassFile.FieldType), 1),
  (yX1_take, cX1_take, 2, (Option.some Jvm.ClassFile.FieldType.long), 1),
  (yX1_narrowed, cX1_narrowed, 3, (Option.some Jvm.ClassFile.FieldType.long), 1),
  (yX2_init, cX2_init, 1, (Option.none : Option Jvm.ClassFile.FieldType), 2),
  (yX2_hasRoom, cX2_hasRoom, 1, (Option.some Jvm.ClassFile.FieldType.boolean), 2),
  (yX2_append, cX2_append, 2, (Option.some Jvm.ClassFile.FieldType.int), 2),
  (yX2_readInto, cX2_readInto, 4, (Option.some Jvm.ClassFile.FieldType.int), 2),
  (yX2_readStatement, cX2_readStatement, 6, (Option.some Jvm.ClassFile.FieldType.boolean), 2)]
set_option maxRecDepth 100000 in
theorem MI0_ok : ∀ e ∈ MI0, miOK e := List.forall_mem_cons.mpr ⟨miOK_of 95 rfl, List.forall_mem_cons.mpr ⟨miOK_of 617 rfl, List.forall_mem_cons.mpr ⟨miOK_of 499 rfl, List.forall_mem_cons.mpr ⟨miOK_of 627 rfl, List.forall_mem_cons.mpr ⟨miOK_of 247 rfl, List.forall_mem_cons.mpr ⟨miOK_of 406 rfl, List.forall_mem_cons.mpr ⟨miOK_of 341 rfl, List.forall_mem_cons.mpr ⟨miOK_of 349 rfl, List.forall_mem_cons.mpr ⟨miOK_of 345 rfl, List.forall_mem_cons.mpr ⟨miOK_of 353 rfl, List.forall_mem_cons.mpr ⟨miOK_of 372 rfl, List.forall_mem_cons.mpr ⟨miOK_of 327 rfl, List.forall_mem_cons.mpr ⟨miOK_of 357 rfl, List.forall_mem_cons.mpr ⟨miOK_of 383 rfl, List.forall_mem_cons.mpr ⟨miOK_of 363 rfl, List.forall_mem_cons.mpr ⟨miOK_of 199 rfl, List.forall_mem_cons.mpr ⟨miOK_of 478 rfl, List.forall_mem_cons.mpr ⟨miOK_of 482 rfl, List.forall_mem_cons.mpr ⟨miOK_of 508 rfl, List.forall_mem_cons.mpr ⟨miOK_of 512 rfl, fun _ h => absurd h List.not_mem_nil⟩⟩⟩⟩⟩⟩⟩⟩⟩⟩⟩⟩⟩⟩⟩⟩⟩⟩⟩⟩
def MI1 : List MIe := [(yX2_perform, cX2_perform, 3, (Option.none : Option Jvm.ClassFile.FieldType), 2),
  (yX2_numbersOf, cX2_numbersOf, 1, (Option.some Jvm.ClassFile.FieldType.int), 2),
  (yX2_mostOf, cX2_mostOf, 3, (Option.some Jvm.ClassFile.FieldType.int), 2),
  (yX2_wordNumber, cX2_wordNumber, 1, (Option.some Jvm.ClassFile.FieldType.int), 2),
  (yX2_spells, cX2_spells, 3, (Option.some Jvm.ClassFile.FieldType.boolean), 2),
  (yX2_byteAt, cX2_byteAt, 2, (Option.some Jvm.ClassFile.FieldType.int), 2),
  (yX2_isLetter, cX2_isLetter, 1, (Option.some Jvm.ClassFile.FieldType.boolean), 2),
  (yX2_isDigit, cX2_isDigit, 1, (Option.some Jvm.ClassFile.FieldType.boolean), 2),
  (yX2_scan, cX2_scan, 2, (Option.none : Option Jvm.ClassFile.FieldType), 2),
  (yX2_scanNumber, cX2_scanNumber, 1, (Option.none : Option Jvm.ClassFile.FieldType), 2),
  (yX3_init, cX3_init, 1, (Option.none : Option Jvm.ClassFile.FieldType), 3),
  (yX3_mark, cX3_mark, 3, (Option.none : Option Jvm.ClassFile.FieldType), 3),
  (yX3_cellAt, cX3_cellAt, 2, (Option.some Jvm.ClassFile.FieldType.int), 3),
  (yX3_howAt, cX3_howAt, 2, (Option.some Jvm.ClassFile.FieldType.int), 3),
  (yX3_cellsVisited, cX3_cellsVisited, 4, (Option.some Jvm.ClassFile.FieldType.int), 3),
  (yX4_init, cX4_init, 1, (Option.none : Option Jvm.ClassFile.FieldType), 4),
  (yX4_start, cX4_start, 4, (Option.none : Option Jvm.ClassFile.FieldType), 4),
  (yX4_become, cX4_become, 2, (Option.none : Option Jvm.ClassFile.FieldType), 4),
  (yX4_tellOf, cX4_tellOf, 2, (Option.some Jvm.ClassFile.FieldType.int), 4),
  (yX4_stroll, cX4_stroll, 3, (Option.none : Option Jvm.ClassFile.FieldType), 4)]
set_option maxRecDepth 100000 in
theorem MI1_ok : ∀ e ∈ MI1, miOK e := List.forall_mem_cons.mpr ⟨miOK_of 607 rfl, List.forall_mem_cons.mpr ⟨miOK_of 600 rfl, List.forall_mem_cons.mpr ⟨miOK_of 603 rfl, List.forall_mem_cons.mpr ⟨miOK_of 534 rfl, List.forall_mem_cons.mpr ⟨miOK_of 539 rfl, List.forall_mem_cons.mpr ⟨miOK_of 520 rfl, List.forall_mem_cons.mpr ⟨miOK_of 523 rfl, List.forall_mem_cons.mpr ⟨miOK_of 526 rfl, List.forall_mem_cons.mpr ⟨miOK_of 516 rfl, List.forall_mem_cons.mpr ⟨miOK_of 530 rfl, List.forall_mem_cons.mpr ⟨miOK_of 229 rfl, List.forall_mem_cons.mpr ⟨miOK_of 654 rfl, List.forall_mem_cons.mpr ⟨miOK_of 677 rfl, List.forall_mem_cons.mpr ⟨miOK_of 681 rfl, List.forall_mem_cons.mpr ⟨miOK_of 785 rfl, List.forall_mem_cons.mpr ⟨miOK_of 129 rfl, List.forall_mem_cons.mpr ⟨miOK_of 448 rfl, List.forall_mem_cons.mpr ⟨miOK_of 503 rfl, List.forall_mem_cons.mpr ⟨miOK_of 457 rfl, List.forall_mem_cons.mpr ⟨miOK_of 658 rfl, fun _ h => absurd h List.not_mem_nil⟩⟩⟩⟩⟩⟩⟩⟩⟩⟩⟩⟩⟩⟩⟩⟩⟩⟩⟩⟩
def MI2 : List MIe := [(yX5_init, cX5_init, 2, (Option.none : Option Jvm.ClassFile.FieldType), 5),
  (yX5_become, cX5_become, 5, (Option.none : Option Jvm.ClassFile.FieldType), 5),
  (yX5_bottleAt, cX5_bottleAt, 2, (Option.some (Jvm.ClassFile.FieldType.object "AddressedToYou$Bottle")), 5),
  (yX5_walkerAt, cX5_walkerAt, 2, (Option.some (Jvm.ClassFile.FieldType.object "AddressedToYou$Walker")), 5),
  (yX5_hasCell, cX5_hasCell, 2, (Option.some Jvm.ClassFile.FieldType.boolean), 5),
  (yX5_hasRoomForBottle, cX5_hasRoomForBottle, 1, (Option.some Jvm.ClassFile.FieldType.boolean), 5),
  (yX5_hasRoomForWalker, cX5_hasRoomForWalker, 1, (Option.some Jvm.ClassFile.FieldType.boolean), 5),
  (yX5_flow, cX5_flow, 2, (Option.some Jvm.ClassFile.FieldType.int), 5),
  (yX5_setFlow, cX5_setFlow, 3, (Option.none : Option Jvm.ClassFile.FieldType), 5),
  (yX5_addBottle, cX5_addBottle, 7, (Option.some Jvm.ClassFile.FieldType.int), 5),
  (yX5_addWalker, cX5_addWalker, 6, (Option.some Jvm.ClassFile.FieldType.int), 5),
  (yX5_addressedTo, cX5_addressedTo, 5, (Option.some Jvm.ClassFile.FieldType.int), 5),
  (yX5_afloatIn, cX5_afloatIn, 5, (Option.some Jvm.ClassFile.FieldType.int), 5),
  (yX5_walkersAt, cX5_walkersAt, 5, (Option.some Jvm.ClassFile.FieldType.int), 5),
  (yX5_dayBehind, cX5_dayBehind, 2, (Option.some Jvm.ClassFile.FieldType.int), 5),
  (yX5_push, cX5_push, 5, (Option.some Jvm.ClassFile.FieldType.int), 5),
  (yX5_spend, cX5_spend, 5, (Option.none : Option Jvm.ClassFile.FieldType), 5),
  (yX5_follow, cX5_follow, 6, (Option.none : Option Jvm.ClassFile.FieldType), 5),
  (yX5_soonest, cX5_soonest, 5, (Option.some Jvm.ClassFile.FieldType.int), 5),
  (yX5_daysTillFound, cX5_daysTillFound, 2, (Option.some Jvm.ClassFile.FieldType.int), 5)]
set_option maxRecDepth 100000 in
theorem MI2_ok : ∀ e ∈ MI2, miOK e := List.forall_mem_cons.mpr ⟨miOK_of 86 rfl, List.forall_mem_cons.mpr ⟨miOK_of 494 rfl, List.forall_mem_cons.mpr ⟨miOK_of 395 rfl, List.forall_mem_cons.mpr ⟨miOK_of 444 rfl, List.forall_mem_cons.mpr ⟨miOK_of 431 rfl, List.forall_mem_cons.mpr ⟨miOK_of 597 rfl, List.forall_mem_cons.mpr ⟨miOK_of 435 rfl, List.forall_mem_cons.mpr ⟨miOK_of 419 rfl, List.forall_mem_cons.mpr ⟨miOK_of 466 rfl, List.forall_mem_cons.mpr ⟨miOK_of 612 rfl, List.forall_mem_cons.mpr ⟨miOK_of 439 rfl, List.forall_mem_cons.mpr ⟨miOK_of 638 rfl, List.forall_mem_cons.mpr ⟨miOK_of 816 rfl, List.forall_mem_cons.mpr ⟨miOK_of 820 rfl, List.forall_mem_cons.mpr ⟨miOK_of 662 rfl, List.forall_mem_cons.mpr ⟨miOK_of 415 rfl, List.forall_mem_cons.mpr ⟨miOK_of 667 rfl, List.forall_mem_cons.mpr ⟨miOK_of 650 rfl, List.forall_mem_cons.mpr ⟨miOK_of 699 rfl, List.forall_mem_cons.mpr ⟨miOK_of 707 rfl, fun _ h => absurd h List.not_mem_nil⟩⟩⟩⟩⟩⟩⟩⟩⟩⟩⟩⟩⟩⟩⟩⟩⟩⟩⟩⟩
def MI3 : List MIe := [(yX5_countFound, cX5_countFound, 5, (Option.some Jvm.ClassFile.FieldType.int), 5),
  (yX5_passDay, cX5_passDay, 5, (Option.some Jvm.ClassFile.FieldType.int), 5),
  (yX5_passDrawnDay, cX5_passDrawnDay, 3, (Option.some Jvm.ClassFile.FieldType.int), 5),
  (yX5_draw, cX5_draw, 2, (Option.some Jvm.ClassFile.FieldType.int), 5),
  (yX6_init, cX6_init, 2, (Option.none : Option Jvm.ClassFile.FieldType), 6),
  (yX6_row, cX6_row, 5, (Option.some Jvm.ClassFile.FieldType.int), 6),
  (yX6_set, cX6_set, 6, (Option.some Jvm.ClassFile.FieldType.int), 6),
  (yX6_copy, cX6_copy, 9, (Option.some Jvm.ClassFile.FieldType.int), 6),
  (yX6_element, cX6_element, 4, (Option.some Jvm.ClassFile.FieldType.long), 6),
  (yX6_holds, cX6_holds, 3, (Option.some Jvm.ClassFile.FieldType.int), 6),
  (yX6_show, cX6_show, 5, (Option.some Jvm.ClassFile.FieldType.int), 6),
  (yX6_says, cX6_says, 5, (Option.some Jvm.ClassFile.FieldType.int), 6),
  (yX6_paves, cX6_paves, 3, (Option.some Jvm.ClassFile.FieldType.int), 6),
  (yX6_walker, cX6_walker, 4, (Option.some Jvm.ClassFile.FieldType.int), 6),
  (yX6_sends, cX6_sends, 7, (Option.some Jvm.ClassFile.FieldType.int), 6),
  (yX6_current, cX6_current, 4, (Option.some Jvm.ClassFile.FieldType.int), 6),
  (yX6_tell, cX6_tell, 4, (Option.some Jvm.ClassFile.FieldType.int), 6),
  (yX6_feed, cX6_feed, 2, (Option.some Jvm.ClassFile.FieldType.int), 6),
  (yX6_wipe, cX6_wipe, 2, (Option.some Jvm.ClassFile.FieldType.int), 6),
  (yX6_coast, cX6_coast, 2, (Option.some Jvm.ClassFile.FieldType.int), 6)]
set_option maxRecDepth 100000 in
theorem MI3_ok : ∀ e ∈ MI3, miOK e := List.forall_mem_cons.mpr ⟨miOK_of 695 rfl, List.forall_mem_cons.mpr ⟨miOK_of 887 rfl, List.forall_mem_cons.mpr ⟨miOK_of 895 rfl, List.forall_mem_cons.mpr ⟨miOK_of 899 rfl, List.forall_mem_cons.mpr ⟨miOK_of 78 rfl, List.forall_mem_cons.mpr ⟨miOK_of 312 rfl, List.forall_mem_cons.mpr ⟨miOK_of 337 rfl, List.forall_mem_cons.mpr ⟨miOK_of 367 rfl, List.forall_mem_cons.mpr ⟨miOK_of 379 rfl, List.forall_mem_cons.mpr ⟨miOK_of 387 rfl, List.forall_mem_cons.mpr ⟨miOK_of 391 rfl, List.forall_mem_cons.mpr ⟨miOK_of 399 rfl, List.forall_mem_cons.mpr ⟨miOK_of 423 rfl, List.forall_mem_cons.mpr ⟨miOK_of 427 rfl, List.forall_mem_cons.mpr ⟨miOK_of 452 rfl, List.forall_mem_cons.mpr ⟨miOK_of 461 rfl, List.forall_mem_cons.mpr ⟨miOK_of 470 rfl, List.forall_mem_cons.mpr ⟨miOK_of 474 rfl, List.forall_mem_cons.mpr ⟨miOK_of 486 rfl, List.forall_mem_cons.mpr ⟨miOK_of 490 rfl, fun _ h => absurd h List.not_mem_nil⟩⟩⟩⟩⟩⟩⟩⟩⟩⟩⟩⟩⟩⟩⟩⟩⟩⟩⟩⟩
def MI4 : List MIe := [(yX6_bottleOf, cX6_bottleOf, 4, (Option.some Jvm.ClassFile.FieldType.int), 6),
  (yX6_walkerOf, cX6_walkerOf, 4, (Option.some Jvm.ClassFile.FieldType.int), 6),
  (yX6_currentAt, cX6_currentAt, 2, (Option.some Jvm.ClassFile.FieldType.int), 6),
  (yX6_ahead, cX6_ahead, 5, (Option.some Jvm.ClassFile.FieldType.int), 6),
  (yX6_walks, cX6_walks, 5, (Option.some Jvm.ClassFile.FieldType.int), 6),
  (yX6_found, cX6_found, 2, (Option.some Jvm.ClassFile.FieldType.int), 6),
  (yX6_when, cX6_when, 3, (Option.some Jvm.ClassFile.FieldType.int), 6),
  (yX6_meets, cX6_meets, 5, (Option.some Jvm.ClassFile.FieldType.int), 6),
  (yX6_finder, cX6_finder, 7, (Option.some Jvm.ClassFile.FieldType.int), 6),
  (yX6_two, cX6_two, 6, (Option.some Jvm.ClassFile.FieldType.int), 6),
  (yX6_aim, cX6_aim, 10, (Option.some Jvm.ClassFile.FieldType.int), 6),
  (yX6_walk, cX6_walk, 9, (Option.some Jvm.ClassFile.FieldType.int), 6),
  (yX6_fits, cX6_fits, 10, (Option.some Jvm.ClassFile.FieldType.int), 6),
  (yX6_from, cX6_from, 7, (Option.some Jvm.ClassFile.FieldType.int), 6),
  (yX6_pairs, cX6_pairs, 6, (Option.some Jvm.ClassFile.FieldType.int), 6),
  (yX6_mended, cX6_mended, 13, (Option.some Jvm.ClassFile.FieldType.int), 6),
  (yX6_odds, cX6_odds, 9, (Option.some Jvm.ClassFile.FieldType.int), 6),
  (yX6_windFor, cX6_windFor, 7, (Option.some Jvm.ClassFile.FieldType.int), 6),
  (yX6_bestWind, cX6_bestWind, 7, (Option.some Jvm.ClassFile.FieldType.int), 6),
  (yX6_who, cX6_who, 6, (Option.some Jvm.ClassFile.FieldType.int), 6)]
set_option maxRecDepth 100000 in
theorem MI4_ok : ∀ e ∈ MI4, miOK e := List.forall_mem_cons.mpr ⟨miOK_of 623 rfl, List.forall_mem_cons.mpr ⟨miOK_of 634 rfl, List.forall_mem_cons.mpr ⟨miOK_of 642 rfl, List.forall_mem_cons.mpr ⟨miOK_of 646 rfl, List.forall_mem_cons.mpr ⟨miOK_of 685 rfl, List.forall_mem_cons.mpr ⟨miOK_of 691 rfl, List.forall_mem_cons.mpr ⟨miOK_of 703 rfl, List.forall_mem_cons.mpr ⟨miOK_of 711 rfl, List.forall_mem_cons.mpr ⟨miOK_of 719 rfl, List.forall_mem_cons.mpr ⟨miOK_of 723 rfl, List.forall_mem_cons.mpr ⟨miOK_of 727 rfl, List.forall_mem_cons.mpr ⟨miOK_of 733 rfl, List.forall_mem_cons.mpr ⟨miOK_of 742 rfl, List.forall_mem_cons.mpr ⟨miOK_of 752 rfl, List.forall_mem_cons.mpr ⟨miOK_of 756 rfl, List.forall_mem_cons.mpr ⟨miOK_of 781 rfl, List.forall_mem_cons.mpr ⟨miOK_of 790 rfl, List.forall_mem_cons.mpr ⟨miOK_of 800 rfl, List.forall_mem_cons.mpr ⟨miOK_of 804 rfl, List.forall_mem_cons.mpr ⟨miOK_of 808 rfl, fun _ h => absurd h List.not_mem_nil⟩⟩⟩⟩⟩⟩⟩⟩⟩⟩⟩⟩⟩⟩⟩⟩⟩⟩⟩⟩
def MI5 : List MIe := [(yX6_there, cX6_there, 3, (Option.some Jvm.ClassFile.FieldType.int), 6),
  (yX6_settles, cX6_settles, 6, (Option.some Jvm.ClassFile.FieldType.int), 6),
  (yX6_reach, cX6_reach, 7, (Option.some Jvm.ClassFile.FieldType.int), 6),
  (yX6_busiest, cX6_busiest, 7, (Option.some Jvm.ClassFile.FieldType.int), 6),
  (yX6_round, cX6_round, 4, (Option.some Jvm.ClassFile.FieldType.int), 6),
  (yX6_join, cX6_join, 7, (Option.some Jvm.ClassFile.FieldType.int), 6),
  (yX6_breaks, cX6_breaks, 4, (Option.some Jvm.ClassFile.FieldType.int), 6),
  (yX6_first, cX6_first, 7, (Option.some Jvm.ClassFile.FieldType.int), 6),
  (yX6_next, cX6_next, 4, (Option.some Jvm.ClassFile.FieldType.int), 6),
  (yX6_stays, cX6_stays, 5, (Option.some Jvm.ClassFile.FieldType.int), 6),
  (yX6_strays, cX6_strays, 4, (Option.some Jvm.ClassFile.FieldType.int), 6),
  (yX6_ofKind, cX6_ofKind, 5, (Option.some Jvm.ClassFile.FieldType.int), 6),
  (yX6_judge, cX6_judge, 7, (Option.some Jvm.ClassFile.FieldType.int), 6),
  (yX6_thrown, cX6_thrown, 6, (Option.some Jvm.ClassFile.FieldType.int), 6),
  (yX6_days, cX6_days, 3, (Option.some Jvm.ClassFile.FieldType.int), 6),
  (yX6_drawn, cX6_drawn, 4, (Option.some Jvm.ClassFile.FieldType.int), 6),
  (yX6_seed, cX6_seed, 3, (Option.some Jvm.ClassFile.FieldType.int), 6),
  (yX6_image, cX6_image, 1, (Option.some Jvm.ClassFile.FieldType.int), 6),
  (yX6_back, cX6_back, 3, (Option.some Jvm.ClassFile.FieldType.int), 6),
  (yX6_status, cX6_status, 2, (Option.some Jvm.ClassFile.FieldType.int), 6)]
set_option maxRecDepth 100000 in
theorem MI5_ok : ∀ e ∈ MI5, miOK e := List.forall_mem_cons.mpr ⟨miOK_of 812 rfl, List.forall_mem_cons.mpr ⟨miOK_of 824 rfl, List.forall_mem_cons.mpr ⟨miOK_of 828 rfl, List.forall_mem_cons.mpr ⟨miOK_of 833 rfl, List.forall_mem_cons.mpr ⟨miOK_of 841 rfl, List.forall_mem_cons.mpr ⟨miOK_of 845 rfl, List.forall_mem_cons.mpr ⟨miOK_of 849 rfl, List.forall_mem_cons.mpr ⟨miOK_of 853 rfl, List.forall_mem_cons.mpr ⟨miOK_of 857 rfl, List.forall_mem_cons.mpr ⟨miOK_of 861 rfl, List.forall_mem_cons.mpr ⟨miOK_of 865 rfl, List.forall_mem_cons.mpr ⟨miOK_of 869 rfl, List.forall_mem_cons.mpr ⟨miOK_of 873 rfl, List.forall_mem_cons.mpr ⟨miOK_of 877 rfl, List.forall_mem_cons.mpr ⟨miOK_of 883 rfl, List.forall_mem_cons.mpr ⟨miOK_of 891 rfl, List.forall_mem_cons.mpr ⟨miOK_of 905 rfl, List.forall_mem_cons.mpr ⟨miOK_of 909 rfl, List.forall_mem_cons.mpr ⟨miOK_of 913 rfl, List.forall_mem_cons.mpr ⟨miOK_of 917 rfl, fun _ h => absurd h List.not_mem_nil⟩⟩⟩⟩⟩⟩⟩⟩⟩⟩⟩⟩⟩⟩⟩⟩⟩⟩⟩⟩
def MI6 : List MIe := [(yX6_within, cX6_within, 3, (Option.some Jvm.ClassFile.FieldType.boolean), 6),
  (yX6_isKind, cX6_isKind, 1, (Option.some Jvm.ClassFile.FieldType.boolean), 6),
  (yX6_isOrIsUnder, cX6_isOrIsUnder, 4, (Option.some Jvm.ClassFile.FieldType.boolean), 6),
  (yX6_toughnessOf, cX6_toughnessOf, 2, (Option.some Jvm.ClassFile.FieldType.int), 6),
  (yX6_refuse, cX6_refuse, 3, (Option.some Jvm.ClassFile.FieldType.int), 6),
  (yX6_shelfAt, cX6_shelfAt, 2, (Option.some (Jvm.ClassFile.FieldType.object "AddressedToYou$Shelf")), 6),
  (yX6_shelvesInUse, cX6_shelvesInUse, 3, (Option.some Jvm.ClassFile.FieldType.int), 6),
  (yX6_firstMeeting, cX6_firstMeeting, 4, (Option.some Jvm.ClassFile.FieldType.int), 6),
  (yX6_foundWalking, cX6_foundWalking, 9, (Option.some Jvm.ClassFile.FieldType.int), 6),
  (yX6_driftsAlong, cX6_driftsAlong, 8, (Option.some Jvm.ClassFile.FieldType.boolean), 6),
  (yX6_endsBy, cX6_endsBy, 7, (Option.some Jvm.ClassFile.FieldType.int), 6),
  (yX6_fillVisited, cX6_fillVisited, 3, (Option.none : Option Jvm.ClassFile.FieldType), 6),
  (yX6_fillMeetings, cX6_fillMeetings, 5, (Option.none : Option Jvm.ClassFile.FieldType), 6),
  (yX6_fillBestPairs, cX6_fillBestPairs, 5, (Option.none : Option Jvm.ClassFile.FieldType), 6),
  (yX6_bestFrom, cX6_bestFrom, 3, (Option.some Jvm.ClassFile.FieldType.int), 6),
  (yX6_pairingScore, cX6_pairingScore, 5, (Option.some Jvm.ClassFile.FieldType.int), 6),
  (yX6_partnerOf, cX6_partnerOf, 6, (Option.some Jvm.ClassFile.FieldType.int), 6),
  (yX7_init, cX7_init, 2, (Option.none : Option Jvm.ClassFile.FieldType), 7),
  (yX7_no, cX7_no, 2, (Option.some Jvm.ClassFile.FieldType.int), 7),
  (yX7_within, cX7_within, 3, (Option.some Jvm.ClassFile.FieldType.boolean), 7)]
set_option maxRecDepth 100000 in
theorem MI6_ok : ∀ e ∈ MI6, miOK e := List.forall_mem_cons.mpr ⟨miOK_of 319 rfl, List.forall_mem_cons.mpr ⟨miOK_of 402 rfl, List.forall_mem_cons.mpr ⟨miOK_of 409 rfl, List.forall_mem_cons.mpr ⟨miOK_of 630 rfl, List.forall_mem_cons.mpr ⟨miOK_of 323 rfl, List.forall_mem_cons.mpr ⟨miOK_of 316 rfl, List.forall_mem_cons.mpr ⟨miOK_of 928 rfl, List.forall_mem_cons.mpr ⟨miOK_of 715 rfl, List.forall_mem_cons.mpr ⟨miOK_of 737 rfl, List.forall_mem_cons.mpr ⟨miOK_of 746 rfl, List.forall_mem_cons.mpr ⟨miOK_of 794 rfl, List.forall_mem_cons.mpr ⟨miOK_of 837 rfl, List.forall_mem_cons.mpr ⟨miOK_of 760 rfl, List.forall_mem_cons.mpr ⟨miOK_of 764 rfl, List.forall_mem_cons.mpr ⟨miOK_of 768 rfl, List.forall_mem_cons.mpr ⟨miOK_of 772 rfl, List.forall_mem_cons.mpr ⟨miOK_of 777 rfl, List.forall_mem_cons.mpr ⟨miOK_of 934 rfl, List.forall_mem_cons.mpr ⟨miOK_of 1049 rfl, List.forall_mem_cons.mpr ⟨miOK_of 1045 rfl, fun _ h => absurd h List.not_mem_nil⟩⟩⟩⟩⟩⟩⟩⟩⟩⟩⟩⟩⟩⟩⟩⟩⟩⟩⟩⟩
def MI7 : List MIe := [(yX7_isCell, cX7_isCell, 2, (Option.some Jvm.ClassFile.FieldType.boolean), 7),
  (yX7_isBottle, cX7_isBottle, 2, (Option.some Jvm.ClassFile.FieldType.boolean), 7),
  (yX7_isWalker, cX7_isWalker, 2, (Option.some Jvm.ClassFile.FieldType.boolean), 7),
  (yX7_isSuch, cX7_isSuch, 2, (Option.some Jvm.ClassFile.FieldType.boolean), 7),
  (yX7_isTime, cX7_isTime, 1, (Option.some Jvm.ClassFile.FieldType.boolean), 7),
  (yX7_isShelf, cX7_isShelf, 1, (Option.some Jvm.ClassFile.FieldType.boolean), 7),
  (yX7_isRow, cX7_isRow, 2, (Option.some Jvm.ClassFile.FieldType.boolean), 7),
  (yX7_row, cX7_row, 5, (Option.some Jvm.ClassFile.FieldType.int), 7),
  (yX7_noRow, cX7_noRow, 2, (Option.some Jvm.ClassFile.FieldType.int), 7),
  (yX7_kept, cX7_kept, 3, (Option.some Jvm.ClassFile.FieldType.long), 7),
  (yX7_set, cX7_set, 5, (Option.some Jvm.ClassFile.FieldType.int), 7),
  (yX7_copy, cX7_copy, 7, (Option.some Jvm.ClassFile.FieldType.int), 7),
  (yX7_element, cX7_element, 3, (Option.some Jvm.ClassFile.FieldType.long), 7),
  (yX7_holds, cX7_holds, 2, (Option.some Jvm.ClassFile.FieldType.int), 7),
  (yX7_show, cX7_show, 3, (Option.some Jvm.ClassFile.FieldType.int), 7),
  (yX7_isUnder, cX7_isUnder, 2, (Option.some Jvm.ClassFile.FieldType.boolean), 7),
  (yX7_says, cX7_says, 4, (Option.some Jvm.ClassFile.FieldType.int), 7),
  (yX7_paves, cX7_paves, 3, (Option.some Jvm.ClassFile.FieldType.int), 7),
  (yX7_newWalker, cX7_newWalker, 4, (Option.some Jvm.ClassFile.FieldType.int), 7),
  (yX7_walker, cX7_walker, 4, (Option.some Jvm.ClassFile.FieldType.int), 7)]
set_option maxRecDepth 100000 in
theorem MI7_ok : ∀ e ∈ MI7, miOK e := List.forall_mem_cons.mpr ⟨miOK_of 1107 rfl, List.forall_mem_cons.mpr ⟨miOK_of 1084 rfl, List.forall_mem_cons.mpr ⟨miOK_of 1119 rfl, List.forall_mem_cons.mpr ⟨miOK_of 1134 rfl, List.forall_mem_cons.mpr ⟨miOK_of 1227 rfl, List.forall_mem_cons.mpr ⟨miOK_of 1042 rfl, List.forall_mem_cons.mpr ⟨miOK_of 1057 rfl, List.forall_mem_cons.mpr ⟨miOK_of 1039 rfl, List.forall_mem_cons.mpr ⟨miOK_of 1061 rfl, List.forall_mem_cons.mpr ⟨miOK_of 1064 rfl, List.forall_mem_cons.mpr ⟨miOK_of 1053 rfl, List.forall_mem_cons.mpr ⟨miOK_of 1068 rfl, List.forall_mem_cons.mpr ⟨miOK_of 1072 rfl, List.forall_mem_cons.mpr ⟨miOK_of 1076 rfl, List.forall_mem_cons.mpr ⟨miOK_of 1080 rfl, List.forall_mem_cons.mpr ⟨miOK_of 1091 rfl, List.forall_mem_cons.mpr ⟨miOK_of 1088 rfl, List.forall_mem_cons.mpr ⟨miOK_of 1099 rfl, List.forall_mem_cons.mpr ⟨miOK_of 1111 rfl, List.forall_mem_cons.mpr ⟨miOK_of 1103 rfl, fun _ h => absurd h List.not_mem_nil⟩⟩⟩⟩⟩⟩⟩⟩⟩⟩⟩⟩⟩⟩⟩⟩⟩⟩⟩⟩
def MI8 : List MIe := [(yX7_sends, cX7_sends, 5, (Option.some Jvm.ClassFile.FieldType.int), 7),
  (yX7_current, cX7_current, 4, (Option.some Jvm.ClassFile.FieldType.int), 7),
  (yX7_tell, cX7_tell, 4, (Option.some Jvm.ClassFile.FieldType.int), 7),
  (yX7_becomes, cX7_becomes, 6, (Option.none : Option Jvm.ClassFile.FieldType), 7),
  (yX7_thrown, cX7_thrown, 5, (Option.some Jvm.ClassFile.FieldType.int), 7),
  (yX7_feed, cX7_feed, 2, (Option.some Jvm.ClassFile.FieldType.int), 7),
  (yX7_wipe, cX7_wipe, 2, (Option.some Jvm.ClassFile.FieldType.int), 7),
  (yX7_isLetter, cX7_isLetter, 1, (Option.some Jvm.ClassFile.FieldType.boolean), 7),
  (yX7_isDigit, cX7_isDigit, 1, (Option.some Jvm.ClassFile.FieldType.boolean), 7),
  (yX7_next, cX7_next, 2, (Option.none : Option Jvm.ClassFile.FieldType), 7),
  (yX7_isWord, cX7_isWord, 3, (Option.some Jvm.ClassFile.FieldType.boolean), 7),
  (yX7_number, cX7_number, 3, (Option.some Jvm.ClassFile.FieldType.int), 7),
  (yX7_cellTold, cX7_cellTold, 1, (Option.some Jvm.ClassFile.FieldType.int), 7),
  (yX7_comesOne, cX7_comesOne, 4, (Option.some Jvm.ClassFile.FieldType.boolean), 7),
  (yX7_floats, cX7_floats, 5, (Option.some Jvm.ClassFile.FieldType.boolean), 7),
  (yX7_statement, cX7_statement, 3, (Option.some Jvm.ClassFile.FieldType.boolean), 7),
  (yX7_coast, cX7_coast, 3, (Option.some Jvm.ClassFile.FieldType.int), 7),
  (yX7_tough, cX7_tough, 2, (Option.some Jvm.ClassFile.FieldType.int), 7),
  (yX7_bottleOf, cX7_bottleOf, 3, (Option.some Jvm.ClassFile.FieldType.int), 7),
  (yX7_forHim, cX7_forHim, 4, (Option.some Jvm.ClassFile.FieldType.int), 7)]
set_option maxRecDepth 100000 in
theorem MI8_ok : ∀ e ∈ MI8, miOK e := List.forall_mem_cons.mpr ⟨miOK_of 1115 rfl, List.forall_mem_cons.mpr ⟨miOK_of 1123 rfl, List.forall_mem_cons.mpr ⟨miOK_of 1127 rfl, List.forall_mem_cons.mpr ⟨miOK_of 1138 rfl, List.forall_mem_cons.mpr ⟨miOK_of 1131 rfl, List.forall_mem_cons.mpr ⟨miOK_of 1142 rfl, List.forall_mem_cons.mpr ⟨miOK_of 1146 rfl, List.forall_mem_cons.mpr ⟨miOK_of 1161 rfl, List.forall_mem_cons.mpr ⟨miOK_of 1164 rfl, List.forall_mem_cons.mpr ⟨miOK_of 1158 rfl, List.forall_mem_cons.mpr ⟨miOK_of 1173 rfl, List.forall_mem_cons.mpr ⟨miOK_of 1187 rfl, List.forall_mem_cons.mpr ⟨miOK_of 1183 rfl, List.forall_mem_cons.mpr ⟨miOK_of 1179 rfl, List.forall_mem_cons.mpr ⟨miOK_of 1192 rfl, List.forall_mem_cons.mpr ⟨miOK_of 1168 rfl, List.forall_mem_cons.mpr ⟨miOK_of 1150 rfl, List.forall_mem_cons.mpr ⟨miOK_of 1208 rfl, List.forall_mem_cons.mpr ⟨miOK_of 1204 rfl, List.forall_mem_cons.mpr ⟨miOK_of 1216 rfl, fun _ h => absurd h List.not_mem_nil⟩⟩⟩⟩⟩⟩⟩⟩⟩⟩⟩⟩⟩⟩⟩⟩⟩⟩⟩⟩
def MI9 : List MIe := [(yX7_walkerOf, cX7_walkerOf, 3, (Option.some Jvm.ClassFile.FieldType.int), 7),
  (yX7_currentAt, cX7_currentAt, 2, (Option.some Jvm.ClassFile.FieldType.int), 7),
  (yX7_drift, cX7_drift, 4, (Option.some Jvm.ClassFile.FieldType.int), 7),
  (yX7_drifts, cX7_drifts, 3, (Option.none : Option Jvm.ClassFile.FieldType), 7),
  (yX7_steps, cX7_steps, 4, (Option.none : Option Jvm.ClassFile.FieldType), 7),
  (yX7_passes, cX7_passes, 4, (Option.some Jvm.ClassFile.FieldType.int), 7),
  (yX7_goesOn, cX7_goesOn, 4, (Option.some Jvm.ClassFile.FieldType.int), 7),
  (yX7_ahead, cX7_ahead, 5, (Option.some Jvm.ClassFile.FieldType.int), 7),
  (yX7_walks, cX7_walks, 4, (Option.some Jvm.ClassFile.FieldType.int), 7),
  (yX7_found, cX7_found, 3, (Option.some Jvm.ClassFile.FieldType.int), 7),
  (yX7_whenSo, cX7_whenSo, 6, (Option.some Jvm.ClassFile.FieldType.int), 7),
  (yX7_when, cX7_when, 2, (Option.some Jvm.ClassFile.FieldType.int), 7),
  (yX7_breaks, cX7_breaks, 2, (Option.some Jvm.ClassFile.FieldType.int), 7),
  (yX7_meet, cX7_meet, 5, (Option.some Jvm.ClassFile.FieldType.int), 7),
  (yX7_meets, cX7_meets, 3, (Option.some Jvm.ClassFile.FieldType.int), 7),
  (yX7_finder, cX7_finder, 5, (Option.some Jvm.ClassFile.FieldType.int), 7),
  (yX7_two, cX7_two, 5, (Option.some Jvm.ClassFile.FieldType.int), 7),
  (yX7_whenThrown, cX7_whenThrown, 5, (Option.some Jvm.ClassFile.FieldType.int), 7),
  (yX7_aim, cX7_aim, 9, (Option.some Jvm.ClassFile.FieldType.int), 7),
  (yX7_foundFor, cX7_foundFor, 6, (Option.some Jvm.ClassFile.FieldType.int), 7)]
set_option maxRecDepth 100000 in
theorem MI9_ok : ∀ e ∈ MI9, miOK e := List.forall_mem_cons.mpr ⟨miOK_of 1212 rfl, List.forall_mem_cons.mpr ⟨miOK_of 1220 rfl, List.forall_mem_cons.mpr ⟨miOK_of 1095 rfl, List.forall_mem_cons.mpr ⟨miOK_of 1239 rfl, List.forall_mem_cons.mpr ⟨miOK_of 1246 rfl, List.forall_mem_cons.mpr ⟨miOK_of 1235 rfl, List.forall_mem_cons.mpr ⟨miOK_of 1231 rfl, List.forall_mem_cons.mpr ⟨miOK_of 1224 rfl, List.forall_mem_cons.mpr ⟨miOK_of 1250 rfl, List.forall_mem_cons.mpr ⟨miOK_of 1254 rfl, List.forall_mem_cons.mpr ⟨miOK_of 1262 rfl, List.forall_mem_cons.mpr ⟨miOK_of 1258 rfl, List.forall_mem_cons.mpr ⟨miOK_of 1266 rfl, List.forall_mem_cons.mpr ⟨miOK_of 1274 rfl, List.forall_mem_cons.mpr ⟨miOK_of 1270 rfl, List.forall_mem_cons.mpr ⟨miOK_of 1278 rfl, List.forall_mem_cons.mpr ⟨miOK_of 1282 rfl, List.forall_mem_cons.mpr ⟨miOK_of 1290 rfl, List.forall_mem_cons.mpr ⟨miOK_of 1286 rfl, List.forall_mem_cons.mpr ⟨miOK_of 1298 rfl, fun _ h => absurd h List.not_mem_nil⟩⟩⟩⟩⟩⟩⟩⟩⟩⟩⟩⟩⟩⟩⟩⟩⟩⟩⟩⟩
def MI10 : List MIe := [(yX7_walk, cX7_walk, 10, (Option.some Jvm.ClassFile.FieldType.int), 7),
  (yX7_toldAt, cX7_toldAt, 3, (Option.some Jvm.ClassFile.FieldType.long), 7),
  (yX7_noTold, cX7_noTold, 3, (Option.some Jvm.ClassFile.FieldType.int), 7),
  (yX7_goesSo, cX7_goesSo, 6, (Option.some Jvm.ClassFile.FieldType.boolean), 7),
  (yX7_fits, cX7_fits, 9, (Option.some Jvm.ClassFile.FieldType.int), 7),
  (yX7_from, cX7_from, 6, (Option.some Jvm.ClassFile.FieldType.int), 7),
  (yX7_tries, cX7_tries, 8, (Option.none : Option Jvm.ClassFile.FieldType), 7),
  (yX7_pairs, cX7_pairs, 5, (Option.some Jvm.ClassFile.FieldType.int), 7),
  (yX7_mended, cX7_mended, 9, (Option.some Jvm.ClassFile.FieldType.int), 7),
  (yX7_odds, cX7_odds, 9, (Option.some Jvm.ClassFile.FieldType.int), 7),
  (yX7_windFor, cX7_windFor, 7, (Option.some Jvm.ClassFile.FieldType.int), 7),
  (yX7_bestWind, cX7_bestWind, 7, (Option.some Jvm.ClassFile.FieldType.int), 7),
  (yX7_areSo, cX7_areSo, 4, (Option.some Jvm.ClassFile.FieldType.int), 7),
  (yX7_afloatThen, cX7_afloatThen, 4, (Option.some Jvm.ClassFile.FieldType.int), 7),
  (yX7_who, cX7_who, 2, (Option.some Jvm.ClassFile.FieldType.int), 7),
  (yX7_strays, cX7_strays, 1, (Option.some Jvm.ClassFile.FieldType.int), 7),
  (yX7_there, cX7_there, 5, (Option.some Jvm.ClassFile.FieldType.int), 7),
  (yX7_settles, cX7_settles, 5, (Option.some Jvm.ClassFile.FieldType.int), 7),
  (yX7_cellsOf, cX7_cellsOf, 4, (Option.some Jvm.ClassFile.FieldType.int), 7),
  (yX7_reach, cX7_reach, 5, (Option.some Jvm.ClassFile.FieldType.int), 7)]
set_option maxRecDepth 100000 in
theorem MI10_ok : ∀ e ∈ MI10, miOK e := List.forall_mem_cons.mpr ⟨miOK_of 1294 rfl, List.forall_mem_cons.mpr ⟨miOK_of 1314 rfl, List.forall_mem_cons.mpr ⟨miOK_of 1306 rfl, List.forall_mem_cons.mpr ⟨miOK_of 1310 rfl, List.forall_mem_cons.mpr ⟨miOK_of 1302 rfl, List.forall_mem_cons.mpr ⟨miOK_of 1318 rfl, List.forall_mem_cons.mpr ⟨miOK_of 1326 rfl, List.forall_mem_cons.mpr ⟨miOK_of 1322 rfl, List.forall_mem_cons.mpr ⟨miOK_of 1330 rfl, List.forall_mem_cons.mpr ⟨miOK_of 1334 rfl, List.forall_mem_cons.mpr ⟨miOK_of 1339 rfl, List.forall_mem_cons.mpr ⟨miOK_of 1343 rfl, List.forall_mem_cons.mpr ⟨miOK_of 1355 rfl, List.forall_mem_cons.mpr ⟨miOK_of 1351 rfl, List.forall_mem_cons.mpr ⟨miOK_of 1347 rfl, List.forall_mem_cons.mpr ⟨miOK_of 1359 rfl, List.forall_mem_cons.mpr ⟨miOK_of 1363 rfl, List.forall_mem_cons.mpr ⟨miOK_of 1367 rfl, List.forall_mem_cons.mpr ⟨miOK_of 1375 rfl, List.forall_mem_cons.mpr ⟨miOK_of 1371 rfl, fun _ h => absurd h List.not_mem_nil⟩⟩⟩⟩⟩⟩⟩⟩⟩⟩⟩⟩⟩⟩⟩⟩⟩⟩⟩⟩
def MI11 : List MIe := [(yX7_busiest, cX7_busiest, 5, (Option.some Jvm.ClassFile.FieldType.int), 7),
  (yX7_round, cX7_round, 6, (Option.some Jvm.ClassFile.FieldType.int), 7),
  (yX7_join, cX7_join, 5, (Option.some Jvm.ClassFile.FieldType.int), 7),
  (yX7_first, cX7_first, 6, (Option.some Jvm.ClassFile.FieldType.int), 7),
  (yX7_next_, cX7_next_, 4, (Option.some Jvm.ClassFile.FieldType.int), 7),
  (yX7_stays, cX7_stays, 5, (Option.some Jvm.ClassFile.FieldType.int), 7),
  (yX7_ofKind, cX7_ofKind, 4, (Option.some Jvm.ClassFile.FieldType.int), 7),
  (yX7_judge, cX7_judge, 7, (Option.some Jvm.ClassFile.FieldType.int), 7),
  (yX7_days, cX7_days, 2, (Option.some Jvm.ClassFile.FieldType.int), 7),
  (yX7_draw, cX7_draw, 2, (Option.some Jvm.ClassFile.FieldType.int), 7),
  (yX7_drawn, cX7_drawn, 6, (Option.some Jvm.ClassFile.FieldType.int), 7),
  (yX7_seed, cX7_seed, 3, (Option.some Jvm.ClassFile.FieldType.int), 7),
  (yX7_keep, cX7_keep, 3, (Option.none : Option Jvm.ClassFile.FieldType), 7),
  (yX7_again, cX7_again, 3, (Option.none : Option Jvm.ClassFile.FieldType), 7),
  (yX7_image, cX7_image, 1, (Option.some Jvm.ClassFile.FieldType.int), 7),
  (yX7_back, cX7_back, 2, (Option.some Jvm.ClassFile.FieldType.int), 7),
  (yX7_status, cX7_status, 4, (Option.some Jvm.ClassFile.FieldType.int), 7),
  (yJ6_bitCount_0f7a4, cJ6_bitCount_0f7a4, 1, (Option.some Jvm.ClassFile.FieldType.int), 13),
  (yJ0_length_8abf5, cJ0_length_8abf5, 1, (Option.some Jvm.ClassFile.FieldType.int), 9),
  (yJ0_charAt_5068e, cJ0_charAt_5068e, 2, (Option.some Jvm.ClassFile.FieldType.char), 9)]
set_option maxRecDepth 100000 in
theorem MI11_ok : ∀ e ∈ MI11, miOK e := List.forall_mem_cons.mpr ⟨miOK_of 1379 rfl, List.forall_mem_cons.mpr ⟨miOK_of 1383 rfl, List.forall_mem_cons.mpr ⟨miOK_of 1387 rfl, List.forall_mem_cons.mpr ⟨miOK_of 1391 rfl, List.forall_mem_cons.mpr ⟨miOK_of 1395 rfl, List.forall_mem_cons.mpr ⟨miOK_of 1399 rfl, List.forall_mem_cons.mpr ⟨miOK_of 1403 rfl, List.forall_mem_cons.mpr ⟨miOK_of 1407 rfl, List.forall_mem_cons.mpr ⟨miOK_of 1411 rfl, List.forall_mem_cons.mpr ⟨miOK_of 1419 rfl, List.forall_mem_cons.mpr ⟨miOK_of 1415 rfl, List.forall_mem_cons.mpr ⟨miOK_of 1424 rfl, List.forall_mem_cons.mpr ⟨miOK_of 1154 rfl, List.forall_mem_cons.mpr ⟨miOK_of 1200 rfl, List.forall_mem_cons.mpr ⟨miOK_of 1428 rfl, List.forall_mem_cons.mpr ⟨miOK_of 1432 rfl, List.forall_mem_cons.mpr ⟨miOK_of 1436 rfl, List.forall_mem_cons.mpr ⟨miOK_of 921 rfl, List.forall_mem_cons.mpr ⟨miOK_of 543 rfl, List.forall_mem_cons.mpr ⟨miOK_of 553 rfl, fun _ h => absurd h List.not_mem_nil⟩⟩⟩⟩⟩⟩⟩⟩⟩⟩⟩⟩⟩⟩⟩⟩⟩⟩⟩⟩
def MI12 : List MIe := [(yJ0_coder_7d493, cJ0_coder_7d493, 1, (Option.some Jvm.ClassFile.FieldType.byte), 9),
  (yJ0_isLatin1_aae02, cJ0_isLatin1_aae02, 1, (Option.some Jvm.ClassFile.FieldType.boolean), 9),
  (yJ0_checkIndex_df160, cJ0_checkIndex_df160, 2, (Option.none : Option Jvm.ClassFile.FieldType), 9),
  (yJ1_charAt_3b067, cJ1_charAt_3b067, 2, (Option.some Jvm.ClassFile.FieldType.char), 10),
  (yJ3_checkIndex_8e157, cJ3_checkIndex_8e157, 3, (Option.some Jvm.ClassFile.FieldType.int), 12)]
set_option maxRecDepth 100000 in
theorem MI12_ok : ∀ e ∈ MI12, miOK e := List.forall_mem_cons.mpr ⟨miOK_of 547 rfl, List.forall_mem_cons.mpr ⟨miOK_of 557 rfl, List.forall_mem_cons.mpr ⟨miOK_of 563 rfl, List.forall_mem_cons.mpr ⟨miOK_of 560 rfl, List.forall_mem_cons.mpr ⟨miOK_of 568 rfl, fun _ h => absurd h List.not_mem_nil⟩⟩⟩⟩⟩
def MIt : List MIe := MI0 ++ (MI1 ++ (MI2 ++ (MI3 ++ (MI4 ++ (MI5 ++ (MI6 ++ (MI7 ++ (MI8 ++ (MI9 ++ (MI10 ++ (MI11 ++ (MI12))))))))))))
theorem MIt_ok : ∀ e ∈ MIt, miOK e := List.forall_mem_append.mpr ⟨MI0_ok, List.forall_mem_append.mpr ⟨MI1_ok, List.forall_mem_append.mpr ⟨MI2_ok, List.forall_mem_append.mpr ⟨MI3_ok, List.forall_mem_append.mpr ⟨MI4_ok, List.forall_mem_append.mpr ⟨MI5_ok, List.forall_mem_append.mpr ⟨MI6_ok, List.forall_mem_append.mpr ⟨MI7_ok, List.forall_mem_append.mpr ⟨MI8_ok, List.forall_mem_append.mpr ⟨MI9_ok, List.forall_mem_append.mpr ⟨MI10_ok, List.forall_mem_append.mpr ⟨MI11_ok, MI12_ok⟩⟩⟩⟩⟩⟩⟩⟩⟩⟩⟩⟩
def MIx (j : Nat) : MIe := MIt.getD j (yL_law, code, 0, none, 0)
def yM (j : Nat) : MethodName := (MIx j).1
def cM (j : Nat) : ByteArray := (MIx j).2.1
def mlM (j : Nat) : Nat := (MIx j).2.2.1
def rtM (j : Nat) : Option FieldType := (MIx j).2.2.2.1
def owM (j : Nat) : Nat := (MIx j).2.2.2.2
def wM (j : Nat) : List Cond := .code (yM j) (cM j) (mlM j) (rtM j) :: WSg
theorem MIt_len : MIt.length = 245 := by decide +kernel
def miD (e : MIe) : Bool := decide (e.1.cls = cn e.2.2.2.2) && decide (e.2.2.1 ≤ 40) && plainName e.1.cls && decide (e.1.cls ≠ "java/lang/invoke/MethodHandle") && decide (e.1.cls ≠ "java/lang/invoke/VarHandle")
theorem MI0_d : MI0.all miD = true := by decide +kernel
theorem MI1_d : MI1.all miD = true := by decide +kernel
theorem MI2_d : MI2.all miD = true := by decide +kernel
theorem MI3_d : MI3.all miD = true := by decide +kernel
theorem MI4_d : MI4.all miD = true := by decide +kernel
theorem MI5_d : MI5.all miD = true := by decide +kernel
theorem MI6_d : MI6.all miD = true := by decide +kernel
theorem MI7_d : MI7.all miD = true := by decide +kernel
theorem MI8_d : MI8.all miD = true := by decide +kernel
theorem MI9_d : MI9.all miD = true := by decide +kernel
theorem MI10_d : MI10.all miD = true := by decide +kernel
theorem MI11_d : MI11.all miD = true := by decide +kernel
theorem MI12_d : MI12.all miD = true := by decide +kernel
theorem MIt_d : MIt.all miD = true := by
  simp only [MIt, List.all_append, MI0_d, MI1_d, MI2_d, MI3_d, MI4_d, MI5_d, MI6_d, MI7_d, MI8_d, MI9_d, MI10_d, MI11_d, MI12_d, Bool.and_self]
def mlOK (e : Nat × Nat × Nat × Nat × Nat × Nat × Nat × Nat × Nat) : Bool := match e with
  | (own, idx, kd, j, n, pl, p2, ps, pi) =>
    decide (j < 245) && posOK pi (.initialized (yM j).cls) &&
    (match kd with
    | 0 => decide (owM j < 8 ∨ owM j = 9) && posOK pl (.methodLink (cn own) idx (yM j)) && posOK p2 (.instanceMethod (yM j)) && posOK ps (.selects (yM j).cls (yM j) (yM j)) && decide ((parseMethodDescriptor (yM j).desc).map (fun d => d.parameters.length + 1) = some n)
    | 1 => posOK pl (.methodLink (cn own) idx (yM j)) && posOK p2 (.static (yM j)) && decide ((parseMethodDescriptor (yM j).desc).map (fun d => d.parameters.length) = some n)
    | 2 => decide (owM j < 8) && decide (rtM j = none) && decide ((yM j).name = "<init>") && posOK pl (.methodLink (cn own) idx (yM j)) && posOK p2 (.instanceMethod (yM j)) && decide ((parseMethodDescriptor (yM j).desc).map (fun d => d.parameters.length + 1) = some n)
    | 4 => decide (lw_tbl[pl]? = some (.methodLinkNest (cn own) idx (yM j) RX6)) && posOK p2 (.static (yM j)) && decide ((parseMethodDescriptor (yM j).desc).map (fun d => d.parameters.length) = some n)
    | 5 => decide (owM j < 8) && decide (rtM j = none) && decide ((yM j).name = "<init>") && decide (lw_tbl[pl]? = some (.methodLinkNest (cn own) idx (yM j) RX6)) && posOK p2 (.instanceMethod (yM j)) && decide ((parseMethodDescriptor (yM j).desc).map (fun d => d.parameters.length + 1) = some n)
    | _ => false)
def ML0 : List (Nat × Nat × Nat × Nat × Nat × Nat × Nat × Nat × Nat) := [(0, 27, 4, 123, 2, 628, 629, 0, 59), (1, 22, 0, 7, 1, 346, 347, 348, 65), (1, 35, 0, 6, 1, 358, 339, 340, 65), (1, 38, 0, 9, 2, 359, 351, 352, 65), (1, 42, 0, 14, 2, 360, 362, 2, 65), (2, 34, 0, 19, 2, 509, 511, 3, 63), (2, 38, 0, 28, 1, 513, 515, 4, 63), (2, 41, 0, 23, 1, 531, 533, 7, 63), (2, 45, 0, 46, 1, 593, 433, 434, 60), (2, 51, 0, 45, 1, 594, 595, 596, 60), (2, 54, 1, 21, 1, 598, 599, 0, 63), (2, 61, 1, 22, 3, 601, 602, 0, 63), (2, 65, 0, 20, 3, 604, 606, 9, 63), (2, 69, 0, 50, 4, 608, 437, 438, 60), (2, 73, 0, 49, 5, 609, 610, 611, 60), (2, 77, 0, 48, 3, 618, 464, 465, 60), (2, 91, 0, 24, 2, 536, 538, 8, 63), (2, 103, 0, 238, 1, 540, 541, 542, 69), (2, 108, 0, 25, 2, 517, 519, 5, 63), (2, 111, 0, 239, 2, 550, 551, 552, 69), (2, 115, 1, 26, 1, 521, 522, 0, 63), (2, 119, 1, 27, 1, 524, 525, 0, 63), (2, 122, 0, 29, 1, 527, 529, 6, 63), (3, 27, 0, 32, 2, 786, 675, 676, 64)]
set_option maxRecDepth 100000 in
theorem ML0_ok : ML0.all mlOK = true := by decide +kernel
def ML1 : List (Nat × Nat × Nat × Nat × Nat × Nat × Nat × Nat × Nat) := [(4, 19, 0, 36, 4, 504, 446, 447, 62), (5, 49, 5, 0, 1, 93, 94, 0, 61), (5, 54, 5, 35, 1, 127, 128, 0, 62), (5, 59, 0, 47, 2, 416, 417, 418, 60), (5, 63, 0, 42, 2, 495, 393, 394, 60), (5, 67, 0, 2, 2, 496, 497, 498, 61), (5, 71, 0, 43, 2, 441, 442, 443, 60), (5, 75, 0, 37, 2, 500, 501, 502, 62), (5, 78, 0, 45, 1, 613, 595, 596, 60), (5, 82, 0, 1, 5, 614, 615, 616, 61), (5, 86, 0, 46, 1, 440, 433, 434, 60), (5, 89, 0, 36, 4, 445, 446, 447, 62), (5, 116, 0, 55, 3, 668, 413, 414, 60), (5, 123, 4, 123, 2, 672, 629, 0, 59), (5, 129, 0, 31, 3, 651, 652, 653, 64), (5, 135, 0, 39, 2, 655, 656, 657, 62), (5, 139, 0, 54, 2, 659, 660, 661, 60), (5, 142, 0, 56, 4, 664, 665, 666, 60), (5, 146, 0, 58, 4, 696, 697, 698, 60), (5, 150, 0, 63, 2, 896, 898, 20, 60), (5, 153, 0, 61, 1, 901, 885, 886, 60), (6, 9, 2, 40, 1, 84, 85, 0, 60), (6, 34, 5, 15, 1, 197, 198, 0, 63), (6, 45, 5, 30, 1, 227, 228, 0, 64)]
set_option maxRecDepth 100000 in
theorem ML1_ok : ML1.all mlOK = true := by decide +kernel
def ML2 : List (Nat × Nat × Nat × Nat × Nat × Nat × Nat × Nat × Nat) := [(6, 55, 5, 0, 1, 239, 94, 0, 61), (6, 62, 5, 35, 1, 241, 128, 0, 62), (6, 81, 5, 4, 1, 245, 246, 0, 65), (6, 82, 0, 125, 2, 313, 315, 0, 59), (6, 86, 1, 120, 3, 317, 318, 0, 59), (6, 90, 0, 124, 2, 320, 322, 1, 59), (6, 94, 0, 11, 3, 324, 325, 326, 65), (6, 98, 0, 6, 1, 338, 339, 340, 65), (6, 102, 0, 8, 1, 342, 343, 344, 65), (6, 106, 0, 9, 2, 350, 351, 352, 65), (6, 110, 0, 12, 3, 354, 355, 356, 65), (6, 114, 0, 7, 1, 368, 347, 348, 65), (6, 121, 0, 10, 3, 369, 370, 371, 65), (6, 135, 0, 13, 2, 380, 381, 382, 65), (6, 139, 0, 42, 2, 392, 393, 394, 60), (6, 143, 1, 121, 1, 400, 401, 0, 59), (6, 146, 0, 5, 1, 403, 404, 405, 65), (6, 152, 1, 122, 2, 407, 408, 0, 59), (6, 161, 0, 55, 3, 412, 413, 414, 60), (6, 168, 0, 44, 2, 428, 429, 430, 60), (6, 171, 0, 46, 1, 432, 433, 434, 60), (6, 174, 0, 50, 4, 436, 437, 438, 60), (6, 178, 0, 43, 2, 453, 442, 443, 60), (6, 182, 0, 38, 2, 454, 455, 456, 62)]
set_option maxRecDepth 100000 in
theorem ML2_ok : ML2.all mlOK = true := by decide +kernel
def ML3 : List (Nat × Nat × Nat × Nat × Nat × Nat × Nat × Nat × Nat) := [(6, 194, 0, 47, 2, 462, 417, 418, 60), (6, 197, 0, 48, 3, 463, 464, 465, 60), (6, 203, 0, 16, 1, 475, 476, 477, 63), (6, 206, 0, 17, 2, 479, 480, 481, 63), (6, 212, 0, 41, 2, 491, 492, 493, 60), (6, 216, 0, 18, 2, 505, 506, 507, 63), (6, 223, 0, 3, 2, 624, 625, 626, 61), (6, 224, 0, 51, 2, 635, 636, 637, 60), (6, 230, 0, 57, 5, 647, 648, 649, 60), (6, 234, 0, 32, 2, 674, 675, 676, 64), (6, 237, 0, 33, 2, 678, 679, 680, 64), (6, 240, 0, 37, 2, 686, 501, 502, 62), (6, 243, 0, 39, 2, 687, 656, 657, 62), (6, 247, 0, 60, 2, 692, 693, 694, 60), (6, 250, 0, 59, 2, 704, 705, 706, 60), (6, 254, 0, 127, 3, 712, 714, 10, 59), (6, 261, 0, 1, 5, 728, 615, 616, 61), (6, 264, 0, 58, 4, 729, 697, 698, 60), (6, 268, 0, 128, 5, 734, 736, 11, 59), (6, 276, 0, 129, 5, 743, 745, 12, 59), (6, 280, 0, 132, 2, 757, 759, 13, 59), (6, 283, 0, 133, 1, 761, 763, 14, 59), (6, 286, 0, 136, 2, 774, 776, 17, 59), (6, 289, 0, 134, 3, 765, 767, 15, 59)]
set_option maxRecDepth 100000 in
theorem ML3_ok : ML3.all mlOK = true := by decide +kernel
def ML4 : List (Nat × Nat × Nat × Nat × Nat × Nat × Nat × Nat × Nat) := [(6, 293, 0, 34, 2, 782, 783, 784, 64), (6, 296, 0, 130, 4, 791, 793, 18, 59), (6, 307, 0, 52, 2, 813, 814, 815, 60), (6, 310, 0, 53, 2, 817, 818, 819, 60), (6, 321, 0, 131, 1, 834, 836, 19, 59), (6, 324, 0, 56, 4, 748, 665, 666, 60), (6, 328, 0, 45, 1, 878, 595, 596, 60), (6, 331, 0, 49, 5, 879, 610, 611, 60), (6, 334, 0, 61, 1, 884, 885, 886, 60), (6, 340, 0, 62, 1, 892, 893, 894, 60), (6, 346, 0, 99, 2, 918, 806, 807, 59), (6, 349, 1, 237, 1, 919, 920, 0, 73), (6, 354, 0, 126, 1, 925, 927, 21, 59), (6, 360, 0, 69, 2, 929, 385, 386, 59), (6, 363, 0, 36, 4, 738, 446, 447, 62), (6, 366, 0, 54, 2, 747, 660, 661, 60), (6, 369, 0, 2, 2, 795, 497, 498, 61), (6, 372, 0, 135, 4, 769, 771, 16, 59), (7, 78, 1, 139, 3, 1043, 1044, 0, 66), (7, 88, 1, 145, 1, 1040, 1041, 0, 66), (7, 92, 0, 138, 2, 1046, 1048, 22, 66), (7, 96, 0, 146, 2, 1054, 1056, 23, 66), (7, 99, 0, 148, 2, 1058, 1060, 24, 66), (7, 102, 1, 149, 2, 1062, 1063, 0, 66)]
set_option maxRecDepth 100000 in
theorem ML4_ok : ML4.all mlOK = true := by decide +kernel
def ML5 : List (Nat × Nat × Nat × Nat × Nat × Nat × Nat × Nat × Nat) := [(7, 106, 0, 141, 2, 1081, 1083, 25, 66), (7, 109, 1, 155, 2, 1089, 1090, 0, 66), (7, 113, 0, 182, 2, 1092, 1094, 26, 66), (7, 116, 0, 140, 2, 1104, 1106, 27, 66), (7, 119, 0, 158, 4, 1108, 1110, 28, 66), (7, 123, 0, 142, 2, 1116, 1118, 29, 66), (7, 126, 1, 143, 2, 1132, 1133, 0, 66), (7, 129, 0, 163, 6, 1135, 1137, 30, 66), (7, 145, 1, 167, 1, 1159, 1160, 0, 66), (7, 148, 1, 168, 1, 1162, 1163, 0, 66), (7, 154, 0, 238, 1, 1174, 541, 542, 69), (7, 160, 0, 239, 2, 1175, 551, 552, 69), (7, 164, 0, 169, 1, 1155, 1157, 32, 66), (7, 167, 0, 171, 3, 1184, 1186, 37, 66), (7, 171, 0, 172, 1, 1180, 1182, 36, 66), (7, 176, 0, 170, 2, 1170, 1172, 34, 66), (7, 180, 0, 173, 1, 1176, 1178, 35, 66), (7, 186, 0, 174, 1, 1189, 1191, 38, 66), (7, 196, 0, 232, 2, 1151, 1153, 31, 66), (7, 200, 0, 175, 1, 1165, 1167, 33, 66), (7, 203, 0, 233, 2, 1197, 1199, 39, 66), (7, 206, 0, 177, 2, 1205, 1207, 40, 66), (7, 209, 0, 179, 2, 1213, 1215, 41, 66), (7, 223, 0, 183, 2, 1236, 1238, 44, 66)]
set_option maxRecDepth 100000 in
theorem ML5_ok : ML5.all mlOK = true := by decide +kernel
def ML6 : List (Nat × Nat × Nat × Nat × Nat × Nat × Nat × Nat × Nat) := [(7, 227, 0, 184, 2, 1243, 1245, 45, 66), (7, 230, 0, 185, 2, 1232, 1234, 43, 66), (7, 233, 1, 144, 1, 1225, 1226, 0, 66), (7, 236, 0, 186, 2, 1228, 1230, 42, 66), (7, 239, 0, 190, 4, 1259, 1261, 46, 66), (7, 242, 0, 193, 3, 1271, 1273, 47, 66), (7, 245, 0, 197, 5, 1287, 1289, 48, 66), (7, 249, 0, 199, 3, 1295, 1297, 49, 66), (7, 252, 0, 201, 3, 1311, 1313, 52, 66), (7, 256, 0, 202, 3, 1303, 1305, 50, 66), (7, 259, 0, 203, 4, 1307, 1309, 51, 66), (7, 268, 0, 206, 6, 1323, 1325, 53, 66), (7, 272, 0, 212, 2, 1352, 1354, 55, 66), (7, 275, 0, 213, 2, 1348, 1350, 54, 66), (7, 278, 0, 218, 2, 1372, 1374, 56, 66), (7, 285, 0, 229, 2, 1416, 1418, 57, 66), (7, 292, 1, 237, 1, 1437, 920, 0, 73), (8, 9, 2, 64, 1, 76, 77, 0, 59), (8, 12, 2, 137, 1, 932, 933, 0, 66), (8, 13, 0, 65, 4, 309, 310, 311, 59), (8, 17, 0, 147, 4, 1036, 1037, 1038, 66), (8, 20, 0, 66, 4, 334, 335, 336, 59), (8, 24, 0, 150, 4, 1050, 1051, 1052, 66), (8, 25, 0, 67, 6, 364, 365, 366, 59)]
set_option maxRecDepth 100000 in
theorem ML6_ok : ML6.all mlOK = true := by decide +kernel
def ML7 : List (Nat × Nat × Nat × Nat × Nat × Nat × Nat × Nat × Nat) := [(8, 29, 0, 151, 6, 1065, 1066, 1067, 66), (8, 30, 0, 68, 3, 376, 377, 378, 59), (8, 34, 0, 152, 3, 1069, 1070, 1071, 66), (8, 35, 0, 69, 2, 384, 385, 386, 59), (8, 39, 0, 153, 2, 1073, 1074, 1075, 66), (8, 40, 0, 70, 3, 388, 389, 390, 59), (8, 44, 0, 154, 3, 1077, 1078, 1079, 66), (8, 45, 0, 71, 3, 396, 397, 398, 59), (8, 48, 0, 156, 3, 1085, 1086, 1087, 66), (8, 49, 0, 72, 2, 420, 421, 422, 59), (8, 52, 0, 157, 2, 1096, 1097, 1098, 66), (8, 53, 0, 73, 4, 424, 425, 426, 59), (8, 56, 0, 159, 4, 1100, 1101, 1102, 66), (8, 57, 0, 74, 4, 449, 450, 451, 59), (8, 60, 0, 160, 4, 1112, 1113, 1114, 66), (8, 61, 0, 75, 3, 458, 459, 460, 59), (8, 64, 0, 161, 3, 1120, 1121, 1122, 66), (8, 65, 0, 76, 3, 467, 468, 469, 59), (8, 68, 0, 162, 3, 1124, 1125, 1126, 66), (8, 69, 0, 77, 2, 471, 472, 473, 59), (8, 72, 0, 165, 2, 1139, 1140, 1141, 66), (8, 73, 0, 78, 1, 483, 484, 485, 59), (8, 77, 0, 166, 1, 1143, 1144, 1145, 66), (8, 78, 0, 79, 1, 487, 488, 489, 59)]
set_option maxRecDepth 100000 in
theorem ML7_ok : ML7.all mlOK = true := by decide +kernel
def ML8 : List (Nat × Nat × Nat × Nat × Nat × Nat × Nat × Nat × Nat) := [(8, 81, 0, 176, 1, 1147, 1148, 1149, 66), (8, 82, 0, 80, 3, 620, 621, 622, 59), (8, 85, 0, 178, 3, 1201, 1202, 1203, 66), (8, 86, 0, 81, 3, 631, 632, 633, 59), (8, 89, 0, 180, 3, 1209, 1210, 1211, 66), (8, 90, 0, 82, 2, 639, 640, 641, 59), (8, 93, 0, 181, 2, 1217, 1218, 1219, 66), (8, 94, 0, 83, 4, 643, 644, 645, 59), (8, 97, 0, 187, 4, 1221, 1222, 1223, 66), (8, 98, 0, 84, 3, 682, 683, 684, 59), (8, 101, 0, 188, 3, 1247, 1248, 1249, 66), (8, 102, 0, 85, 2, 688, 689, 690, 59), (8, 105, 0, 189, 2, 1251, 1252, 1253, 66), (8, 106, 0, 86, 2, 700, 701, 702, 59), (8, 109, 0, 191, 2, 1255, 1256, 1257, 66), (8, 110, 0, 87, 3, 708, 709, 710, 59), (8, 113, 0, 194, 3, 1267, 1268, 1269, 66), (8, 114, 0, 88, 2, 716, 717, 718, 59), (8, 117, 0, 195, 2, 1275, 1276, 1277, 66), (8, 118, 0, 89, 3, 720, 721, 722, 59), (8, 121, 0, 196, 3, 1279, 1280, 1281, 66), (8, 122, 0, 90, 5, 724, 725, 726, 59), (8, 126, 0, 198, 5, 1283, 1284, 1285, 66), (8, 127, 0, 91, 4, 730, 731, 732, 59)]
set_option maxRecDepth 100000 in
theorem ML8_ok : ML8.all mlOK = true := by decide +kernel
def ML9 : List (Nat × Nat × Nat × Nat × Nat × Nat × Nat × Nat × Nat) := [(8, 130, 0, 200, 4, 1291, 1292, 1293, 66), (8, 131, 0, 92, 5, 739, 740, 741, 59), (8, 134, 0, 204, 5, 1299, 1300, 1301, 66), (8, 135, 0, 93, 4, 749, 750, 751, 59), (8, 138, 0, 205, 4, 1315, 1316, 1317, 66), (8, 139, 0, 94, 3, 753, 754, 755, 59), (8, 142, 0, 207, 3, 1319, 1320, 1321, 66), (8, 143, 0, 95, 3, 778, 779, 780, 59), (8, 146, 0, 208, 3, 1327, 1328, 1329, 66), (8, 147, 0, 96, 4, 787, 788, 789, 59), (8, 150, 0, 209, 4, 1331, 1332, 1333, 66), (8, 151, 0, 97, 2, 797, 798, 799, 59), (8, 154, 0, 210, 2, 1336, 1337, 1338, 66), (8, 155, 0, 98, 3, 801, 802, 803, 59), (8, 158, 0, 211, 3, 1340, 1341, 1342, 66), (8, 159, 0, 99, 2, 805, 806, 807, 59), (8, 162, 0, 214, 2, 1344, 1345, 1346, 66), (8, 163, 0, 100, 3, 809, 810, 811, 59), (8, 166, 0, 216, 3, 1360, 1361, 1362, 66), (8, 167, 0, 101, 2, 821, 822, 823, 59), (8, 170, 0, 217, 2, 1364, 1365, 1366, 66), (8, 171, 0, 102, 3, 825, 826, 827, 59), (8, 174, 0, 219, 3, 1368, 1369, 1370, 66), (8, 175, 0, 103, 2, 830, 831, 832, 59)]
set_option maxRecDepth 100000 in
theorem ML9_ok : ML9.all mlOK = true := by decide +kernel
def ML10 : List (Nat × Nat × Nat × Nat × Nat × Nat × Nat × Nat × Nat) := [(8, 178, 0, 220, 2, 1376, 1377, 1378, 66), (8, 179, 0, 104, 2, 838, 839, 840, 59), (8, 182, 0, 221, 2, 1380, 1381, 1382, 66), (8, 183, 0, 105, 3, 842, 843, 844, 59), (8, 186, 0, 222, 3, 1384, 1385, 1386, 66), (8, 187, 0, 106, 2, 846, 847, 848, 59), (8, 190, 0, 192, 2, 1263, 1264, 1265, 66), (8, 191, 0, 107, 2, 850, 851, 852, 59), (8, 194, 0, 223, 2, 1388, 1389, 1390, 66), (8, 195, 0, 108, 4, 854, 855, 856, 59), (8, 198, 0, 224, 4, 1392, 1393, 1394, 66), (8, 199, 0, 109, 3, 858, 859, 860, 59), (8, 202, 0, 225, 3, 1396, 1397, 1398, 66), (8, 203, 0, 110, 1, 862, 863, 864, 59), (8, 206, 0, 215, 1, 1356, 1357, 1358, 66), (8, 207, 0, 111, 2, 866, 867, 868, 59), (8, 210, 0, 226, 2, 1400, 1401, 1402, 66), (8, 211, 0, 112, 4, 870, 871, 872, 59), (8, 214, 0, 227, 4, 1404, 1405, 1406, 66), (8, 215, 0, 113, 5, 874, 875, 876, 59), (8, 218, 0, 164, 5, 1128, 1129, 1130, 66), (8, 219, 0, 114, 2, 880, 881, 882, 59), (8, 222, 0, 228, 2, 1408, 1409, 1410, 66), (8, 223, 0, 115, 2, 888, 889, 890, 59)]
set_option maxRecDepth 100000 in
theorem ML10_ok : ML10.all mlOK = true := by decide +kernel
def ML11 : List (Nat × Nat × Nat × Nat × Nat × Nat × Nat × Nat × Nat) := [(8, 226, 0, 230, 2, 1412, 1413, 1414, 66), (8, 227, 0, 116, 2, 902, 903, 904, 59), (8, 230, 0, 231, 2, 1421, 1422, 1423, 66), (8, 231, 0, 117, 1, 906, 907, 908, 59), (8, 234, 0, 234, 1, 1425, 1426, 1427, 66), (8, 235, 0, 118, 1, 910, 911, 912, 59), (8, 238, 0, 235, 1, 1429, 1430, 1431, 66), (8, 239, 0, 119, 2, 914, 915, 916, 59), (8, 242, 0, 236, 2, 1433, 1434, 1435, 66), (9, 335, 0, 240, 1, 544, 545, 546, 69), (9, 492, 0, 241, 1, 554, 555, 556, 69), (9, 495, 1, 243, 2, 558, 559, 0, 70), (9, 1059, 1, 244, 3, 566, 567, 0, 71), (10, 9, 1, 242, 2, 561, 562, 0, 69)]
set_option maxRecDepth 100000 in
theorem ML11_ok : ML11.all mlOK = true := by decide +kernel
/-- calls: owner, place, kind (0 virtual, 1 static, 2 special; 5, 4: a nest mate's special, static), method, how many words, and the places of what the tables say -/
def MLt : List (Nat × Nat × Nat × Nat × Nat × Nat × Nat × Nat × Nat) := ML0 ++ (ML1 ++ (ML2 ++ (ML3 ++ (ML4 ++ (ML5 ++ (ML6 ++ (ML7 ++ (ML8 ++ (ML9 ++ (ML10 ++ (ML11)))))))))))
theorem MLt_ok : MLt.all mlOK = true := by
  simp only [MLt, List.all_append, ML0_ok, ML1_ok, ML2_ok, ML3_ok, ML4_ok, ML5_ok, ML6_ok, ML7_ok, ML8_ok, ML9_ok, ML10_ok, ML11_ok, Bool.and_self]
def NLt : List (Nat × Nat × String × Nat) := [(5, 37, "AddressedToYou$Bottle", 88), (5, 43, "AddressedToYou$Walker", 90), (6, 7, "AddressedToYou$World", 82), (6, 26, "AddressedToYou$Shelf", 193), (6, 32, "AddressedToYou$Tape", 195), (6, 43, "AddressedToYou$Track", 225), (6, 53, "AddressedToYou$Bottle", 238), (6, 60, "AddressedToYou$Walker", 240), (6, 73, "[[I", 242), (8, 7, "AddressedToYou", 74), (8, 10, "AddressedToYouModel", 930)]
theorem NLt_ok : NLt.all (fun e => posOK e.2.2.2 (.classLink (cn e.1) e.2.1 e.2.2.1)) = true := by decide +kernel
def KIt : List (Nat × Nat × Int32 × Nat) := [(6, 300, 1000000, 796), (5, 157, 1103515245, 900), (7, 271, 1000000, 1335), (7, 284, 1103515245, 1420), (13, 265, 1431655765, 922), (13, 266, 858993459, 923), (13, 267, 252645135, 924)]
theorem KIt_ok : KIt.all (fun e => posOK e.2.2.2 (.constant (cn e.1) e.2.1 e.2.2.1)) = true := by decide +kernel
def KLt : List (Nat × Nat × Int64 × Nat) := [(8, 18, 4294967295, 1438)]
theorem KLt_ok : KLt.all (fun e => posOK e.2.2.2 (.constantLong (cn e.1) e.2.1 e.2.2.1)) = true := by decide +kernel
def KSt : List (Nat × Nat × String × Nat) := [(2, 90, "cells", 535), (2, 95, "walker", 588), (2, 97, "bottle", 589), (2, 99, "current", 590), (2, 101, "wind", 591), (2, 102, "day", 592), (7, 174, "walker", 1169), (7, 184, "bottle", 1188), (7, 189, "cells", 1193), (7, 191, "current", 1194), (7, 192, "wind", 1195), (7, 194, "day", 1196)]
theorem KSt_ok : KSt.all (fun e => decide (lw_tbl[e.2.2.2]? = some (.stringRef (cn e.1) e.2.1 e.2.2.1))) = true := by decide +kernel
def NNt : List (Nat × Nat × Nat × Nat) := [(0, 27, 123, 628), (5, 49, 0, 93), (5, 54, 35, 127), (5, 123, 123, 672), (6, 34, 15, 197), (6, 45, 30, 227), (6, 55, 0, 239), (6, 62, 35, 241), (6, 81, 4, 245)]
theorem NNt_ok : NNt.all (fun e => decide (lw_tbl[e.2.2.2]? = some (.methodLinkNest (cn e.1) e.2.1 (yM e.2.2.1) RX6))) = true := by decide +kernel
def SLt : List (Nat × Nat × Nat × String × String × String × Nat) := [(6, 357, 32, "AddressedToYou", "KIND_ABOVE", "[I", 410), (9, 9, 100, "java/lang/String", "value", "[B", 1439), (9, 15, 101, "java/lang/String", "coder", "B", 1440), (9, 38, 0, "java/lang/String", "COMPACT_STRINGS", "Z", 548), (9, 1053, 34, "jdk/internal/util/Preconditions", "SIOOBE_FORMATTER", "Ljava/util/function/BiFunction;", 564)]
theorem SLt_ok : SLt.all (fun e => posOK e.2.2.2.2.2.2 (.fieldLink (cn e.1) e.2.1 e.2.2.2.1 e.2.2.2.2.1 e.2.2.2.2.2.1)) = true := by decide +kernel
/-- Math.abs, max, min, System.arraycopy, Object.<init> -/
def BLt : List (Nat × Nat × Nat × Nat) := [(0, 3, 4, 96), (1, 3, 4, 248), (1, 26, 2, 328), (1, 32, 1, 331), (2, 3, 4, 200), (3, 3, 4, 230), (4, 1, 4, 130), (5, 3, 4, 87), (5, 104, 2, 663), (5, 120, 0, 669), (5, 126, 1, 673), (6, 1, 4, 79), (6, 129, 3, 373), (6, 313, 2, 829), (6, 318, 1, 773), (7, 1, 4, 935), (7, 212, 0, 1240), (7, 217, 2, 1241), (7, 220, 1, 1242)]
def blY (b : Nat) : MethodName := match b with
  | 0 => Lib.Math.abs.name
  | 1 => Lib.Math.max.name
  | 2 => Lib.Math.min.name
  | 3 => arraycopyName
  | _ => Lib.objectInit
theorem BLt_ok : BLt.all (fun e => decide (e.2.2.1 < 5) && posOK e.2.2.2 (.methodLink (cn e.1) e.2.1 (blY e.2.2.1))) = true := by decide +kernel
theorem BL_words : posOK 670 (.static Lib.Math.abs.name) && posOK 332 (.static Lib.Math.max.name) && posOK 329 (.static Lib.Math.min.name) && posOK 67 (.initialized "java/lang/Math") && posOK 671 (.code Lib.Math.abs.name Lib.Math.abs.code 1 (some .int)) && posOK 333 (.code Lib.Math.max.name Lib.Math.max.code 2 (some .int)) && posOK 330 (.code Lib.Math.min.name Lib.Math.min.code 2 (some .int)) && posOK 375 (.native arraycopyName) && posOK 374 (.static arraycopyName) && posOK 68 (.initialized "java/lang/System") && posOK 80 (.instanceMethod Lib.objectInit) && posOK 81 (.code Lib.objectInit ⟨#[0xb1]⟩ 1 none) = true := by decide +kernel
end
section
/-! THE CODE IS WHAT THE TABLES SAY: one entry against the bytecode and the links -/
def okD (cc : ByteArray) (pc : Nat) (i : Instr) (len : Nat) : Bool := decide (decode cc pc = .ok (i, len))
def flE (own idx c k : Nat) : Bool := FLt.any (fun e => Nat.beq e.1 own && Nat.beq e.2.1 idx && Nat.beq e.2.2.1 c && Nat.beq e.2.2.2.1 k)
def mlE (own idx kd j n : Nat) : Bool := MLt.any (fun e => Nat.beq e.1 own && Nat.beq e.2.1 idx && Nat.beq e.2.2.1 kd && Nat.beq e.2.2.2.1 j && Nat.beq e.2.2.2.2.1 n)
def nlE (own idx : Nat) (c : String) : Bool := NLt.any (fun e => Nat.beq e.1 own && Nat.beq e.2.1 idx && decide (e.2.2.1 = c))
def kiE (own idx : Nat) (v : Int32) : Bool := KIt.any (fun e => Nat.beq e.1 own && Nat.beq e.2.1 idx && decide (e.2.2.1 = v))
def klE (own idx : Nat) (v : Int64) : Bool := KLt.any (fun e => Nat.beq e.1 own && Nat.beq e.2.1 idx && decide (e.2.2.1 = v))
def ksE (own idx a : Nat) : Bool := match KSt[a]? with
  | some e => Nat.beq e.1 own && Nat.beq e.2.1 idx
  | none => false
def slE (own idx a : Nat) : Bool := SLt.any (fun e => Nat.beq e.1 own && Nat.beq e.2.1 idx && Nat.beq e.2.2.1 a)
def blE (own idx a : Nat) : Bool := BLt.any (fun e => Nat.beq e.1 own && Nat.beq e.2.1 idx && Nat.beq e.2.2.1 a)
def arrOf (a : Nat) : String := match a with
  | 22 => RX0
  | 23 => RX1
  | 24 => RX4
  | _ => "[[I"
def consec : Int → List (Int32 × Nat) → Bool
  | _, [] => true
  | n, q :: l => decide (q.1 = Int32.ofInt n) && consec (n + 1) l
def okE (own : Nat) (cc : ByteArray) (pc : Nat) (xe : XE) : Bool :=
  match xe with
  | (i, len, (a, b, d), v, w, brs) =>
    match i with
    | .iconst _ => match len with
      | 1 => okD cc pc (.iconst v.toInt) 1
      | 2 => (match b with
        | 0 => okD cc pc (.bipush v.toInt) 2 && decide ((Int8.ofInt v.toInt).toInt32 = v)
        | _ => okD cc pc (.ldc a) 2 && kiE own a v)
      | 3 => (match b with
        | 0 => okD cc pc (.sipush v.toInt) 3 && decide ((Int16.ofInt v.toInt).toInt32 = v)
        | _ => okD cc pc (.ldc_w a) 3 && kiE own a v)
      | _ => false
    | .lconst _ => match len with
      | 1 => (okD cc pc (.lconst 0) 1 && decide (w = 0)) || (okD cc pc (.lconst 1) 1 && decide (w = 1))
      | 3 => okD cc pc (.ldc2_w a) 3 && klE own a w
      | _ => false
    | .aconst_null => okD cc pc .aconst_null 1 && Nat.beq len 1
    | .iload _ => match len with
      | 1 => Nat.blt a 4 && okD cc pc (.iload_n (Fin.ofNat 4 a)) 1
      | 2 => okD cc pc (.iload a) 2
      | _ => false
    | .lload _ => match len with
      | 1 => Nat.blt a 4 && okD cc pc (.lload_n (Fin.ofNat 4 a)) 1
      | 2 => okD cc pc (.lload a) 2
      | _ => false
    | .aload _ => match len with
      | 1 => Nat.blt a 4 && okD cc pc (.aload_n (Fin.ofNat 4 a)) 1
      | 2 => okD cc pc (.aload a) 2
      | _ => false
    | .istore _ => match len with
      | 1 => Nat.blt a 4 && okD cc pc (.istore_n (Fin.ofNat 4 a)) 1
      | 2 => okD cc pc (.istore a) 2
      | _ => false
    | .lstore _ => match len with
      | 1 => Nat.blt a 4 && okD cc pc (.lstore_n (Fin.ofNat 4 a)) 1
      | 2 => okD cc pc (.lstore a) 2
      | _ => false
    | .astore _ => match len with
      | 1 => Nat.blt a 4 && okD cc pc (.astore_n (Fin.ofNat 4 a)) 1
      | 2 => okD cc pc (.astore a) 2
      | _ => false
    | .iinc _ _ => okD cc pc (.iinc a v.toInt) 3 && Nat.beq len 3
    | .goto _ => okD cc pc (.goto ((a : Int) - pc)) 3
    | .ifCond q _ => okD cc pc (.ifCond q ((a : Int) - pc)) 3 && Nat.beq len 3
    | .if_icmp q _ => okD cc pc (.if_icmp q ((a : Int) - pc)) 3 && Nat.beq len 3
    | .ifnull _ => okD cc pc (.ifnull ((a : Int) - pc)) 3 && Nat.beq len 3
    | .ifnonnull _ => okD cc pc (.ifnonnull ((a : Int) - pc)) 3 && Nat.beq len 3
    | .tableswitch _ _ _ _ => match brs with
      | [] => false
      | q :: l => consec q.1.toInt (q :: l) && decide (q.1.toInt + l.length < 1000) && decide (-1000 < q.1.toInt) && okD cc pc (.tableswitch ((a : Int) - pc) q.1.toInt (q.1.toInt + l.length) ((q :: l).map (fun z => (z.2 : Int) - pc)).toArray) len
    | .getfield _ => okD cc pc (.getfield d) 3 && Nat.beq len 3 && (flE own d a b || (Nat.beq a 31 && Nat.beq b 0 && slE own d 100) || (Nat.beq a 31 && Nat.beq b 1 && slE own d 101))
    | .putfield _ => okD cc pc (.putfield d) 3 && Nat.beq len 3 && flE own d a b
    | .getstatic _ => okD cc pc (.getstatic d) 3 && Nat.beq len 3 && slE own d a && (Nat.beq a 0 || Nat.beq a 32 || Nat.beq a 34)
    | .ldc _ => okD cc pc (.ldc b) 2 && Nat.beq len 2 && ksE own b a
    | .invokevirtual _ => Nat.beq len 3 && ((okD cc pc (.invokevirtual d) 3 && mlE own d 0 b a) || (okD cc pc (.invokestatic d) 3 && (mlE own d 1 b a || mlE own d 4 b a)) || (okD cc pc (.invokespecial d) 3 && (mlE own d 2 b a || mlE own d 5 b a)))
    | .dneg => okD cc pc (.invokestatic d) 3 && Nat.beq len 3 && blE own d 0
    | .dadd => okD cc pc (.invokestatic d) 3 && Nat.beq len 3 && blE own d 1
    | .dsub => okD cc pc (.invokestatic d) 3 && Nat.beq len 3 && blE own d 2
    | .dmul => okD cc pc (.invokestatic d) 3 && Nat.beq len 3 && blE own d 3
    | .nop => okD cc pc (.invokespecial d) 3 && Nat.beq len 3 && blE own d 4
    | .new _ => okD cc pc (.new d) 3 && Nat.beq len 3 && nlE own d (cn a)
    | .newarray t => okD cc pc (.newarray t) 2 && Nat.beq len 2 && ((decide (t = .int) && isIA a) || (decide (t = .long) && isLA a))
    | .anewarray _ => okD cc pc (.anewarray d) 3 && Nat.beq len 3 && nlE own d (arrOf a)
    | .multianewarray _ _ => okD cc pc (.multianewarray d 2) 4 && Nat.beq len 4 && nlE own d (arrOf a)
    | .iadd | .isub | .imul | .idiv | .irem | .ineg | .iand | .ior | .ishl | .ishr | .iushr | .ladd | .land | .lor | .lshl | .lcmp | .i2l | .l2i | .i2b | .i2s | .i2c | .dup | .pop | .dup_x1 | .dup2 | .iaload | .baload | .laload | .aaload | .iastore | .lastore | .aastore | .arraylength | .ireturn | .lreturn | .areturn | .return_ => okD cc pc i 1 && Nat.beq len 1
    | _ => false
def okT (own : Nat) (cc : ByteArray) (t : List (List (Nat × XE))) : Bool := t.all (fun l => l.all (fun q => okE own cc q.1 q.2))
end
section
/-! THE HEAP HOLDS THE MEMORY: the relation between the machine's heap and the abstract memory -/
theorem posOK_mem {i : Nat} {w : Cond} (h : posOK i w = true) : w ∈ WSg := by
  unfold posOK at h
  simp only [Bool.and_eq_true, decide_eq_true_eq] at h
  exact List.mem_filter.mpr ⟨List.mem_of_getElem? h.1, h.2⟩
theorem mix_mem {j : Nat} (hj : j < 245) : MIx j ∈ MIt := by
  have h : j < MIt.length := by rw [MIt_len]; exact hj
  have e : MIx j = MIt[j] := by
    show MIt.getD j _ = _
    rw [List.getD_eq_getElem?_getD, List.getElem?_eq_getElem h]
    rfl
  rw [e]
  exact List.getElem_mem h
theorem codeW_in {j : Nat} (hj : j < 245) : Cond.code (yM j) (cM j) (mlM j) (rtM j) ∈ WSg := MIt_ok _ (mix_mem hj)
theorem miD_of {j : Nat} (hj : j < 245) : (yM j).cls = cn (owM j) ∧ mlM j ≤ 40 ∧ plainName (yM j).cls = true ∧ (yM j).cls ≠ "java/lang/invoke/MethodHandle" ∧ (yM j).cls ≠ "java/lang/invoke/VarHandle" := by
  have h := List.all_eq_true.mp MIt_d _ (mix_mem hj)
  unfold miD at h
  simp only [Bool.and_eq_true, decide_eq_true_eq] at h
  exact ⟨h.1.1.1.1, h.1.1.1.2, h.1.1.2, h.1.2, h.2⟩
theorem wsg_good {w : Cond} (h : w ∈ WSg) : (w.onTables && w.keeps) = true ∨ ∃ ty, w = .arrayClass ty := good_of_word (List.mem_filter.mp h).2
theorem wM_in {j : Nat} (hj : j < 245) : GoodIn WSg (wM j) := by
  intro w hw
  have hm : w ∈ WSg := by
    rcases List.mem_cons.mp hw with e | h
    · rw [e]; exact codeW_in hj
    · exact h
  exact ⟨hm, wsg_good hm⟩
def isW (c : Nat) : Bool := Nat.blt c 8 || isIA c || isLA c || isRA c
def roV (q : Nat × Nat) : Prop := (30 ≤ q.1 ∧ q.1 ≤ 31 ∧ q.2 < 12) ∨ (32 ≤ q.1 ∧ q.1 ≤ 34 ∧ q.2 = 0)
theorem isW_cases {c : Nat} (h : isW c = true) : c < 30 ∨ 40 ≤ c := by
  simp only [isW, isIA, isLA, isRA, Bool.or_eq_true, Bool.and_eq_true, Nat.blt_eq, Nat.ble_eq, Nat.beq_eq] at h
  omega
def tyIx (t : Nat) : Nat := if isIA t then 0 else if isLA t then 1 else if t = 22 then 2 else if t = 23 then 3 else if t = 24 then 4 else 5
def tysL (cA : Nat → ClassId) : List (ClassId × FieldType) := [(cA 0, .int), (cA 1, .long), (cA 2, .object RX0), (cA 3, .object RX1), (cA 4, .object RX4), (cA 5, .array .int)]
def adq (ad : Nat → Nat → Nat) (q : Nat × Nat) : Nat := ad q.1 q.2
def fV (ad : Nat → Nat → Nat) (m : Mem) (c i k : Nat) : Value := if sk c k = 4 then va_rf ((m.1.2.2.1 c i k).map (adq ad)) else .int (m.2.1 c i k)
def fsL (ad : Nat → Nat → Nat) (m : Mem) (c i : Nat) : List Value := (List.range (NF c)).map (fV ad m c i)
def ent (cA : Nat → ClassId) (ad : Nat → Nat → Nat) (m : Mem) (c i : Nat) : va_E :=
  if c < 8 then .inr (c, fsL ad m c i)
  else if isIA c then .inl (cA 0, m.1.2.1 c i, .inl (m.2.1 c i))
  else if isLA c then .inl (cA 1, m.1.2.1 c i, .inr (.inl (m.2.2 c i)))
  else .inl (cA (tyIx c), m.1.2.1 c i, .inr (.inr (.inr (.inr (fun j => (m.1.2.2.1 c i j).map (adq ad))))))
def wl (cA : Nat → ClassId) (ad : Nat → Nat → Nat) (m : Mem) (dir : List (Nat × Nat)) : va_W := dir.map (fun q => (ad q.1 q.2, ent cA ad m q.1 q.2))
def slen (i : Nat) : Nat := [5, 6, 6, 7, 4, 3, 6, 6, 5, 7, 4, 3].getD i 0
def sbyL : List (List Int32) := [[99, 101, 108, 108, 115], [119, 97, 108, 107, 101, 114], [98, 111, 116, 116, 108, 101], [99, 117, 114, 114, 101, 110, 116], [119, 105, 110, 100], [100, 97, 121], [119, 97, 108, 107, 101, 114], [98, 111, 116, 116, 108, 101], [99, 101, 108, 108, 115], [99, 117, 114, 114, 101, 110, 116], [119, 105, 110, 100], [100, 97, 121]]
def sby (i j : Nat) : Int32 := (sbyL.getD i []).getD j 0
def kaF (j : Nat) : Int32 := [-1, 0, 0, 1, 2, 0].getD j 0
/-- what is only read, in the memory -/
def ROm (nS : Nat) (xs : Nat → Int32) (m : Mem) : Prop :=
  (∀ i, i < 12 → m.1.2.1 30 i = slen i ∧ (∀ j, m.2.1 30 i j = sby i j) ∧ m.2.1 31 i 1 = 0 ∧ m.1.2.2.1 31 i 0 = some (30, i)) ∧ m.1.2.1 32 0 = 6 ∧ (∀ j, m.2.1 32 0 j = kaF j) ∧ m.1.2.1 33 0 = nS ∧ ∀ j, m.2.1 33 0 j = xs j
/-- what is only read, in the machine -/
def SFp (D : va_G) (cA : Nat → ClassId) (ov : Value) (aR : Nat → Nat → Nat) (B nS : Nat) (xs : Nat → Int32) (U : State) : Prop :=
  va_K D vwCl (tysL cA) U ∧ (∀ e ∈ NNt, va_Nw (.methodLinkNest (cn e.1) e.2.1 (yM e.2.2.1) RX6) U) ∧ (va_AO RX0 U ∧ va_AO RX1 U ∧ va_AO RX4 U ∧ va_AOA .int U) ∧
  va_Z "AddressedToYou" "KIND_ABOVE" "[I" (.ref (aR 32 0)) (fun q => B ≤ q) U U.heap ∧ va_Z "java/lang/String" "COMPACT_STRINGS" "Z" (.int 1) (fun q => B ≤ q) U U.heap ∧ va_Z "jdk/internal/util/Preconditions" "SIOOBE_FORMATTER" "Ljava/util/function/BiFunction;" ov (fun q => B ≤ q) U U.heap ∧
  va_T .int (aR 32 0) 6 (fun j => .int (kaF j)) (fun q => B ≤ q) U U.heap ∧ va_T .int (aR 33 0) nS (fun j => .int (xs j)) (fun q => B ≤ q) U U.heap ∧
  (∀ i, i < 12 → va_O "java/lang/String" (aR 31 i) (fun q => B ≤ q) U U.heap ∧ va_OF "java/lang/String" "coder" "B" (.int 0) (aR 31 i) (fun q => B ≤ q) U U.heap ∧ va_OF "java/lang/String" "value" "[B" (.ref (aR 30 i)) (aR 31 i) (fun q => B ≤ q) U U.heap ∧ va_T .byte (aR 30 i) (slen i) (fun j => .int (sby i j)) (fun q => B ≤ q) U U.heap) ∧
  (∀ i e, KSt[i]? = some e → vk_R (cn e.1) e.2.1 e.2.2.1 (aR 31 i) U) ∧ (ov = .null ∨ ∃ a, ov = .ref a)
theorem va_AOA.moved {ty : FieldType} {s U : State} (hv : s.vm.Alike U.vm) (h : va_AOA ty s) : va_AOA ty U := by
  have h1 : (Cond.arrayOver (.array ty)).before #[] (s.setVm U.vm) = true := by rw [Cond.arrayOver_setVmC hv]; exact h
  exact h1
theorem SFp.go {D : va_G} {cA : Nat → ClassId} {ov : Value} {aR : Nat → Nat → Nat} {B nS : Nat} {xs : Nat → Int32} {s U : State} (h : SFp D cA ov aR B nS xs s) (hW : s.WarmedH U.vm) (hq : ∀ a : Nat, a < s.heap.size → ¬ B ≤ a → U.heap[a]? = s.heap[a]?) : SFp D cA ov aR B nS xs U := by
  obtain ⟨h1, h2, ⟨h3, h4, h5, h6⟩, h7, h8, h9, h10, h11, h12, h13, h14⟩ := h
  have hv := hW.alike
  exact ⟨h1.moved hv, fun e he => va_Nw.warmM hW (h2 e he), ⟨h3.moved hv, h4.moved hv, h5.moved hv, h6.moved hv⟩, (h7.moved hv).kept hq, (h8.moved hv).kept hq, (h9.moved hv).kept hq, (h10.moved hv).kept hq, (h11.moved hv).kept hq,
    fun i hi => ⟨((h12 i hi).1.moved hv).kept hq, ((h12 i hi).2.1.moved hv).kept hq, ((h12 i hi).2.2.1.moved hv).kept hq, ((h12 i hi).2.2.2.moved hv).kept hq⟩, fun i e he => (h13 i e he).warm hW, h14⟩
theorem SFp.call {D : va_G} {cA : Nat → ClassId} {ov : Value} {aR : Nat → Nat → Nat} {B nS : Nat} {xs : Nat → Int32} {U : State} (h : SFp D cA ov aR B nS xs U) (a : Array Value) (g : JFrame) (mk : MethodId) : SFp D cA ov aR B nS xs (U.calling g mk a) := by
  obtain ⟨h1, h2, ⟨h3, h4, h5, h6⟩, h7, h8, h9, h10, h11, h12, h13, h14⟩ := h
  have hv : U.vm.Alike (U.calling g mk a).vm := Vm.Alike.refl U.vm
  have hq : ∀ q : Nat, q < U.heap.size → ¬ B ≤ q → (U.calling g mk a).heap[q]? = U.heap[q]? := fun _ _ _ => rfl
  exact ⟨h1.moved hv, fun e he => va_Nw.same rfl rfl (h2 e he), ⟨h3.moved hv, h4.moved hv, h5.moved hv, h6.moved hv⟩, (h7.moved hv).kept hq, (h8.moved hv).kept hq, (h9.moved hv).kept hq, (h10.moved hv).kept hq, (h11.moved hv).kept hq,
    fun i hi => ⟨((h12 i hi).1.moved hv).kept hq, ((h12 i hi).2.1.moved hv).kept hq, ((h12 i hi).2.2.1.moved hv).kept hq, ((h12 i hi).2.2.2.moved hv).kept hq⟩, fun i e he => (h13 i e he).same rfl, h14⟩
/-- the heap holds the memory: the cells are those of the directory -/
def Rep (D : va_G) (cA : Nat → ClassId) (ad : Nat → Nat → Nat) (dir : List (Nat × Nat)) (B : Nat) (m : Mem) (H : Heap) : Prop :=
  va_P D vwCl (wl cA ad m dir) H ∧ va_D (fun q => B ≤ q) (wl cA ad m dir) ∧ (∀ q ∈ dir, isW q.1 = true) ∧ (∀ c i, isW c = true → i < m.1.1 c → (c, i) ∈ dir) ∧ (∀ c i, (c, i) ∈ dir → i < m.1.1 c) ∧ (∀ c i k q, (c, i) ∈ dir → m.1.2.2.1 c i k = some q → q ∈ dir)
def cv (ad : Nat → Nat → Nat) (ov : Value) (v : AV) : Value := match v with
  | .inl (.inl x) => .int x
  | .inl (.inr x) => .long x
  | .inr none => .null
  | .inr (some q) => if q.1 = 34 then ov else .ref (ad q.1 q.2)
def vok (dir : List (Nat × Nat)) (v : AV) : Prop := match v with
  | .inr (some q) => q ∈ dir ∨ roV q
  | _ => True
def LR (ad : Nat → Nat → Nat) (ov : Value) (ls : Array Slot) (nL : Nat) (L : LV) : Prop := ls.size = nL ∧ lv_wf ls ∧ L.length = nL ∧ ∀ i v, gL L i = some v → ls[i]? = some (.val (cv ad ov v))
def Ext (dir dir' : List (Nat × Nat)) (ad ad' : Nat → Nat → Nat) : Prop := (∀ q ∈ dir, q ∈ dir' ∧ ad' q.1 q.2 = ad q.1 q.2) ∧ ∀ c i, 30 ≤ c → c ≤ 34 → ad' c i = ad c i
theorem Ext.rf {dir : List (Nat × Nat)} {ad : Nat → Nat → Nat} : Ext dir dir ad ad := ⟨fun _ h => ⟨h, rfl⟩, fun _ _ _ _ => rfl⟩
theorem Ext.trans {d1 d2 d3 : List (Nat × Nat)} {a1 a2 a3 : Nat → Nat → Nat} (h : Ext d1 d2 a1 a2) (g : Ext d2 d3 a2 a3) : Ext d1 d3 a1 a3 :=
  ⟨fun q hq => ⟨(g.1 q (h.1 q hq).1).1, ((g.1 q (h.1 q hq).1).2).trans (h.1 q hq).2⟩, fun c i u v => (g.2 c i u v).trans (h.2 c i u v)⟩
theorem roV.rng {q : Nat × Nat} (h : roV q) : 30 ≤ q.1 ∧ q.1 ≤ 34 := by
  rcases h with h | h <;> omega
theorem vok.ext {dir dir' : List (Nat × Nat)} {ad ad' : Nat → Nat → Nat} (E : Ext dir dir' ad ad') {v : AV} (h : vok dir v) : vok dir' v := by
  rcases v with (x | x) | (_ | q)
  · trivial
  · trivial
  · trivial
  · rcases h with h | h
    · exact Or.inl (E.1 q h).1
    · exact Or.inr h
theorem cv_ext {dir dir' : List (Nat × Nat)} {ad ad' : Nat → Nat → Nat} (E : Ext dir dir' ad ad') {v : AV} (h : vok dir v) (ov : Value) : cv ad' ov v = cv ad ov v := by
  rcases v with (x | x) | (_ | q)
  · rfl
  · rfl
  · rfl
  · show (if q.1 = 34 then ov else Value.ref (ad' q.1 q.2)) = (if q.1 = 34 then ov else Value.ref (ad q.1 q.2))
    rcases h with h | h
    · rw [(E.1 q h).2]
    · rw [E.2 _ _ h.rng.1 h.rng.2]
theorem cv_exts {dir dir' : List (Nat × Nat)} {ad ad' : Nat → Nat → Nat} (E : Ext dir dir' ad ad') {S : List AV} (h : ∀ v ∈ S, vok dir v) (ov : Value) : S.map (cv ad' ov) = S.map (cv ad ov) :=
  List.map_congr_left fun v hv => cv_ext E (h v hv) ov
theorem cv_cat {ad : Nat → Nat → Nat} {ov : Value} (ho : ov = .null ∨ ∃ a, ov = .ref a) (v : AV) : (cv ad ov v).category = cat v := by
  rcases v with (x | x) | (_ | q)
  · rfl
  · rfl
  · rfl
  · show (if q.1 = 34 then ov else Value.ref (ad q.1 q.2)).category = 1
    split
    · rcases ho with rfl | ⟨a, rfl⟩ <;> rfl
    · rfl
theorem LR.ext {dir dir' : List (Nat × Nat)} {ad ad' : Nat → Nat → Nat} (E : Ext dir dir' ad ad') {ov : Value} {ls : Array Slot} {nL : Nat} {L : LV} (hv : ∀ i v, gL L i = some v → vok dir v) (h : LR ad ov ls nL L) : LR ad' ov ls nL L :=
  ⟨h.1, h.2.1, h.2.2.1, fun i v e => by rw [cv_ext E (hv i v e)]; exact h.2.2.2 i v e⟩
theorem inB_in {i : Int32} {n : Nat} (h : inB i n = true) : vp_in i n := by
  unfold inB at h
  simp only [Bool.and_eq_true, decide_eq_true_eq] at h
  intro g
  rcases g with g | g
  · exact absurd h.1 (Int32.not_le.mpr g)
  · omega
theorem gL_sL (L : LV) (i : Nat) (v : Option AV) (j : Nat) : gL (sL L i v) j = if j = i ∧ i < L.length then v else gL L j := by
  induction L generalizing i j with
  | nil => simp [sL, gL]
  | cons x l ih =>
    cases i with
    | zero => cases j with
      | zero => simp [sL, gL]
      | succ j => simp [sL, gL]
    | succ i => cases j with
      | zero => simp [sL, gL]
      | succ j => simp [sL, gL, ih]
theorem sL_len (L : LV) (i : Nat) (v : Option AV) : (sL L i v).length = L.length := by
  induction L generalizing i with
  | nil => simp [sL]
  | cons x l ih => cases i with
    | zero => simp [sL]
    | succ i => simp [sL, ih]
theorem st1_len (L : LV) (i : Nat) (v : AV) : (st1 L i v).length = L.length := by
  unfold st1
  cases i with
  | zero => simp [sL_len]
  | succ j =>
    dsimp only
    split <;> simp [sL_len]
theorem gL_lt {L : LV} {i : Nat} {v : AV} (h : gL L i = some v) : i < L.length := by
  induction L generalizing i with
  | nil => simp [gL] at h
  | cons x l ih => cases i with
    | zero => simp
    | succ i => simp [gL] at h; simpa using ih h
theorem st1_get {L : LV} {i : Nat} {v : AV} (hi : i < L.length) {j : Nat} {x : AV} (h : gL (st1 L i v) j = some x) : (j = i ∧ x = v) ∨ (j ≠ i ∧ gL L j = some x ∧ ¬ (j + 1 = i ∧ cat x = 2)) := by
  unfold st1 at h
  cases i with
  | zero =>
    rw [gL_sL] at h
    by_cases e : j = 0
    · subst e; rw [if_pos ⟨rfl, hi⟩] at h; exact Or.inl ⟨rfl, (Option.some.inj h).symm⟩
    · rw [if_neg (fun q => e q.1)] at h; exact Or.inr ⟨e, h, fun q => by omega⟩
  | succ i =>
    dsimp only at h
    split at h
    · rename_i y hy
      rw [gL_sL, sL_len] at h
      by_cases e : j = i + 1
      · rw [if_pos ⟨e, hi⟩] at h; exact Or.inl ⟨e, (Option.some.inj h).symm⟩
      · rw [if_neg (fun q => e q.1), gL_sL] at h
        by_cases e2 : j = i
        · rw [if_pos ⟨e2, by omega⟩] at h; cases h
        · rw [if_neg (fun q => e2 q.1)] at h; exact Or.inr ⟨e, h, fun q => e2 (by omega)⟩
    · rename_i hn
      rw [gL_sL] at h
      by_cases e : j = i + 1
      · rw [if_pos ⟨e, hi⟩] at h; exact Or.inl ⟨e, (Option.some.inj h).symm⟩
      · rw [if_neg (fun q => e q.1)] at h
        refine Or.inr ⟨e, h, fun q => ?_⟩
        have e2 : j = i := by omega
        subst e2
        rcases x with (x | x) | x
        · exact absurd q.2 (by simp [cat])
        · exact hn x h
        · exact absurd q.2 (by simp [cat])
/-- the listed locals -/
def lvOf (ad : Nat → Nat → Nat) (ov : Value) (L : LV) : List (Nat × Value) := (List.range L.length).filterMap (fun i => (gL L i).map (fun v => (i, cv ad ov v)))
theorem lvOf_mem {ad : Nat → Nat → Nat} {ov : Value} {L : LV} {i : Nat} {v : AV} (h : gL L i = some v) : (i, cv ad ov v) ∈ lvOf ad ov L :=
  List.mem_filterMap.mpr ⟨i, List.mem_range.mpr (gL_lt h), by rw [h]; rfl⟩
theorem LR.has {ad : Nat → Nat → Nat} {ov : Value} {ls : Array Slot} {nL : Nat} {L : LV} (h : LR ad ov ls nL L) : lv_has ls nL (lvOf ad ov L) := by
  refine ⟨h.1, h.2.1, fun q hq => ?_⟩
  obtain ⟨i, -, hi⟩ := List.mem_filterMap.mp hq
  cases hg : gL L i with
  | none => rw [hg] at hi; cases hi
  | some v =>
    rw [hg] at hi
    cases hi
    exact h.2.2.2 i v hg
theorem LR.store {ad : Nat → Nat → Nat} {ov : Value} (ho : ov = .null ∨ ∃ a, ov = .ref a) {ls ls' : Array Slot} {nL : Nat} {L : LV} (h : LR ad ov ls nL L) {i : Nat} (hi : i < nL) {v : AV}
    (h' : lv_has ls' nL ((i, cv ad ov v) :: (lvOf ad ov L).filter (fun q => !(q.1 == i) && !(q.1 + 1 == i && q.2.category == 2)))) : LR ad ov ls' nL (st1 L i v) := by
  refine ⟨h'.1, h'.2.1, by rw [st1_len]; exact h.2.2.1, fun j x hx => ?_⟩
  rcases st1_get (by rw [h.2.2.1]; exact hi) hx with ⟨rfl, rfl⟩ | ⟨h1, h2, h3⟩
  · exact h'.2.2 _ List.mem_cons_self
  · refine h'.2.2 (j, cv ad ov x) (List.mem_cons_of_mem _ (List.mem_filter.mpr ⟨lvOf_mem h2, ?_⟩))
    have e1 : (j == i) = false := by simpa using h1
    have e2 : (j + 1 == i && (cv ad ov x).category == 2) = false := by
      rw [cv_cat ho]
      by_cases a1 : j + 1 = i
      · have : ¬ cat x = 2 := fun a2 => h3 ⟨a1, a2⟩
        simp [this]
      · simp [a1]
    show (!(j == i) && !(j + 1 == i && (cv ad ov x).category == 2)) = true
    rw [e1, e2]
    rfl
theorem LR.store2 {ad : Nat → Nat → Nat} {ov : Value} (ho : ov = .null ∨ ∃ a, ov = .ref a) {ls ls' : Array Slot} {nL : Nat} {L : LV} (h : LR ad ov ls nL L) {i : Nat} (hi : i + 1 < nL) {v : AV}
    (h' : lv_has ls' nL ((i, cv ad ov v) :: (lvOf ad ov L).filter (fun q => !(q.1 == i) && (!(q.1 == i + 1) && !(q.1 + 1 == i && q.2.category == 2))))) : LR ad ov ls' nL (st2 L i v) := by
  refine ⟨h'.1, h'.2.1, by unfold st2; rw [sL_len, st1_len]; exact h.2.2.1, fun j x hx => ?_⟩
  unfold st2 at hx
  rw [gL_sL] at hx
  by_cases e : j = i + 1
  · rw [if_pos ⟨e, by rw [st1_len, h.2.2.1]; exact hi⟩] at hx; cases hx
  · rw [if_neg (fun q => e q.1)] at hx
    rcases st1_get (by rw [h.2.2.1]; omega) hx with ⟨rfl, rfl⟩ | ⟨h1, h2, h3⟩
    · exact h'.2.2 _ List.mem_cons_self
    · refine h'.2.2 (j, cv ad ov x) (List.mem_cons_of_mem _ (List.mem_filter.mpr ⟨lvOf_mem h2, ?_⟩))
      have e1 : (j == i) = false := by simpa using h1
      have e2 : (j + 1 == i && (cv ad ov x).category == 2) = false := by
        rw [cv_cat ho]
        by_cases a1 : j + 1 = i
        · have : ¬ cat x = 2 := fun a2 => h3 ⟨a1, a2⟩
          simp [this]
        · simp [a1]
      have e3 : (j == i + 1) = false := by simpa using e
      show (!(j == i) && (!(j == i + 1) && !(j + 1 == i && (cv ad ov x).category == 2))) = true
      rw [e1, e2, e3]
      rfl
/-- places in the directory -/
theorem wl_at {cA : Nat → ClassId} {ad : Nat → Nat → Nat} {m : Mem} {dir : List (Nat × Nat)} {c i : Nat} (h : (c, i) ∈ dir) : ∃ q0 : Nat, dir[q0]? = some (c, i) ∧ (wl cA ad m dir)[q0]? = some (ad c i, ent cA ad m c i) := by
  obtain ⟨q0, hq⟩ := List.mem_iff_getElem?.mp h
  exact ⟨q0, hq, by unfold wl; rw [List.getElem?_map, hq]; rfl⟩
theorem wl_inj {cA : Nat → ClassId} {ad : Nat → Nat → Nat} {m : Mem} {dir : List (Nat × Nat)} {A : Nat → Prop} (hD : va_D A (wl cA ad m dir)) {j k : Nat} {p q : Nat × Nat} (hj : dir[j]? = some p) (hk : dir[k]? = some q) (e : ad p.1 p.2 = ad q.1 q.2) : j = k := by
  refine hD.1 j k (ad p.1 p.2, ent cA ad m p.1 p.2) (ad q.1 q.2, ent cA ad m q.1 q.2) ?_ ?_ e
  · unfold wl; rw [List.getElem?_map, hj]; rfl
  · unfold wl; rw [List.getElem?_map, hk]; rfl
theorem wl_set {cA : Nat → ClassId} {ad : Nat → Nat → Nat} {m m' : Mem} {dir : List (Nat × Nat)} {A : Nat → Prop} (hD : va_D A (wl cA ad m dir)) {q0 c i : Nat} (hq : dir[q0]? = some (c, i)) {e : va_E} (h1 : ent cA ad m' c i = e) (h2 : ∀ q ∈ dir, q ≠ (c, i) → ent cA ad m' q.1 q.2 = ent cA ad m q.1 q.2) :
    (wl cA ad m dir).set q0 (ad c i, e) = wl cA ad m' dir := by
  apply List.ext_getElem?
  intro k
  rw [List.getElem?_set]
  by_cases hk : q0 = k
  · subst hk
    have hl : q0 < (wl cA ad m dir).length := by unfold wl; rw [List.length_map]; exact (List.getElem?_eq_some_iff.mp hq).1
    rw [if_pos rfl, if_pos hl]
    unfold wl
    rw [List.getElem?_map, hq]
    simp only [Option.map_some]
    rw [h1]
  · rw [if_neg hk]
    unfold wl
    rw [List.getElem?_map, List.getElem?_map]
    cases hd : dir[k]? with
    | none => rfl
    | some q =>
      have hne : q ≠ (c, i) := fun e2 => hk (wl_inj hD hq (by rw [← e2]; exact hd) rfl)
      simp only [Option.map_some]
      rw [h2 q (List.mem_of_getElem? hd) hne]
end
section
/-! ONE INSTRUCTION: where the abstract machine goes on, the machine goes on -/
section STP
variable {p : Program} {l : Launch} {e : Env} {R : Room} {s : State} {m : MethodId} {args : Array Value} {below : List Frame} {meth : Method} {c : Code} {Q : State → Prop}
variable {D : va_G} {cA : Nat → ClassId} {ov : Value} {aR0 : Nat → Nat → Nat} {B nS : Nat} {xs : Nat → Int32} {cc : ByteArray} {nL own a0 b0 : Nat}
variable {al : Bool} {cs : CS} {pc : Nat} {L : LV} {S : List AV} {M : Mem} {k : Nat → LV → List AV → Mem → Option Out} {out : Out}
variable {dir : List (Nat × Nat)} {ad : Nat → Nat → Nat} {H : Heap} {locs : List Loc} {ls : Array Slot} {len a b d : Nat} {v : Int32} {w : Int64} {brs : List (Int32 × Nat)}
/-- what stands while a method runs -/
def Cx (p : Program) (s : State) (m : MethodId) (args : Array Value) (c : Code) (cc : ByteArray) (nL own : Nat) (D : va_G) (cA : Nat → ClassId) (ov : Value) (aR0 : Nat → Nat → Nat) (B nS : Nat) (xs : Nat → Int32) : Prop :=
  p.tables.exec = Jvm.exec ∧ c.code = cc ∧ c.maxLocals = nL ∧ s.vm.findClass (cn own) = some m.cls ∧ (∀ w ∈ WSg, w.before args s = true) ∧ SFp D cA ov aR0 B nS xs s ∧ B ≤ s.heap.size
/-- what holds between two instructions -/
def Inv (s : State) (nL : Nat) (D : va_G) (cA : Nat → ClassId) (ov : Value) (aR0 : Nat → Nat → Nat) (B nS : Nat) (xs : Nat → Int32) (a0 b0 : Nat) (dir : List (Nat × Nat)) (ad : Nat → Nat → Nat) (M : Mem) (H : Heap) (locs : List Loc) (ls : Array Slot) (L : LV) (S : List AV) : Prop :=
  Rep D cA ad dir B M H ∧ ROm nS xs M ∧ va_S (fun q => B ≤ q) s.heap H locs ∧ LR ad ov ls nL L ∧ (∀ v ∈ S, vok dir v) ∧ (∀ i v, gL L i = some v → vok dir v) ∧ (∀ c i, 30 ≤ c → c ≤ 34 → ad c i = aR0 c i) ∧ a0 ≤ M.1.2.2.2.1 ∧ b0 ≤ M.1.2.2.2.2
/-- how the memory may go on: it grows; where nothing is made, what is static stays -/
def Rel (al : Bool) (M M' : Mem) : Prop := M.1.2.2.2.1 ≤ M'.1.2.2.2.1 ∧ M.1.2.2.2.2 ≤ M'.1.2.2.2.2 ∧ (al = false → M'.1 = M.1)
theorem Rel.of {al : Bool} {M M' : Mem} (h : M'.1 = M.1) : Rel al M M' := ⟨by rw [h]; exact Nat.le_refl _, by rw [h]; exact Nat.le_refl _, fun _ => h⟩
theorem Rel.mk2 {al : Bool} {M M' : Mem} (h : al = true) (h1 : M.1.2.2.2.1 ≤ M'.1.2.2.2.1) (h2 : M.1.2.2.2.2 ≤ M'.1.2.2.2.2) : Rel al M M' := ⟨h1, h2, fun e => by rw [h] at e; cases e⟩
/-- what comes behind goes on -/
def KK (p : Program) (l : Launch) (e : Env) (R : Room) (s : State) (m : MethodId) (args : Array Value) (below : List Frame) (meth : Method) (c : Code) (Q : State → Prop) (nL : Nat) (D : va_G) (cA : Nat → ClassId) (ov : Value) (aR0 : Nat → Nat → Nat) (B nS : Nat) (xs : Nat → Int32) (a0 b0 : Nat) (dir : List (Nat × Nat)) (ad : Nat → Nat → Nat) (al : Bool) (M : Mem) (k : Nat → LV → List AV → Mem → Option Out) (out : Out) : Prop :=
  ∀ pc' L' S' M', k pc' L' S' M' = some out → Rel al M M' → ∀ dir' ad' H' locs' ls', Ext dir dir' ad ad' → Inv s nL D cA ov aR0 B nS xs a0 b0 dir' ad' M' H' locs' ls' L' S' → W p l e R s m args below meth c H' locs' (M'.1.2.2.2.1 - a0) (M'.1.2.2.2.2 - b0) Q (F0 m pc' ls' (S'.map (cv ad' ov)))
def nOK (own nL : Nat) (xe : XE) : Bool := match xe with
  | (i, _, (a, b, _), _) => match i with
    | .putfield _ => !(Nat.beq (sk a b) 4) || Nat.beq own a
    | .istore _ => Nat.blt a nL
    | .astore _ => Nat.blt a nL
    | .lstore _ => Nat.blt (a + 1) nL
    | _ => true
def okF (own nL : Nat) (cc : ByteArray) (pc : Nat) (xe : XE) : Bool := nOK own nL xe && okE own cc pc xe
theorem ons {out : Out} (h : (none : Option Out) = some out) {P : Prop} : P := by cases h
theorem vS1 {dir : List (Nat × Nat)} {S : List AV} {v : AV} (hv : vok dir v) (h : ∀ x ∈ S, vok dir x) : ∀ x ∈ v :: S, vok dir x := fun x hx => by
  rcases List.mem_cons.mp hx with e | h2
  · rw [e]; exact hv
  · exact h x h2
theorem vT1 {dir : List (Nat × Nat)} {S : List AV} {v : AV} (h : ∀ x ∈ v :: S, vok dir x) : ∀ x ∈ S, vok dir x := fun x hx => h x (List.mem_cons_of_mem _ hx)
theorem vH1 {dir : List (Nat × Nat)} {S : List AV} {v : AV} (h : ∀ x ∈ v :: S, vok dir x) : vok dir v := h v List.mem_cons_self

theorem cv_ref {ad : Nat → Nat → Nat} {ov : Value} (ho : ov = .null ∨ ∃ q, ov = .ref q) (x : Option (Nat × Nat)) : cv ad ov (.inr x) = .null ∨ ∃ q, cv ad ov (.inr x) = .ref q := by
  rcases x with _ | q
  · exact Or.inl rfl
  · show (if q.1 = 34 then ov else Value.ref (ad q.1 q.2)) = .null ∨ ∃ z, (if q.1 = 34 then ov else Value.ref (ad q.1 q.2)) = .ref z
    split
    · exact ho
    · exact Or.inr ⟨_, rfl⟩

set_option maxHeartbeats 1000000 in
theorem s_iadd (C : Cx p s m args c cc nL own D cA ov aR0 B nS xs) (I : Inv s nL D cA ov aR0 B nS xs a0 b0 dir ad M H locs ls L S) (K : KK p l e R s m args below meth c Q nL D cA ov aR0 B nS xs a0 b0 dir ad al M k out)
    (hok : okF own nL cc pc (.iadd, len, (a, b, d), v, w, brs) = true) (h : astep al cs (.iadd, len, (a, b, d), v, w, brs) pc L S M k = some out) : W p l e R s m args below meth c H locs (M.1.2.2.2.1 - a0) (M.1.2.2.2.2 - b0) Q (F0 m pc ls (S.map (cv ad ov))) := by
  obtain ⟨hx, hb, hml, hown, hts, hSF, hB⟩ := C
  obtain ⟨hR, hRO, hS, hL, hvS, hvL, hro, hac, has⟩ := I
  obtain ⟨hd, rfl⟩ : decode cc pc = .ok (.iadd, 1) ∧ len = 1 := by simpa [okF, nOK, okE, okD] using hok
  rcases S with _ | ⟨(y | y) | y, _ | ⟨(x | x) | x, S⟩⟩ <;> try exact ons h
  exact lv_iadd hx hb hd (K _ _ _ _ h (Rel.of rfl) dir ad H locs ls Ext.rf ⟨hR, hRO, hS, hL, vS1 trivial (vT1 (vT1 hvS)), hvL, hro, hac, has⟩)

set_option maxHeartbeats 1000000 in
theorem s_isub (C : Cx p s m args c cc nL own D cA ov aR0 B nS xs) (I : Inv s nL D cA ov aR0 B nS xs a0 b0 dir ad M H locs ls L S) (K : KK p l e R s m args below meth c Q nL D cA ov aR0 B nS xs a0 b0 dir ad al M k out)
    (hok : okF own nL cc pc (.isub, len, (a, b, d), v, w, brs) = true) (h : astep al cs (.isub, len, (a, b, d), v, w, brs) pc L S M k = some out) : W p l e R s m args below meth c H locs (M.1.2.2.2.1 - a0) (M.1.2.2.2.2 - b0) Q (F0 m pc ls (S.map (cv ad ov))) := by
  obtain ⟨hx, hb, hml, hown, hts, hSF, hB⟩ := C
  obtain ⟨hR, hRO, hS, hL, hvS, hvL, hro, hac, has⟩ := I
  obtain ⟨hd, rfl⟩ : decode cc pc = .ok (.isub, 1) ∧ len = 1 := by simpa [okF, nOK, okE, okD] using hok
  rcases S with _ | ⟨(y | y) | y, _ | ⟨(x | x) | x, S⟩⟩ <;> try exact ons h
  exact lv_isub hx hb hd (K _ _ _ _ h (Rel.of rfl) dir ad H locs ls Ext.rf ⟨hR, hRO, hS, hL, vS1 trivial (vT1 (vT1 hvS)), hvL, hro, hac, has⟩)

set_option maxHeartbeats 1000000 in
theorem s_imul (C : Cx p s m args c cc nL own D cA ov aR0 B nS xs) (I : Inv s nL D cA ov aR0 B nS xs a0 b0 dir ad M H locs ls L S) (K : KK p l e R s m args below meth c Q nL D cA ov aR0 B nS xs a0 b0 dir ad al M k out)
    (hok : okF own nL cc pc (.imul, len, (a, b, d), v, w, brs) = true) (h : astep al cs (.imul, len, (a, b, d), v, w, brs) pc L S M k = some out) : W p l e R s m args below meth c H locs (M.1.2.2.2.1 - a0) (M.1.2.2.2.2 - b0) Q (F0 m pc ls (S.map (cv ad ov))) := by
  obtain ⟨hx, hb, hml, hown, hts, hSF, hB⟩ := C
  obtain ⟨hR, hRO, hS, hL, hvS, hvL, hro, hac, has⟩ := I
  obtain ⟨hd, rfl⟩ : decode cc pc = .ok (.imul, 1) ∧ len = 1 := by simpa [okF, nOK, okE, okD] using hok
  rcases S with _ | ⟨(y | y) | y, _ | ⟨(x | x) | x, S⟩⟩ <;> try exact ons h
  exact lv_imul hx hb hd (K _ _ _ _ h (Rel.of rfl) dir ad H locs ls Ext.rf ⟨hR, hRO, hS, hL, vS1 trivial (vT1 (vT1 hvS)), hvL, hro, hac, has⟩)

set_option maxHeartbeats 1000000 in
theorem s_iand (C : Cx p s m args c cc nL own D cA ov aR0 B nS xs) (I : Inv s nL D cA ov aR0 B nS xs a0 b0 dir ad M H locs ls L S) (K : KK p l e R s m args below meth c Q nL D cA ov aR0 B nS xs a0 b0 dir ad al M k out)
    (hok : okF own nL cc pc (.iand, len, (a, b, d), v, w, brs) = true) (h : astep al cs (.iand, len, (a, b, d), v, w, brs) pc L S M k = some out) : W p l e R s m args below meth c H locs (M.1.2.2.2.1 - a0) (M.1.2.2.2.2 - b0) Q (F0 m pc ls (S.map (cv ad ov))) := by
  obtain ⟨hx, hb, hml, hown, hts, hSF, hB⟩ := C
  obtain ⟨hR, hRO, hS, hL, hvS, hvL, hro, hac, has⟩ := I
  obtain ⟨hd, rfl⟩ : decode cc pc = .ok (.iand, 1) ∧ len = 1 := by simpa [okF, nOK, okE, okD] using hok
  rcases S with _ | ⟨(y | y) | y, _ | ⟨(x | x) | x, S⟩⟩ <;> try exact ons h
  exact lv_iand hx hb hd (K _ _ _ _ h (Rel.of rfl) dir ad H locs ls Ext.rf ⟨hR, hRO, hS, hL, vS1 trivial (vT1 (vT1 hvS)), hvL, hro, hac, has⟩)

set_option maxHeartbeats 1000000 in
theorem s_ior (C : Cx p s m args c cc nL own D cA ov aR0 B nS xs) (I : Inv s nL D cA ov aR0 B nS xs a0 b0 dir ad M H locs ls L S) (K : KK p l e R s m args below meth c Q nL D cA ov aR0 B nS xs a0 b0 dir ad al M k out)
    (hok : okF own nL cc pc (.ior, len, (a, b, d), v, w, brs) = true) (h : astep al cs (.ior, len, (a, b, d), v, w, brs) pc L S M k = some out) : W p l e R s m args below meth c H locs (M.1.2.2.2.1 - a0) (M.1.2.2.2.2 - b0) Q (F0 m pc ls (S.map (cv ad ov))) := by
  obtain ⟨hx, hb, hml, hown, hts, hSF, hB⟩ := C
  obtain ⟨hR, hRO, hS, hL, hvS, hvL, hro, hac, has⟩ := I
  obtain ⟨hd, rfl⟩ : decode cc pc = .ok (.ior, 1) ∧ len = 1 := by simpa [okF, nOK, okE, okD] using hok
  rcases S with _ | ⟨(y | y) | y, _ | ⟨(x | x) | x, S⟩⟩ <;> try exact ons h
  exact lv_ior hx hb hd (K _ _ _ _ h (Rel.of rfl) dir ad H locs ls Ext.rf ⟨hR, hRO, hS, hL, vS1 trivial (vT1 (vT1 hvS)), hvL, hro, hac, has⟩)

set_option maxHeartbeats 1000000 in
theorem s_ishl (C : Cx p s m args c cc nL own D cA ov aR0 B nS xs) (I : Inv s nL D cA ov aR0 B nS xs a0 b0 dir ad M H locs ls L S) (K : KK p l e R s m args below meth c Q nL D cA ov aR0 B nS xs a0 b0 dir ad al M k out)
    (hok : okF own nL cc pc (.ishl, len, (a, b, d), v, w, brs) = true) (h : astep al cs (.ishl, len, (a, b, d), v, w, brs) pc L S M k = some out) : W p l e R s m args below meth c H locs (M.1.2.2.2.1 - a0) (M.1.2.2.2.2 - b0) Q (F0 m pc ls (S.map (cv ad ov))) := by
  obtain ⟨hx, hb, hml, hown, hts, hSF, hB⟩ := C
  obtain ⟨hR, hRO, hS, hL, hvS, hvL, hro, hac, has⟩ := I
  obtain ⟨hd, rfl⟩ : decode cc pc = .ok (.ishl, 1) ∧ len = 1 := by simpa [okF, nOK, okE, okD] using hok
  rcases S with _ | ⟨(y | y) | y, _ | ⟨(x | x) | x, S⟩⟩ <;> try exact ons h
  exact lv_ishl hx hb hd (K _ _ _ _ h (Rel.of rfl) dir ad H locs ls Ext.rf ⟨hR, hRO, hS, hL, vS1 trivial (vT1 (vT1 hvS)), hvL, hro, hac, has⟩)

set_option maxHeartbeats 1000000 in
theorem s_ishr (C : Cx p s m args c cc nL own D cA ov aR0 B nS xs) (I : Inv s nL D cA ov aR0 B nS xs a0 b0 dir ad M H locs ls L S) (K : KK p l e R s m args below meth c Q nL D cA ov aR0 B nS xs a0 b0 dir ad al M k out)
    (hok : okF own nL cc pc (.ishr, len, (a, b, d), v, w, brs) = true) (h : astep al cs (.ishr, len, (a, b, d), v, w, brs) pc L S M k = some out) : W p l e R s m args below meth c H locs (M.1.2.2.2.1 - a0) (M.1.2.2.2.2 - b0) Q (F0 m pc ls (S.map (cv ad ov))) := by
  obtain ⟨hx, hb, hml, hown, hts, hSF, hB⟩ := C
  obtain ⟨hR, hRO, hS, hL, hvS, hvL, hro, hac, has⟩ := I
  obtain ⟨hd, rfl⟩ : decode cc pc = .ok (.ishr, 1) ∧ len = 1 := by simpa [okF, nOK, okE, okD] using hok
  rcases S with _ | ⟨(y | y) | y, _ | ⟨(x | x) | x, S⟩⟩ <;> try exact ons h
  exact lv_ishr hx hb hd (K _ _ _ _ h (Rel.of rfl) dir ad H locs ls Ext.rf ⟨hR, hRO, hS, hL, vS1 trivial (vT1 (vT1 hvS)), hvL, hro, hac, has⟩)

set_option maxHeartbeats 1000000 in
theorem s_iushr (C : Cx p s m args c cc nL own D cA ov aR0 B nS xs) (I : Inv s nL D cA ov aR0 B nS xs a0 b0 dir ad M H locs ls L S) (K : KK p l e R s m args below meth c Q nL D cA ov aR0 B nS xs a0 b0 dir ad al M k out)
    (hok : okF own nL cc pc (.iushr, len, (a, b, d), v, w, brs) = true) (h : astep al cs (.iushr, len, (a, b, d), v, w, brs) pc L S M k = some out) : W p l e R s m args below meth c H locs (M.1.2.2.2.1 - a0) (M.1.2.2.2.2 - b0) Q (F0 m pc ls (S.map (cv ad ov))) := by
  obtain ⟨hx, hb, hml, hown, hts, hSF, hB⟩ := C
  obtain ⟨hR, hRO, hS, hL, hvS, hvL, hro, hac, has⟩ := I
  obtain ⟨hd, rfl⟩ : decode cc pc = .ok (.iushr, 1) ∧ len = 1 := by simpa [okF, nOK, okE, okD] using hok
  rcases S with _ | ⟨(y | y) | y, _ | ⟨(x | x) | x, S⟩⟩ <;> try exact ons h
  exact lv_iushr hx hb hd rfl (K _ _ _ _ h (Rel.of rfl) dir ad H locs ls Ext.rf ⟨hR, hRO, hS, hL, vS1 trivial (vT1 (vT1 hvS)), hvL, hro, hac, has⟩)

set_option maxHeartbeats 1000000 in
theorem s_idiv (C : Cx p s m args c cc nL own D cA ov aR0 B nS xs) (I : Inv s nL D cA ov aR0 B nS xs a0 b0 dir ad M H locs ls L S) (K : KK p l e R s m args below meth c Q nL D cA ov aR0 B nS xs a0 b0 dir ad al M k out)
    (hok : okF own nL cc pc (.idiv, len, (a, b, d), v, w, brs) = true) (h : astep al cs (.idiv, len, (a, b, d), v, w, brs) pc L S M k = some out) : W p l e R s m args below meth c H locs (M.1.2.2.2.1 - a0) (M.1.2.2.2.2 - b0) Q (F0 m pc ls (S.map (cv ad ov))) := by
  obtain ⟨hx, hb, hml, hown, hts, hSF, hB⟩ := C
  obtain ⟨hR, hRO, hS, hL, hvS, hvL, hro, hac, has⟩ := I
  obtain ⟨hd, rfl⟩ : decode cc pc = .ok (.idiv, 1) ∧ len = 1 := by simpa [okF, nOK, okE, okD] using hok
  rcases S with _ | ⟨(y | y) | y, _ | ⟨(x | x) | x, S⟩⟩ <;> try exact ons h
  have h : (if y = 0 then none else k (pc + 1) L (aI (x / y) :: S) M) = some out := h
  by_cases hy : y = 0
  · rw [if_pos hy] at h; exact ons h
  · rw [if_neg hy] at h
    exact lv_idiv hx hb hd hy (K _ _ _ _ h (Rel.of rfl) dir ad H locs ls Ext.rf ⟨hR, hRO, hS, hL, vS1 trivial (vT1 (vT1 hvS)), hvL, hro, hac, has⟩)

set_option maxHeartbeats 1000000 in
theorem s_irem (C : Cx p s m args c cc nL own D cA ov aR0 B nS xs) (I : Inv s nL D cA ov aR0 B nS xs a0 b0 dir ad M H locs ls L S) (K : KK p l e R s m args below meth c Q nL D cA ov aR0 B nS xs a0 b0 dir ad al M k out)
    (hok : okF own nL cc pc (.irem, len, (a, b, d), v, w, brs) = true) (h : astep al cs (.irem, len, (a, b, d), v, w, brs) pc L S M k = some out) : W p l e R s m args below meth c H locs (M.1.2.2.2.1 - a0) (M.1.2.2.2.2 - b0) Q (F0 m pc ls (S.map (cv ad ov))) := by
  obtain ⟨hx, hb, hml, hown, hts, hSF, hB⟩ := C
  obtain ⟨hR, hRO, hS, hL, hvS, hvL, hro, hac, has⟩ := I
  obtain ⟨hd, rfl⟩ : decode cc pc = .ok (.irem, 1) ∧ len = 1 := by simpa [okF, nOK, okE, okD] using hok
  rcases S with _ | ⟨(y | y) | y, _ | ⟨(x | x) | x, S⟩⟩ <;> try exact ons h
  have h : (if y = 0 then none else k (pc + 1) L (aI (x - x / y * y) :: S) M) = some out := h
  by_cases hy : y = 0
  · rw [if_pos hy] at h; exact ons h
  · rw [if_neg hy] at h
    exact lv_irem hx hb hd hy (K _ _ _ _ h (Rel.of rfl) dir ad H locs ls Ext.rf ⟨hR, hRO, hS, hL, vS1 trivial (vT1 (vT1 hvS)), hvL, hro, hac, has⟩)

set_option maxHeartbeats 1000000 in
theorem s_ineg (C : Cx p s m args c cc nL own D cA ov aR0 B nS xs) (I : Inv s nL D cA ov aR0 B nS xs a0 b0 dir ad M H locs ls L S) (K : KK p l e R s m args below meth c Q nL D cA ov aR0 B nS xs a0 b0 dir ad al M k out)
    (hok : okF own nL cc pc (.ineg, len, (a, b, d), v, w, brs) = true) (h : astep al cs (.ineg, len, (a, b, d), v, w, brs) pc L S M k = some out) : W p l e R s m args below meth c H locs (M.1.2.2.2.1 - a0) (M.1.2.2.2.2 - b0) Q (F0 m pc ls (S.map (cv ad ov))) := by
  obtain ⟨hx, hb, hml, hown, hts, hSF, hB⟩ := C
  obtain ⟨hR, hRO, hS, hL, hvS, hvL, hro, hac, has⟩ := I
  obtain ⟨hd, rfl⟩ : decode cc pc = .ok (.ineg, 1) ∧ len = 1 := by simpa [okF, nOK, okE, okD] using hok
  rcases S with _ | ⟨(x | x) | x, S⟩ <;> try exact ons h
  exact lv_ineg hx hb hd (K _ _ _ _ h (Rel.of rfl) dir ad H locs ls Ext.rf ⟨hR, hRO, hS, hL, vS1 trivial (vT1 hvS), hvL, hro, hac, has⟩)

set_option maxHeartbeats 1000000 in
theorem s_i2l (C : Cx p s m args c cc nL own D cA ov aR0 B nS xs) (I : Inv s nL D cA ov aR0 B nS xs a0 b0 dir ad M H locs ls L S) (K : KK p l e R s m args below meth c Q nL D cA ov aR0 B nS xs a0 b0 dir ad al M k out)
    (hok : okF own nL cc pc (.i2l, len, (a, b, d), v, w, brs) = true) (h : astep al cs (.i2l, len, (a, b, d), v, w, brs) pc L S M k = some out) : W p l e R s m args below meth c H locs (M.1.2.2.2.1 - a0) (M.1.2.2.2.2 - b0) Q (F0 m pc ls (S.map (cv ad ov))) := by
  obtain ⟨hx, hb, hml, hown, hts, hSF, hB⟩ := C
  obtain ⟨hR, hRO, hS, hL, hvS, hvL, hro, hac, has⟩ := I
  obtain ⟨hd, rfl⟩ : decode cc pc = .ok (.i2l, 1) ∧ len = 1 := by simpa [okF, nOK, okE, okD] using hok
  rcases S with _ | ⟨(x | x) | x, S⟩ <;> try exact ons h
  exact lv_i2l hx hb hd rfl (K _ _ _ _ h (Rel.of rfl) dir ad H locs ls Ext.rf ⟨hR, hRO, hS, hL, vS1 trivial (vT1 hvS), hvL, hro, hac, has⟩)

set_option maxHeartbeats 1000000 in
theorem s_i2b (C : Cx p s m args c cc nL own D cA ov aR0 B nS xs) (I : Inv s nL D cA ov aR0 B nS xs a0 b0 dir ad M H locs ls L S) (K : KK p l e R s m args below meth c Q nL D cA ov aR0 B nS xs a0 b0 dir ad al M k out)
    (hok : okF own nL cc pc (.i2b, len, (a, b, d), v, w, brs) = true) (h : astep al cs (.i2b, len, (a, b, d), v, w, brs) pc L S M k = some out) : W p l e R s m args below meth c H locs (M.1.2.2.2.1 - a0) (M.1.2.2.2.2 - b0) Q (F0 m pc ls (S.map (cv ad ov))) := by
  obtain ⟨hx, hb, hml, hown, hts, hSF, hB⟩ := C
  obtain ⟨hR, hRO, hS, hL, hvS, hvL, hro, hac, has⟩ := I
  obtain ⟨hd, rfl⟩ : decode cc pc = .ok (.i2b, 1) ∧ len = 1 := by simpa [okF, nOK, okE, okD] using hok
  rcases S with _ | ⟨(x | x) | x, S⟩ <;> try exact ons h
  exact lv_i2b hx hb hd rfl (K _ _ _ _ h (Rel.of rfl) dir ad H locs ls Ext.rf ⟨hR, hRO, hS, hL, vS1 trivial (vT1 hvS), hvL, hro, hac, has⟩)

set_option maxHeartbeats 1000000 in
theorem s_i2s (C : Cx p s m args c cc nL own D cA ov aR0 B nS xs) (I : Inv s nL D cA ov aR0 B nS xs a0 b0 dir ad M H locs ls L S) (K : KK p l e R s m args below meth c Q nL D cA ov aR0 B nS xs a0 b0 dir ad al M k out)
    (hok : okF own nL cc pc (.i2s, len, (a, b, d), v, w, brs) = true) (h : astep al cs (.i2s, len, (a, b, d), v, w, brs) pc L S M k = some out) : W p l e R s m args below meth c H locs (M.1.2.2.2.1 - a0) (M.1.2.2.2.2 - b0) Q (F0 m pc ls (S.map (cv ad ov))) := by
  obtain ⟨hx, hb, hml, hown, hts, hSF, hB⟩ := C
  obtain ⟨hR, hRO, hS, hL, hvS, hvL, hro, hac, has⟩ := I
  obtain ⟨hd, rfl⟩ : decode cc pc = .ok (.i2s, 1) ∧ len = 1 := by simpa [okF, nOK, okE, okD] using hok
  rcases S with _ | ⟨(x | x) | x, S⟩ <;> try exact ons h
  exact lv_i2s hx hb hd rfl (K _ _ _ _ h (Rel.of rfl) dir ad H locs ls Ext.rf ⟨hR, hRO, hS, hL, vS1 trivial (vT1 hvS), hvL, hro, hac, has⟩)

set_option maxHeartbeats 1000000 in
theorem s_i2c (C : Cx p s m args c cc nL own D cA ov aR0 B nS xs) (I : Inv s nL D cA ov aR0 B nS xs a0 b0 dir ad M H locs ls L S) (K : KK p l e R s m args below meth c Q nL D cA ov aR0 B nS xs a0 b0 dir ad al M k out)
    (hok : okF own nL cc pc (.i2c, len, (a, b, d), v, w, brs) = true) (h : astep al cs (.i2c, len, (a, b, d), v, w, brs) pc L S M k = some out) : W p l e R s m args below meth c H locs (M.1.2.2.2.1 - a0) (M.1.2.2.2.2 - b0) Q (F0 m pc ls (S.map (cv ad ov))) := by
  obtain ⟨hx, hb, hml, hown, hts, hSF, hB⟩ := C
  obtain ⟨hR, hRO, hS, hL, hvS, hvL, hro, hac, has⟩ := I
  obtain ⟨hd, rfl⟩ : decode cc pc = .ok (.i2c, 1) ∧ len = 1 := by simpa [okF, nOK, okE, okD] using hok
  rcases S with _ | ⟨(x | x) | x, S⟩ <;> try exact ons h
  exact lv_i2c hx hb hd rfl (K _ _ _ _ h (Rel.of rfl) dir ad H locs ls Ext.rf ⟨hR, hRO, hS, hL, vS1 trivial (vT1 hvS), hvL, hro, hac, has⟩)

set_option maxHeartbeats 1000000 in
theorem s_l2i (C : Cx p s m args c cc nL own D cA ov aR0 B nS xs) (I : Inv s nL D cA ov aR0 B nS xs a0 b0 dir ad M H locs ls L S) (K : KK p l e R s m args below meth c Q nL D cA ov aR0 B nS xs a0 b0 dir ad al M k out)
    (hok : okF own nL cc pc (.l2i, len, (a, b, d), v, w, brs) = true) (h : astep al cs (.l2i, len, (a, b, d), v, w, brs) pc L S M k = some out) : W p l e R s m args below meth c H locs (M.1.2.2.2.1 - a0) (M.1.2.2.2.2 - b0) Q (F0 m pc ls (S.map (cv ad ov))) := by
  obtain ⟨hx, hb, hml, hown, hts, hSF, hB⟩ := C
  obtain ⟨hR, hRO, hS, hL, hvS, hvL, hro, hac, has⟩ := I
  obtain ⟨hd, rfl⟩ : decode cc pc = .ok (.l2i, 1) ∧ len = 1 := by simpa [okF, nOK, okE, okD] using hok
  rcases S with _ | ⟨(x | x) | x, S⟩ <;> try exact ons h
  exact lv_l2i hx hb hd rfl (K _ _ _ _ h (Rel.of rfl) dir ad H locs ls Ext.rf ⟨hR, hRO, hS, hL, vS1 trivial (vT1 hvS), hvL, hro, hac, has⟩)

set_option maxHeartbeats 1000000 in
theorem s_ladd (C : Cx p s m args c cc nL own D cA ov aR0 B nS xs) (I : Inv s nL D cA ov aR0 B nS xs a0 b0 dir ad M H locs ls L S) (K : KK p l e R s m args below meth c Q nL D cA ov aR0 B nS xs a0 b0 dir ad al M k out)
    (hok : okF own nL cc pc (.ladd, len, (a, b, d), v, w, brs) = true) (h : astep al cs (.ladd, len, (a, b, d), v, w, brs) pc L S M k = some out) : W p l e R s m args below meth c H locs (M.1.2.2.2.1 - a0) (M.1.2.2.2.2 - b0) Q (F0 m pc ls (S.map (cv ad ov))) := by
  obtain ⟨hx, hb, hml, hown, hts, hSF, hB⟩ := C
  obtain ⟨hR, hRO, hS, hL, hvS, hvL, hro, hac, has⟩ := I
  obtain ⟨hd, rfl⟩ : decode cc pc = .ok (.ladd, 1) ∧ len = 1 := by simpa [okF, nOK, okE, okD] using hok
  rcases S with _ | ⟨(y | y) | y, _ | ⟨(x | x) | x, S⟩⟩ <;> try exact ons h
  exact lv_ladd hx hb hd (K _ _ _ _ h (Rel.of rfl) dir ad H locs ls Ext.rf ⟨hR, hRO, hS, hL, vS1 trivial (vT1 (vT1 hvS)), hvL, hro, hac, has⟩)

set_option maxHeartbeats 1000000 in
theorem s_land (C : Cx p s m args c cc nL own D cA ov aR0 B nS xs) (I : Inv s nL D cA ov aR0 B nS xs a0 b0 dir ad M H locs ls L S) (K : KK p l e R s m args below meth c Q nL D cA ov aR0 B nS xs a0 b0 dir ad al M k out)
    (hok : okF own nL cc pc (.land, len, (a, b, d), v, w, brs) = true) (h : astep al cs (.land, len, (a, b, d), v, w, brs) pc L S M k = some out) : W p l e R s m args below meth c H locs (M.1.2.2.2.1 - a0) (M.1.2.2.2.2 - b0) Q (F0 m pc ls (S.map (cv ad ov))) := by
  obtain ⟨hx, hb, hml, hown, hts, hSF, hB⟩ := C
  obtain ⟨hR, hRO, hS, hL, hvS, hvL, hro, hac, has⟩ := I
  obtain ⟨hd, rfl⟩ : decode cc pc = .ok (.land, 1) ∧ len = 1 := by simpa [okF, nOK, okE, okD] using hok
  rcases S with _ | ⟨(y | y) | y, _ | ⟨(x | x) | x, S⟩⟩ <;> try exact ons h
  exact lv_land hx hb hd (K _ _ _ _ h (Rel.of rfl) dir ad H locs ls Ext.rf ⟨hR, hRO, hS, hL, vS1 trivial (vT1 (vT1 hvS)), hvL, hro, hac, has⟩)

set_option maxHeartbeats 1000000 in
theorem s_lor (C : Cx p s m args c cc nL own D cA ov aR0 B nS xs) (I : Inv s nL D cA ov aR0 B nS xs a0 b0 dir ad M H locs ls L S) (K : KK p l e R s m args below meth c Q nL D cA ov aR0 B nS xs a0 b0 dir ad al M k out)
    (hok : okF own nL cc pc (.lor, len, (a, b, d), v, w, brs) = true) (h : astep al cs (.lor, len, (a, b, d), v, w, brs) pc L S M k = some out) : W p l e R s m args below meth c H locs (M.1.2.2.2.1 - a0) (M.1.2.2.2.2 - b0) Q (F0 m pc ls (S.map (cv ad ov))) := by
  obtain ⟨hx, hb, hml, hown, hts, hSF, hB⟩ := C
  obtain ⟨hR, hRO, hS, hL, hvS, hvL, hro, hac, has⟩ := I
  obtain ⟨hd, rfl⟩ : decode cc pc = .ok (.lor, 1) ∧ len = 1 := by simpa [okF, nOK, okE, okD] using hok
  rcases S with _ | ⟨(y | y) | y, _ | ⟨(x | x) | x, S⟩⟩ <;> try exact ons h
  exact lv_lor hx hb hd (K _ _ _ _ h (Rel.of rfl) dir ad H locs ls Ext.rf ⟨hR, hRO, hS, hL, vS1 trivial (vT1 (vT1 hvS)), hvL, hro, hac, has⟩)

set_option maxHeartbeats 1000000 in
theorem s_lshl (C : Cx p s m args c cc nL own D cA ov aR0 B nS xs) (I : Inv s nL D cA ov aR0 B nS xs a0 b0 dir ad M H locs ls L S) (K : KK p l e R s m args below meth c Q nL D cA ov aR0 B nS xs a0 b0 dir ad al M k out)
    (hok : okF own nL cc pc (.lshl, len, (a, b, d), v, w, brs) = true) (h : astep al cs (.lshl, len, (a, b, d), v, w, brs) pc L S M k = some out) : W p l e R s m args below meth c H locs (M.1.2.2.2.1 - a0) (M.1.2.2.2.2 - b0) Q (F0 m pc ls (S.map (cv ad ov))) := by
  obtain ⟨hx, hb, hml, hown, hts, hSF, hB⟩ := C
  obtain ⟨hR, hRO, hS, hL, hvS, hvL, hro, hac, has⟩ := I
  obtain ⟨hd, rfl⟩ : decode cc pc = .ok (.lshl, 1) ∧ len = 1 := by simpa [okF, nOK, okE, okD] using hok
  rcases S with _ | ⟨(y | y) | y, _ | ⟨(x | x) | x, S⟩⟩ <;> try exact ons h
  exact lv_lshl hx hb hd rfl (K _ _ _ _ h (Rel.of rfl) dir ad H locs ls Ext.rf ⟨hR, hRO, hS, hL, vS1 trivial (vT1 (vT1 hvS)), hvL, hro, hac, has⟩)

set_option maxHeartbeats 1000000 in
theorem s_lcmp (C : Cx p s m args c cc nL own D cA ov aR0 B nS xs) (I : Inv s nL D cA ov aR0 B nS xs a0 b0 dir ad M H locs ls L S) (K : KK p l e R s m args below meth c Q nL D cA ov aR0 B nS xs a0 b0 dir ad al M k out)
    (hok : okF own nL cc pc (.lcmp, len, (a, b, d), v, w, brs) = true) (h : astep al cs (.lcmp, len, (a, b, d), v, w, brs) pc L S M k = some out) : W p l e R s m args below meth c H locs (M.1.2.2.2.1 - a0) (M.1.2.2.2.2 - b0) Q (F0 m pc ls (S.map (cv ad ov))) := by
  obtain ⟨hx, hb, hml, hown, hts, hSF, hB⟩ := C
  obtain ⟨hR, hRO, hS, hL, hvS, hvL, hro, hac, has⟩ := I
  obtain ⟨hd, rfl⟩ : decode cc pc = .ok (.lcmp, 1) ∧ len = 1 := by simpa [okF, nOK, okE, okD] using hok
  rcases S with _ | ⟨(y | y) | y, _ | ⟨(x | x) | x, S⟩⟩ <;> try exact ons h
  exact W.lcmp hx hb hd (K _ _ _ _ h (Rel.of rfl) dir ad H locs ls Ext.rf ⟨hR, hRO, hS, hL, vS1 trivial (vT1 (vT1 hvS)), hvL, hro, hac, has⟩)

theorem okx_iload {own pc len a b d : Nat} {cc : ByteArray} {v : Int32} {w : Int64} {brs : List (Int32 × Nat)} {z : Nat} (h : okE own cc pc (.iload z, len, (a, b, d), v, w, brs) = true) : (decode cc pc = .ok (.iload a, 2) ∧ len = 2) ∨ ((a < 4 ∧ decode cc pc = .ok (.iload_n (Fin.ofNat 4 a), 1)) ∧ len = 1) := by
  rcases len with _ | _ | _ | len
  · simp [okE] at h
  · simp [okE, okD] at h
    exact Or.inr ⟨h, rfl⟩
  · simp [okE, okD] at h
    exact Or.inl ⟨h, rfl⟩
  · simp [okE] at h

theorem okx_lload {own pc len a b d : Nat} {cc : ByteArray} {v : Int32} {w : Int64} {brs : List (Int32 × Nat)} {z : Nat} (h : okE own cc pc (.lload z, len, (a, b, d), v, w, brs) = true) : (decode cc pc = .ok (.lload a, 2) ∧ len = 2) ∨ ((a < 4 ∧ decode cc pc = .ok (.lload_n (Fin.ofNat 4 a), 1)) ∧ len = 1) := by
  rcases len with _ | _ | _ | len
  · simp [okE] at h
  · simp [okE, okD] at h
    exact Or.inr ⟨h, rfl⟩
  · simp [okE, okD] at h
    exact Or.inl ⟨h, rfl⟩
  · simp [okE] at h

theorem okx_aload {own pc len a b d : Nat} {cc : ByteArray} {v : Int32} {w : Int64} {brs : List (Int32 × Nat)} {z : Nat} (h : okE own cc pc (.aload z, len, (a, b, d), v, w, brs) = true) : (decode cc pc = .ok (.aload a, 2) ∧ len = 2) ∨ ((a < 4 ∧ decode cc pc = .ok (.aload_n (Fin.ofNat 4 a), 1)) ∧ len = 1) := by
  rcases len with _ | _ | _ | len
  · simp [okE] at h
  · simp [okE, okD] at h
    exact Or.inr ⟨h, rfl⟩
  · simp [okE, okD] at h
    exact Or.inl ⟨h, rfl⟩
  · simp [okE] at h

theorem okx_istore {own pc len a b d : Nat} {cc : ByteArray} {v : Int32} {w : Int64} {brs : List (Int32 × Nat)} {z : Nat} (h : okE own cc pc (.istore z, len, (a, b, d), v, w, brs) = true) : (decode cc pc = .ok (.istore a, 2) ∧ len = 2) ∨ ((a < 4 ∧ decode cc pc = .ok (.istore_n (Fin.ofNat 4 a), 1)) ∧ len = 1) := by
  rcases len with _ | _ | _ | len
  · simp [okE] at h
  · simp [okE, okD] at h
    exact Or.inr ⟨h, rfl⟩
  · simp [okE, okD] at h
    exact Or.inl ⟨h, rfl⟩
  · simp [okE] at h

theorem okx_lstore {own pc len a b d : Nat} {cc : ByteArray} {v : Int32} {w : Int64} {brs : List (Int32 × Nat)} {z : Nat} (h : okE own cc pc (.lstore z, len, (a, b, d), v, w, brs) = true) : (decode cc pc = .ok (.lstore a, 2) ∧ len = 2) ∨ ((a < 4 ∧ decode cc pc = .ok (.lstore_n (Fin.ofNat 4 a), 1)) ∧ len = 1) := by
  rcases len with _ | _ | _ | len
  · simp [okE] at h
  · simp [okE, okD] at h
    exact Or.inr ⟨h, rfl⟩
  · simp [okE, okD] at h
    exact Or.inl ⟨h, rfl⟩
  · simp [okE] at h

theorem okx_astore {own pc len a b d : Nat} {cc : ByteArray} {v : Int32} {w : Int64} {brs : List (Int32 × Nat)} {z : Nat} (h : okE own cc pc (.astore z, len, (a, b, d), v, w, brs) = true) : (decode cc pc = .ok (.astore a, 2) ∧ len = 2) ∨ ((a < 4 ∧ decode cc pc = .ok (.astore_n (Fin.ofNat 4 a), 1)) ∧ len = 1) := by
  rcases len with _ | _ | _ | len
  · simp [okE] at h
  · simp [okE, okD] at h
    exact Or.inr ⟨h, rfl⟩
  · simp [okE, okD] at h
    exact Or.inl ⟨h, rfl⟩
  · simp [okE] at h

theorem okx_iconst {own pc len a b d : Nat} {cc : ByteArray} {v : Int32} {w : Int64} {brs : List (Int32 × Nat)} {z : Int} (h : okE own cc pc (.iconst z, len, (a, b, d), v, w, brs) = true) : (((decode cc pc = .ok (.iconst v.toInt, 1) ∧ len = 1) ∨ ((decode cc pc = .ok (.bipush v.toInt, 2) ∧ len = 2) ∧ (Int8.ofInt v.toInt).toInt32 = v)) ∨ ((decode cc pc = .ok (.sipush v.toInt, 3) ∧ len = 3) ∧ (Int16.ofInt v.toInt).toInt32 = v)) ∨ ((decode cc pc = .ok (.ldc a, 2) ∧ len = 2) ∧ kiE own a v = true) ∨ ((decode cc pc = .ok (.ldc_w a, 3) ∧ len = 3) ∧ kiE own a v = true) := by
  rcases len with _ | _ | _ | _ | len
  · simp [okE] at h
  · simp [okE, okD] at h
    exact Or.inl (Or.inl (Or.inl ⟨h, rfl⟩))
  · rcases b with _ | b
    · simp [okE, okD] at h
      exact Or.inl (Or.inl (Or.inr ⟨⟨h.1, rfl⟩, h.2⟩))
    · simp [okE, okD] at h
      exact Or.inr (Or.inl ⟨⟨h.1, rfl⟩, h.2⟩)
  · rcases b with _ | b
    · simp [okE, okD] at h
      exact Or.inl (Or.inr ⟨⟨h.1, rfl⟩, h.2⟩)
    · simp [okE, okD] at h
      exact Or.inr (Or.inr ⟨⟨h.1, rfl⟩, h.2⟩)
  · simp [okE] at h
theorem okx_lconst {own pc len a b d : Nat} {cc : ByteArray} {v : Int32} {w : Int64} {brs : List (Int32 × Nat)} {z : Fin 2} (h : okE own cc pc (.lconst z, len, (a, b, d), v, w, brs) = true) : (((decode cc pc = .ok (.lconst 0, 1) ∧ len = 1) ∧ w = 0) ∨ ((decode cc pc = .ok (.lconst 1, 1) ∧ len = 1) ∧ w = 1)) ∨ ((decode cc pc = .ok (.ldc2_w a, 3) ∧ len = 3) ∧ klE own a w = true) := by
  rcases len with _ | _ | _ | _ | len
  · simp [okE] at h
  · simp [okE, okD] at h
    rcases h with h | h
    · exact Or.inl (Or.inl ⟨⟨h.1, rfl⟩, h.2⟩)
    · exact Or.inl (Or.inr ⟨⟨h.1, rfl⟩, h.2⟩)
  · simp [okE] at h
  · simp [okE, okD] at h
    exact Or.inr ⟨⟨h.1, rfl⟩, h.2⟩
  · simp [okE] at h

theorem kiE_mem {own idx : Nat} {v : Int32} (h : kiE own idx v = true) : Cond.constant (cn own) idx v ∈ WSg := by
  obtain ⟨e, he, h⟩ := List.any_eq_true.mp h
  simp only [Bool.and_eq_true, decide_eq_true_eq, Nat.beq_eq] at h
  obtain ⟨⟨rfl, rfl⟩, rfl⟩ := h
  exact posOK_mem (List.all_eq_true.mp KIt_ok e he)
theorem klE_mem {own idx : Nat} {v : Int64} (h : klE own idx v = true) : Cond.constantLong (cn own) idx v ∈ WSg := by
  obtain ⟨e, he, h⟩ := List.any_eq_true.mp h
  simp only [Bool.and_eq_true, decide_eq_true_eq, Nat.beq_eq] at h
  obtain ⟨⟨rfl, rfl⟩, rfl⟩ := h
  exact posOK_mem (List.all_eq_true.mp KLt_ok e he)

set_option maxHeartbeats 1000000 in
theorem s_iconst {z : Int} (C : Cx p s m args c cc nL own D cA ov aR0 B nS xs) (I : Inv s nL D cA ov aR0 B nS xs a0 b0 dir ad M H locs ls L S) (K : KK p l e R s m args below meth c Q nL D cA ov aR0 B nS xs a0 b0 dir ad al M k out)
    (hok : okF own nL cc pc (.iconst z, len, (a, b, d), v, w, brs) = true) (h : astep al cs (.iconst z, len, (a, b, d), v, w, brs) pc L S M k = some out) : W p l e R s m args below meth c H locs (M.1.2.2.2.1 - a0) (M.1.2.2.2.2 - b0) Q (F0 m pc ls (S.map (cv ad ov))) := by
  obtain ⟨hx, hb, hml, hown, hts, hSF, hB⟩ := C
  obtain ⟨hR, hRO, hS, hL, hvS, hvL, hro, hac, has⟩ := I
  have h : k (pc + len) L (aI v :: S) M = some out := h
  have kk := K _ _ _ _ h (Rel.of rfl) dir ad H locs ls Ext.rf ⟨hR, hRO, hS, hL, vS1 trivial hvS, hvL, hro, hac, has⟩
  simp only [okF, nOK, Bool.true_and] at hok
  rcases okx_iconst hok with ((⟨hd, rfl⟩ | ⟨⟨hd, rfl⟩, e⟩) | ⟨⟨hd, rfl⟩, e⟩) | ⟨⟨hd, rfl⟩, e⟩ | ⟨⟨hd, rfl⟩, e⟩
  · exact lv_iconst hx hb hd (Int32.ofInt_toInt v) kk
  · exact lv_bipush hx hb hd e kk
  · exact lv_sipush hx hb hd e kk
  · exact lv_ldc hx hb hown (hts _ (kiE_mem e)) hd kk
  · exact lv_ldcw hx hb hown (hts _ (kiE_mem e)) hd kk

set_option maxHeartbeats 1000000 in
theorem s_lconst {z : Fin 2} (C : Cx p s m args c cc nL own D cA ov aR0 B nS xs) (I : Inv s nL D cA ov aR0 B nS xs a0 b0 dir ad M H locs ls L S) (K : KK p l e R s m args below meth c Q nL D cA ov aR0 B nS xs a0 b0 dir ad al M k out)
    (hok : okF own nL cc pc (.lconst z, len, (a, b, d), v, w, brs) = true) (h : astep al cs (.lconst z, len, (a, b, d), v, w, brs) pc L S M k = some out) : W p l e R s m args below meth c H locs (M.1.2.2.2.1 - a0) (M.1.2.2.2.2 - b0) Q (F0 m pc ls (S.map (cv ad ov))) := by
  obtain ⟨hx, hb, hml, hown, hts, hSF, hB⟩ := C
  obtain ⟨hR, hRO, hS, hL, hvS, hvL, hro, hac, has⟩ := I
  have h : k (pc + len) L (aL w :: S) M = some out := h
  have kk := K _ _ _ _ h (Rel.of rfl) dir ad H locs ls Ext.rf ⟨hR, hRO, hS, hL, vS1 trivial hvS, hvL, hro, hac, has⟩
  simp only [okF, nOK, Bool.true_and] at hok
  rcases okx_lconst hok with (⟨⟨hd, rfl⟩, e⟩ | ⟨⟨hd, rfl⟩, e⟩) | ⟨⟨hd, rfl⟩, e⟩
  · subst e; exact lv_lconst hx hb hd rfl kk
  · subst e; exact lv_lconst hx hb hd rfl kk
  · exact lv_ldc2 hx hb hown (hts _ (klE_mem e)) hd kk

set_option maxHeartbeats 1000000 in
theorem s_aconst_null (C : Cx p s m args c cc nL own D cA ov aR0 B nS xs) (I : Inv s nL D cA ov aR0 B nS xs a0 b0 dir ad M H locs ls L S) (K : KK p l e R s m args below meth c Q nL D cA ov aR0 B nS xs a0 b0 dir ad al M k out)
    (hok : okF own nL cc pc (.aconst_null, len, (a, b, d), v, w, brs) = true) (h : astep al cs (.aconst_null, len, (a, b, d), v, w, brs) pc L S M k = some out) : W p l e R s m args below meth c H locs (M.1.2.2.2.1 - a0) (M.1.2.2.2.2 - b0) Q (F0 m pc ls (S.map (cv ad ov))) := by
  obtain ⟨hx, hb, hml, hown, hts, hSF, hB⟩ := C
  obtain ⟨hR, hRO, hS, hL, hvS, hvL, hro, hac, has⟩ := I
  obtain ⟨hd, rfl⟩ : decode cc pc = .ok (.aconst_null, 1) ∧ len = 1 := by simpa [okF, nOK, okE, okD] using hok
  exact lv_null hx hb hd (K _ _ _ _ h (Rel.of rfl) dir ad H locs ls Ext.rf ⟨hR, hRO, hS, hL, vS1 trivial hvS, hvL, hro, hac, has⟩)

set_option maxHeartbeats 1000000 in
theorem s_iload {z : Nat} (C : Cx p s m args c cc nL own D cA ov aR0 B nS xs) (I : Inv s nL D cA ov aR0 B nS xs a0 b0 dir ad M H locs ls L S) (K : KK p l e R s m args below meth c Q nL D cA ov aR0 B nS xs a0 b0 dir ad al M k out)
    (hok : okF own nL cc pc (.iload z, len, (a, b, d), v, w, brs) = true) (h : astep al cs (.iload z, len, (a, b, d), v, w, brs) pc L S M k = some out) : W p l e R s m args below meth c H locs (M.1.2.2.2.1 - a0) (M.1.2.2.2.2 - b0) Q (F0 m pc ls (S.map (cv ad ov))) := by
  obtain ⟨hx, hb, hml, hown, hts, hSF, hB⟩ := C
  obtain ⟨hR, hRO, hS, hL, hvS, hvL, hro, hac, has⟩ := I
  have h : (match gL L a with
      | some (.inl (.inl x)) => k (pc + len) L (aI x :: S) M
      | _ => none) = some out := h
  split at h
  · rename_i x hg
    have hl := hL.2.2.2 a _ hg
    have kk := K _ _ _ _ h (Rel.of rfl) dir ad H locs ls Ext.rf ⟨hR, hRO, hS, hL, vS1 trivial hvS, hvL, hro, hac, has⟩
    simp only [okF, nOK, Bool.true_and] at hok
    rcases okx_iload hok with ⟨hd, rfl⟩ | ⟨⟨ha, hd⟩, rfl⟩
    · exact lv_iload hx hb hd hl kk
    · exact lv_iload_n hx hb hd (Nat.mod_eq_of_lt ha) hl kk
  · exact ons h

set_option maxHeartbeats 1000000 in
theorem s_lload {z : Nat} (C : Cx p s m args c cc nL own D cA ov aR0 B nS xs) (I : Inv s nL D cA ov aR0 B nS xs a0 b0 dir ad M H locs ls L S) (K : KK p l e R s m args below meth c Q nL D cA ov aR0 B nS xs a0 b0 dir ad al M k out)
    (hok : okF own nL cc pc (.lload z, len, (a, b, d), v, w, brs) = true) (h : astep al cs (.lload z, len, (a, b, d), v, w, brs) pc L S M k = some out) : W p l e R s m args below meth c H locs (M.1.2.2.2.1 - a0) (M.1.2.2.2.2 - b0) Q (F0 m pc ls (S.map (cv ad ov))) := by
  obtain ⟨hx, hb, hml, hown, hts, hSF, hB⟩ := C
  obtain ⟨hR, hRO, hS, hL, hvS, hvL, hro, hac, has⟩ := I
  have h : (match gL L a with
      | some (.inl (.inr x)) => k (pc + len) L (aL x :: S) M
      | _ => none) = some out := h
  split at h
  · rename_i x hg
    have hl := hL.2.2.2 a _ hg
    have kk := K _ _ _ _ h (Rel.of rfl) dir ad H locs ls Ext.rf ⟨hR, hRO, hS, hL, vS1 trivial hvS, hvL, hro, hac, has⟩
    simp only [okF, nOK, Bool.true_and] at hok
    rcases okx_lload hok with ⟨hd, rfl⟩ | ⟨⟨ha, hd⟩, rfl⟩
    · exact lv_lload hx hb hd hl kk
    · exact lv_lload_n hx hb hd (Nat.mod_eq_of_lt ha) hl kk
  · exact ons h

theorem lv_aloadV (ho : ov = .null ∨ ∃ q, ov = .ref q) {ls : Array Slot} {rest : List Value} {cells slots : Nat} {x : Option (Nat × Nat)} (hexec : p.tables.exec = Jvm.exec) (hb : c.code = cc) {i : Nat} (hdg : decode cc pc = .ok (.aload i, 2)) (hl : ls[i]? = some (.val (cv ad ov (.inr x))))
    (kk : W p l e R s m args below meth c H locs cells slots Q (F0 m (pc + 2) ls (cv ad ov (.inr x) :: rest))) : W p l e R s m args below meth c H locs cells slots Q (F0 m pc ls rest) := by
  have hc : cv ad ov (.inr x) = .null ∨ ∃ q, cv ad ov (.inr x) = .ref q := cv_ref ho x
  generalize cv ad ov (.inr x) = z at hl kk hc
  rcases hc with rfl | ⟨q, rfl⟩
  · exact lv_aloadN hexec hb hdg hl kk
  · exact lv_aload hexec hb hdg hl kk
theorem lv_aload_nV (ho : ov = .null ∨ ∃ q, ov = .ref q) {ls : Array Slot} {rest : List Value} {cells slots : Nat} {x : Option (Nat × Nat)} (hexec : p.tables.exec = Jvm.exec) (hb : c.code = cc) {i : Nat} {f : Fin 4} (hdg : decode cc pc = .ok (.aload_n f, 1)) (hi : (f : Nat) = i) (hl : ls[i]? = some (.val (cv ad ov (.inr x))))
    (kk : W p l e R s m args below meth c H locs cells slots Q (F0 m (pc + 1) ls (cv ad ov (.inr x) :: rest))) : W p l e R s m args below meth c H locs cells slots Q (F0 m pc ls rest) := by
  have hc : cv ad ov (.inr x) = .null ∨ ∃ q, cv ad ov (.inr x) = .ref q := cv_ref ho x
  generalize cv ad ov (.inr x) = z at hl kk hc
  rcases hc with rfl | ⟨q, rfl⟩
  · exact lv_aload_nN hexec hb hdg hi hl kk
  · exact lv_aload_n hexec hb hdg hi hl kk
theorem lv_astoreV (ho : ov = .null ∨ ∃ q, ov = .ref q) {ls : Array Slot} {rest : List Value} {cells slots : Nat} {x : Option (Nat × Nat)} (hexec : p.tables.exec = Jvm.exec) (hb : c.code = cc) {i nL : Nat} {lv : List (Nat × Value)} (hdg : decode cc pc = .ok (.astore i, 2)) (h : lv_has ls nL lv) (hn : i < nL)
    (kk : ∀ ls' : Array Slot, lv_has ls' nL ((i, cv ad ov (.inr x)) :: lv.filter (fun q => !(q.1 == i) && !(q.1 + 1 == i && q.2.category == 2))) → W p l e R s m args below meth c H locs cells slots Q (F0 m (pc + 2) ls' rest)) : W p l e R s m args below meth c H locs cells slots Q (F0 m pc ls (cv ad ov (.inr x) :: rest)) := by
  have hc : cv ad ov (.inr x) = .null ∨ ∃ q, cv ad ov (.inr x) = .ref q := cv_ref ho x
  generalize cv ad ov (.inr x) = z at kk hc
  rcases hc with rfl | ⟨q, rfl⟩
  · exact lv_astoreN hexec hb hdg h hn rfl kk
  · exact lv_astore hexec hb hdg h hn rfl kk
theorem lv_astore_nV (ho : ov = .null ∨ ∃ q, ov = .ref q) {ls : Array Slot} {rest : List Value} {cells slots : Nat} {x : Option (Nat × Nat)} (hexec : p.tables.exec = Jvm.exec) (hb : c.code = cc) {i nL : Nat} {f : Fin 4} {lv : List (Nat × Value)} (hdg : decode cc pc = .ok (.astore_n f, 1)) (hi : (f : Nat) = i) (h : lv_has ls nL lv) (hn : i < nL)
    (kk : ∀ ls' : Array Slot, lv_has ls' nL ((i, cv ad ov (.inr x)) :: lv.filter (fun q => !(q.1 == i) && !(q.1 + 1 == i && q.2.category == 2))) → W p l e R s m args below meth c H locs cells slots Q (F0 m (pc + 1) ls' rest)) : W p l e R s m args below meth c H locs cells slots Q (F0 m pc ls (cv ad ov (.inr x) :: rest)) := by
  have hc : cv ad ov (.inr x) = .null ∨ ∃ q, cv ad ov (.inr x) = .ref q := cv_ref ho x
  generalize cv ad ov (.inr x) = z at kk hc
  rcases hc with rfl | ⟨q, rfl⟩
  · exact lv_astore_nN hexec hb hdg hi h hn rfl kk
  · exact lv_astore_n hexec hb hdg hi h hn rfl kk

set_option maxHeartbeats 1000000 in
theorem s_aload {z : Nat} (C : Cx p s m args c cc nL own D cA ov aR0 B nS xs) (I : Inv s nL D cA ov aR0 B nS xs a0 b0 dir ad M H locs ls L S) (K : KK p l e R s m args below meth c Q nL D cA ov aR0 B nS xs a0 b0 dir ad al M k out)
    (hok : okF own nL cc pc (.aload z, len, (a, b, d), v, w, brs) = true) (h : astep al cs (.aload z, len, (a, b, d), v, w, brs) pc L S M k = some out) : W p l e R s m args below meth c H locs (M.1.2.2.2.1 - a0) (M.1.2.2.2.2 - b0) Q (F0 m pc ls (S.map (cv ad ov))) := by
  obtain ⟨hx, hb, hml, hown, hts, hSF, hB⟩ := C
  obtain ⟨hR, hRO, hS, hL, hvS, hvL, hro, hac, has⟩ := I
  have ho := hSF.2.2.2.2.2.2.2.2.2.2
  have h : (match gL L a with
      | some (.inr x) => k (pc + len) L (.inr x :: S) M
      | _ => none) = some out := h
  split at h
  · rename_i x hg
    have hl := hL.2.2.2 a _ hg
    have kk := K _ _ _ _ h (Rel.of rfl) dir ad H locs ls Ext.rf ⟨hR, hRO, hS, hL, vS1 (hvL a _ hg) hvS, hvL, hro, hac, has⟩
    simp only [okF, nOK, Bool.true_and] at hok
    rcases okx_aload hok with ⟨hd, rfl⟩ | ⟨⟨ha, hd⟩, rfl⟩
    · exact lv_aloadV ho hx hb hd hl kk
    · exact lv_aload_nV ho hx hb hd (Nat.mod_eq_of_lt ha) hl kk
  · exact ons h

theorem vL1 {dir : List (Nat × Nat)} {L : LV} {i : Nat} {v : AV} (hi : i < L.length) (hv : vok dir v) (h : ∀ j x, gL L j = some x → vok dir x) : ∀ j x, gL (st1 L i v) j = some x → vok dir x := fun j x hx => by
  rcases st1_get hi hx with ⟨-, rfl⟩ | ⟨-, h2, -⟩
  · exact hv
  · exact h j x h2
theorem vL2 {dir : List (Nat × Nat)} {L : LV} {i : Nat} {v : AV} (hi : i < L.length) (hv : vok dir v) (h : ∀ j x, gL L j = some x → vok dir x) : ∀ j x, gL (st2 L i v) j = some x → vok dir x := fun j x hx => by
  unfold st2 at hx
  rw [gL_sL] at hx
  split at hx
  · cases hx
  · exact vL1 hi hv h j x hx

set_option maxHeartbeats 1000000 in
theorem s_istore {z : Nat} (C : Cx p s m args c cc nL own D cA ov aR0 B nS xs) (I : Inv s nL D cA ov aR0 B nS xs a0 b0 dir ad M H locs ls L S) (K : KK p l e R s m args below meth c Q nL D cA ov aR0 B nS xs a0 b0 dir ad al M k out)
    (hok : okF own nL cc pc (.istore z, len, (a, b, d), v, w, brs) = true) (h : astep al cs (.istore z, len, (a, b, d), v, w, brs) pc L S M k = some out) : W p l e R s m args below meth c H locs (M.1.2.2.2.1 - a0) (M.1.2.2.2.2 - b0) Q (F0 m pc ls (S.map (cv ad ov))) := by
  obtain ⟨hx, hb, hml, hown, hts, hSF, hB⟩ := C
  obtain ⟨hR, hRO, hS, hL, hvS, hvL, hro, hac, has⟩ := I
  have ho := hSF.2.2.2.2.2.2.2.2.2.2
  rcases S with _ | ⟨(x | x) | x, S⟩ <;> try exact ons h
  have h : k (pc + len) (st1 L a (aI x)) S M = some out := h
  have kk : a < nL → ∀ ls', lv_has ls' nL ((a, Value.int x) :: (lvOf ad ov L).filter (fun q => !(q.1 == a) && !(q.1 + 1 == a && q.2.category == 2))) → _ := fun ha ls' h' => K _ _ _ _ h (Rel.of rfl) dir ad H locs ls' Ext.rf ⟨hR, hRO, hS, hL.store ho ha (v := aI x) h', vT1 hvS, vL1 (by rw [hL.2.2.1]; exact ha) trivial hvL, hro, hac, has⟩
  simp only [okF, nOK, Bool.and_eq_true, Nat.blt_eq] at hok
  obtain ⟨han, hok⟩ := hok
  rcases okx_istore hok with ⟨hd, rfl⟩ | ⟨⟨ha, hd⟩, rfl⟩
  · exact lv_istore hx hb hd hL.has han rfl (kk han)
  · exact lv_istore_n hx hb hd (Nat.mod_eq_of_lt ha) hL.has han rfl (kk han)

set_option maxHeartbeats 1000000 in
theorem s_lstore {z : Nat} (C : Cx p s m args c cc nL own D cA ov aR0 B nS xs) (I : Inv s nL D cA ov aR0 B nS xs a0 b0 dir ad M H locs ls L S) (K : KK p l e R s m args below meth c Q nL D cA ov aR0 B nS xs a0 b0 dir ad al M k out)
    (hok : okF own nL cc pc (.lstore z, len, (a, b, d), v, w, brs) = true) (h : astep al cs (.lstore z, len, (a, b, d), v, w, brs) pc L S M k = some out) : W p l e R s m args below meth c H locs (M.1.2.2.2.1 - a0) (M.1.2.2.2.2 - b0) Q (F0 m pc ls (S.map (cv ad ov))) := by
  obtain ⟨hx, hb, hml, hown, hts, hSF, hB⟩ := C
  obtain ⟨hR, hRO, hS, hL, hvS, hvL, hro, hac, has⟩ := I
  have ho := hSF.2.2.2.2.2.2.2.2.2.2
  rcases S with _ | ⟨(x | x) | x, S⟩ <;> try exact ons h
  have h : k (pc + len) (st2 L a (aL x)) S M = some out := h
  have kk : a + 1 < nL → ∀ ls', lv_has ls' nL ((a, Value.long x) :: (lvOf ad ov L).filter (fun q => !(q.1 == a) && (!(q.1 == a + 1) && !(q.1 + 1 == a && q.2.category == 2)))) → _ := fun ha ls' h' => K _ _ _ _ h (Rel.of rfl) dir ad H locs ls' Ext.rf ⟨hR, hRO, hS, hL.store2 ho ha (v := aL x) h', vT1 hvS, vL2 (by rw [hL.2.2.1]; omega) trivial hvL, hro, hac, has⟩
  simp only [okF, nOK, Bool.and_eq_true, Nat.blt_eq] at hok
  obtain ⟨han, hok⟩ := hok
  rcases okx_lstore hok with ⟨hd, rfl⟩ | ⟨⟨ha, hd⟩, rfl⟩
  · exact lv_lstore hx hb hd hL.has han rfl (kk han)
  · exact lv_lstore_n hx hb hd (Nat.mod_eq_of_lt ha) hL.has han rfl (kk han)

set_option maxHeartbeats 1000000 in
theorem s_astore {z : Nat} (C : Cx p s m args c cc nL own D cA ov aR0 B nS xs) (I : Inv s nL D cA ov aR0 B nS xs a0 b0 dir ad M H locs ls L S) (K : KK p l e R s m args below meth c Q nL D cA ov aR0 B nS xs a0 b0 dir ad al M k out)
    (hok : okF own nL cc pc (.astore z, len, (a, b, d), v, w, brs) = true) (h : astep al cs (.astore z, len, (a, b, d), v, w, brs) pc L S M k = some out) : W p l e R s m args below meth c H locs (M.1.2.2.2.1 - a0) (M.1.2.2.2.2 - b0) Q (F0 m pc ls (S.map (cv ad ov))) := by
  obtain ⟨hx, hb, hml, hown, hts, hSF, hB⟩ := C
  obtain ⟨hR, hRO, hS, hL, hvS, hvL, hro, hac, has⟩ := I
  have ho := hSF.2.2.2.2.2.2.2.2.2.2
  rcases S with _ | ⟨(x | x) | x, S⟩ <;> try exact ons h
  have h : k (pc + len) (st1 L a (.inr x)) S M = some out := h
  have kk : a < nL → ∀ ls', lv_has ls' nL ((a, cv ad ov (.inr x)) :: (lvOf ad ov L).filter (fun q => !(q.1 == a) && !(q.1 + 1 == a && q.2.category == 2))) → _ := fun ha ls' h' => K _ _ _ _ h (Rel.of rfl) dir ad H locs ls' Ext.rf ⟨hR, hRO, hS, hL.store ho ha (v := .inr x) h', vT1 hvS, vL1 (by rw [hL.2.2.1]; exact ha) (vH1 hvS) hvL, hro, hac, has⟩
  simp only [okF, nOK, Bool.and_eq_true, Nat.blt_eq] at hok
  obtain ⟨han, hok⟩ := hok
  rcases okx_astore hok with ⟨hd, rfl⟩ | ⟨⟨ha, hd⟩, rfl⟩
  · exact lv_astoreV ho hx hb hd hL.has han (kk han)
  · exact lv_astore_nV ho hx hb hd (Nat.mod_eq_of_lt ha) hL.has han (kk han)

set_option maxHeartbeats 1000000 in
theorem s_iinc {z : Nat} {y : Int} (C : Cx p s m args c cc nL own D cA ov aR0 B nS xs) (I : Inv s nL D cA ov aR0 B nS xs a0 b0 dir ad M H locs ls L S) (K : KK p l e R s m args below meth c Q nL D cA ov aR0 B nS xs a0 b0 dir ad al M k out)
    (hok : okF own nL cc pc (.iinc z y, len, (a, b, d), v, w, brs) = true) (h : astep al cs (.iinc z y, len, (a, b, d), v, w, brs) pc L S M k = some out) : W p l e R s m args below meth c H locs (M.1.2.2.2.1 - a0) (M.1.2.2.2.2 - b0) Q (F0 m pc ls (S.map (cv ad ov))) := by
  obtain ⟨hx, hb, hml, hown, hts, hSF, hB⟩ := C
  obtain ⟨hR, hRO, hS, hL, hvS, hvL, hro, hac, has⟩ := I
  have ho := hSF.2.2.2.2.2.2.2.2.2.2
  have h : (match gL L a with
      | some (.inl (.inl x)) => k (pc + len) (st1 L a (aI (x + v))) S M
      | _ => none) = some out := h
  split at h
  · rename_i x hg
    obtain ⟨hd, rfl⟩ : decode cc pc = .ok (.iinc a v.toInt, 3) ∧ len = 3 := by simpa [okF, nOK, okE, okD] using hok
    have ha : a < nL := by rw [← hL.2.2.1]; exact gL_lt hg
    obtain ⟨k9, hk9⟩ := List.mem_iff_getElem?.mp (lvOf_mem (ad := ad) (ov := ov) hg)
    exact lv_iinc hx hb hd hL.has hk9 (by rw [Int32.ofInt_toInt]) ha rfl (fun ls' h' => K _ _ _ _ h (Rel.of rfl) dir ad H locs ls' Ext.rf ⟨hR, hRO, hS, hL.store ho ha (v := aI (x + v)) h', hvS, vL1 (by rw [hL.2.2.1]; exact ha) trivial hvL, hro, hac, has⟩)
  · exact ons h

set_option maxHeartbeats 1000000 in
theorem s_dup (C : Cx p s m args c cc nL own D cA ov aR0 B nS xs) (I : Inv s nL D cA ov aR0 B nS xs a0 b0 dir ad M H locs ls L S) (K : KK p l e R s m args below meth c Q nL D cA ov aR0 B nS xs a0 b0 dir ad al M k out)
    (hok : okF own nL cc pc (.dup, len, (a, b, d), v, w, brs) = true) (h : astep al cs (.dup, len, (a, b, d), v, w, brs) pc L S M k = some out) : W p l e R s m args below meth c H locs (M.1.2.2.2.1 - a0) (M.1.2.2.2.2 - b0) Q (F0 m pc ls (S.map (cv ad ov))) := by
  obtain ⟨hx, hb, hml, hown, hts, hSF, hB⟩ := C
  obtain ⟨hR, hRO, hS, hL, hvS, hvL, hro, hac, has⟩ := I
  have ho := hSF.2.2.2.2.2.2.2.2.2.2
  obtain ⟨hd, rfl⟩ : decode cc pc = .ok (.dup, 1) ∧ len = 1 := by simpa [okF, nOK, okE, okD] using hok
  rcases S with _ | ⟨(x | x) | x, S⟩ <;> try exact ons h
  · exact lv_dup hx hb hd rfl (K _ _ _ _ h (Rel.of rfl) dir ad H locs ls Ext.rf ⟨hR, hRO, hS, hL, vS1 trivial hvS, hvL, hro, hac, has⟩)
  · exact lv_dup hx hb hd (cv_cat ho _) (K _ _ _ _ h (Rel.of rfl) dir ad H locs ls Ext.rf ⟨hR, hRO, hS, hL, vS1 (vH1 hvS) hvS, hvL, hro, hac, has⟩)

set_option maxHeartbeats 1000000 in
theorem s_pop (C : Cx p s m args c cc nL own D cA ov aR0 B nS xs) (I : Inv s nL D cA ov aR0 B nS xs a0 b0 dir ad M H locs ls L S) (K : KK p l e R s m args below meth c Q nL D cA ov aR0 B nS xs a0 b0 dir ad al M k out)
    (hok : okF own nL cc pc (.pop, len, (a, b, d), v, w, brs) = true) (h : astep al cs (.pop, len, (a, b, d), v, w, brs) pc L S M k = some out) : W p l e R s m args below meth c H locs (M.1.2.2.2.1 - a0) (M.1.2.2.2.2 - b0) Q (F0 m pc ls (S.map (cv ad ov))) := by
  obtain ⟨hx, hb, hml, hown, hts, hSF, hB⟩ := C
  obtain ⟨hR, hRO, hS, hL, hvS, hvL, hro, hac, has⟩ := I
  have ho := hSF.2.2.2.2.2.2.2.2.2.2
  obtain ⟨hd, rfl⟩ : decode cc pc = .ok (.pop, 1) ∧ len = 1 := by simpa [okF, nOK, okE, okD] using hok
  rcases S with _ | ⟨(x | x) | x, S⟩ <;> try exact ons h
  · exact lv_pop hx hb hd rfl (K _ _ _ _ h (Rel.of rfl) dir ad H locs ls Ext.rf ⟨hR, hRO, hS, hL, vT1 hvS, hvL, hro, hac, has⟩)
  · exact lv_pop hx hb hd (cv_cat ho _) (K _ _ _ _ h (Rel.of rfl) dir ad H locs ls Ext.rf ⟨hR, hRO, hS, hL, vT1 hvS, hvL, hro, hac, has⟩)

set_option maxHeartbeats 1000000 in
theorem s_dup_x1 (C : Cx p s m args c cc nL own D cA ov aR0 B nS xs) (I : Inv s nL D cA ov aR0 B nS xs a0 b0 dir ad M H locs ls L S) (K : KK p l e R s m args below meth c Q nL D cA ov aR0 B nS xs a0 b0 dir ad al M k out)
    (hok : okF own nL cc pc (.dup_x1, len, (a, b, d), v, w, brs) = true) (h : astep al cs (.dup_x1, len, (a, b, d), v, w, brs) pc L S M k = some out) : W p l e R s m args below meth c H locs (M.1.2.2.2.1 - a0) (M.1.2.2.2.2 - b0) Q (F0 m pc ls (S.map (cv ad ov))) := by
  obtain ⟨hx, hb, hml, hown, hts, hSF, hB⟩ := C
  obtain ⟨hR, hRO, hS, hL, hvS, hvL, hro, hac, has⟩ := I
  have ho := hSF.2.2.2.2.2.2.2.2.2.2
  obtain ⟨hd, rfl⟩ : decode cc pc = .ok (.dup_x1, 1) ∧ len = 1 := by simpa [okF, nOK, okE, okD] using hok
  rcases S with _ | ⟨(x | x) | x, _ | ⟨(y | y) | y, S⟩⟩ <;> try exact ons h
  exact lv_dup_x1 hx hb hd rfl (cv_cat ho _) (K _ _ _ _ h (Rel.of rfl) dir ad H locs ls Ext.rf ⟨hR, hRO, hS, hL, vS1 trivial (vS1 (vH1 (vT1 hvS)) (vS1 trivial (vT1 (vT1 hvS)))), hvL, hro, hac, has⟩)

set_option maxHeartbeats 1000000 in
theorem s_dup2 (C : Cx p s m args c cc nL own D cA ov aR0 B nS xs) (I : Inv s nL D cA ov aR0 B nS xs a0 b0 dir ad M H locs ls L S) (K : KK p l e R s m args below meth c Q nL D cA ov aR0 B nS xs a0 b0 dir ad al M k out)
    (hok : okF own nL cc pc (.dup2, len, (a, b, d), v, w, brs) = true) (h : astep al cs (.dup2, len, (a, b, d), v, w, brs) pc L S M k = some out) : W p l e R s m args below meth c H locs (M.1.2.2.2.1 - a0) (M.1.2.2.2.2 - b0) Q (F0 m pc ls (S.map (cv ad ov))) := by
  obtain ⟨hx, hb, hml, hown, hts, hSF, hB⟩ := C
  obtain ⟨hR, hRO, hS, hL, hvS, hvL, hro, hac, has⟩ := I
  have ho := hSF.2.2.2.2.2.2.2.2.2.2
  obtain ⟨hd, rfl⟩ : decode cc pc = .ok (.dup2, 1) ∧ len = 1 := by simpa [okF, nOK, okE, okD] using hok
  rcases S with _ | ⟨(x | x) | x, _ | ⟨(y | y) | y, S⟩⟩ <;> try exact ons h
  exact lv_dup2_11 hx hb hd rfl (cv_cat ho _) (K _ _ _ _ h (Rel.of rfl) dir ad H locs ls Ext.rf ⟨hR, hRO, hS, hL, vS1 trivial (vS1 (vH1 (vT1 hvS)) hvS), hvL, hro, hac, has⟩)

theorem off_eq (pc a : Nat) : (pc : Int) + ((a : Int) - pc) = (a : Int) := by omega

set_option maxHeartbeats 1000000 in
theorem s_goto {z : Int} (C : Cx p s m args c cc nL own D cA ov aR0 B nS xs) (I : Inv s nL D cA ov aR0 B nS xs a0 b0 dir ad M H locs ls L S) (K : KK p l e R s m args below meth c Q nL D cA ov aR0 B nS xs a0 b0 dir ad al M k out)
    (hok : okF own nL cc pc (.goto z, len, (a, b, d), v, w, brs) = true) (h : astep al cs (.goto z, len, (a, b, d), v, w, brs) pc L S M k = some out) : W p l e R s m args below meth c H locs (M.1.2.2.2.1 - a0) (M.1.2.2.2.2 - b0) Q (F0 m pc ls (S.map (cv ad ov))) := by
  obtain ⟨hx, hb, hml, hown, hts, hSF, hB⟩ := C
  obtain ⟨hR, hRO, hS, hL, hvS, hvL, hro, hac, has⟩ := I
  have hd : decode cc pc = .ok (.goto ((a : Int) - pc), 3) := by simpa [okF, nOK, okE, okD] using hok
  exact lv_goto hx hb hd (off_eq pc a) (K _ _ _ _ h (Rel.of rfl) dir ad H locs ls Ext.rf ⟨hR, hRO, hS, hL, hvS, hvL, hro, hac, has⟩)

set_option maxHeartbeats 1000000 in
theorem s_ifCond {f : Jvm.ClassFile.Cond} {z : Int} (C : Cx p s m args c cc nL own D cA ov aR0 B nS xs) (I : Inv s nL D cA ov aR0 B nS xs a0 b0 dir ad M H locs ls L S) (K : KK p l e R s m args below meth c Q nL D cA ov aR0 B nS xs a0 b0 dir ad al M k out)
    (hok : okF own nL cc pc (.ifCond f z, len, (a, b, d), v, w, brs) = true) (h : astep al cs (.ifCond f z, len, (a, b, d), v, w, brs) pc L S M k = some out) : W p l e R s m args below meth c H locs (M.1.2.2.2.1 - a0) (M.1.2.2.2.2 - b0) Q (F0 m pc ls (S.map (cv ad ov))) := by
  obtain ⟨hx, hb, hml, hown, hts, hSF, hB⟩ := C
  obtain ⟨hR, hRO, hS, hL, hvS, hvL, hro, hac, has⟩ := I
  obtain ⟨hd, rfl⟩ : decode cc pc = .ok (.ifCond f ((a : Int) - pc), 3) ∧ len = 3 := by simpa [okF, nOK, okE, okD] using hok
  rcases S with _ | ⟨(x | x) | x, S⟩ <;> try exact ons h
  have g : ∀ {pc'}, k pc' L S M = some out → W p l e R s m args below meth c H locs (M.1.2.2.2.1 - a0) (M.1.2.2.2.2 - b0) Q (F0 m pc' ls (S.map (cv ad ov))) := fun h => K _ _ _ _ h (Rel.of rfl) dir ad H locs ls Ext.rf ⟨hR, hRO, hS, hL, vT1 hvS, hvL, hro, hac, has⟩
  cases f
  · have h : (if x = 0 then k a L S M else k (pc + 3) L S M) = some out := h
    exact lv_if_eq hx hb hd (off_eq pc a) (fun q => g (by rwa [if_pos q] at h)) (fun q => g (by rwa [if_neg q] at h))
  · have h : (if ¬ x = 0 then k a L S M else k (pc + 3) L S M) = some out := h
    exact lv_if_ne hx hb hd (off_eq pc a) (fun q => g (by rwa [if_pos q] at h)) (fun q => g (by rwa [if_neg (fun z => z q)] at h))
  · have h : (if x < 0 then k a L S M else k (pc + 3) L S M) = some out := h
    exact lv_if_lt hx hb hd (off_eq pc a) (fun q => g (by rwa [if_pos q] at h)) (fun q => g (by rwa [if_neg q] at h))
  · have h : (if 0 ≤ x then k a L S M else k (pc + 3) L S M) = some out := h
    exact lv_if_ge hx hb hd (off_eq pc a) (fun q => g (by rwa [if_pos q] at h)) (fun q => g (by rwa [if_neg q] at h))
  · have h : (if 0 < x then k a L S M else k (pc + 3) L S M) = some out := h
    exact lv_if_gt hx hb hd (off_eq pc a) (fun q => g (by rwa [if_pos q] at h)) (fun q => g (by rwa [if_neg q] at h))
  · have h : (if x ≤ 0 then k a L S M else k (pc + 3) L S M) = some out := h
    exact lv_if_le hx hb hd (off_eq pc a) (fun q => g (by rwa [if_pos q] at h)) (fun q => g (by rwa [if_neg q] at h))

set_option maxHeartbeats 1000000 in
theorem s_if_icmp {f : Jvm.ClassFile.Cond} {z : Int} (C : Cx p s m args c cc nL own D cA ov aR0 B nS xs) (I : Inv s nL D cA ov aR0 B nS xs a0 b0 dir ad M H locs ls L S) (K : KK p l e R s m args below meth c Q nL D cA ov aR0 B nS xs a0 b0 dir ad al M k out)
    (hok : okF own nL cc pc (.if_icmp f z, len, (a, b, d), v, w, brs) = true) (h : astep al cs (.if_icmp f z, len, (a, b, d), v, w, brs) pc L S M k = some out) : W p l e R s m args below meth c H locs (M.1.2.2.2.1 - a0) (M.1.2.2.2.2 - b0) Q (F0 m pc ls (S.map (cv ad ov))) := by
  obtain ⟨hx, hb, hml, hown, hts, hSF, hB⟩ := C
  obtain ⟨hR, hRO, hS, hL, hvS, hvL, hro, hac, has⟩ := I
  obtain ⟨hd, rfl⟩ : decode cc pc = .ok (.if_icmp f ((a : Int) - pc), 3) ∧ len = 3 := by simpa [okF, nOK, okE, okD] using hok
  rcases S with _ | ⟨(y | y) | y, _ | ⟨(x | x) | x, S⟩⟩ <;> try exact ons h
  have g : ∀ {pc'}, k pc' L S M = some out → W p l e R s m args below meth c H locs (M.1.2.2.2.1 - a0) (M.1.2.2.2.2 - b0) Q (F0 m pc' ls (S.map (cv ad ov))) := fun h => K _ _ _ _ h (Rel.of rfl) dir ad H locs ls Ext.rf ⟨hR, hRO, hS, hL, vT1 (vT1 hvS), hvL, hro, hac, has⟩
  cases f
  · have h : (if x = y then k a L S M else k (pc + 3) L S M) = some out := h
    exact lv_icmp_eq hx hb hd (off_eq pc a) (fun q => g (by rwa [if_pos q] at h)) (fun q => g (by rwa [if_neg q] at h))
  · have h : (if ¬ x = y then k a L S M else k (pc + 3) L S M) = some out := h
    exact lv_icmp_ne hx hb hd (off_eq pc a) (fun q => g (by rwa [if_pos q] at h)) (fun q => g (by rwa [if_neg (fun z => z q)] at h))
  · have h : (if x < y then k a L S M else k (pc + 3) L S M) = some out := h
    exact lv_icmp_lt hx hb hd (off_eq pc a) (fun q => g (by rwa [if_pos q] at h)) (fun q => g (by rwa [if_neg q] at h))
  · have h : (if y ≤ x then k a L S M else k (pc + 3) L S M) = some out := h
    exact lv_icmp_ge hx hb hd (off_eq pc a) (fun q => g (by rwa [if_pos q] at h)) (fun q => g (by rwa [if_neg q] at h))
  · have h : (if y < x then k a L S M else k (pc + 3) L S M) = some out := h
    exact lv_icmp_gt hx hb hd (off_eq pc a) (fun q => g (by rwa [if_pos q] at h)) (fun q => g (by rwa [if_neg q] at h))
  · have h : (if x ≤ y then k a L S M else k (pc + 3) L S M) = some out := h
    exact lv_icmp_le hx hb hd (off_eq pc a) (fun q => g (by rwa [if_pos q] at h)) (fun q => g (by rwa [if_neg q] at h))

set_option maxHeartbeats 1000000 in
theorem s_ifnull {z : Int} (C : Cx p s m args c cc nL own D cA ov aR0 B nS xs) (I : Inv s nL D cA ov aR0 B nS xs a0 b0 dir ad M H locs ls L S) (K : KK p l e R s m args below meth c Q nL D cA ov aR0 B nS xs a0 b0 dir ad al M k out)
    (hok : okF own nL cc pc (.ifnull z, len, (a, b, d), v, w, brs) = true) (h : astep al cs (.ifnull z, len, (a, b, d), v, w, brs) pc L S M k = some out) : W p l e R s m args below meth c H locs (M.1.2.2.2.1 - a0) (M.1.2.2.2.2 - b0) Q (F0 m pc ls (S.map (cv ad ov))) := by
  obtain ⟨hx, hb, hml, hown, hts, hSF, hB⟩ := C
  obtain ⟨hR, hRO, hS, hL, hvS, hvL, hro, hac, has⟩ := I
  obtain ⟨hd, rfl⟩ : decode cc pc = .ok (.ifnull ((a : Int) - pc), 3) ∧ len = 3 := by simpa [okF, nOK, okE, okD] using hok
  have g : ∀ {pc' x S}, (∀ v ∈ x :: S, vok dir v) → k pc' L S M = some out → W p l e R s m args below meth c H locs (M.1.2.2.2.1 - a0) (M.1.2.2.2.2 - b0) Q (F0 m pc' ls (S.map (cv ad ov))) := fun hv h => K _ _ _ _ h (Rel.of rfl) dir ad H locs ls Ext.rf ⟨hR, hRO, hS, hL, vT1 hv, hvL, hro, hac, has⟩
  rcases S with _ | ⟨(x | x) | _ | ⟨ci, ii⟩, S⟩ <;> try exact ons h
  · exact lv_ifnullN (tgt := a) hx hb hd (off_eq pc a) (g hvS h)
  · have h : (bif Nat.beq ci 34 then none else k (pc + 3) L S M) = some out := h
    have hc : ¬ ci = 34 := fun q => by
      subst q
      exact ons h
    have hc2 : Nat.beq ci 34 = false := by
      cases hq : Nat.beq ci 34
      · rfl
      · exact absurd (Nat.eq_of_beq_eq_true hq) hc
    rw [hc2] at h
    have e1 : cv ad ov (.inr (some (ci, ii))) = .ref (ad ci ii) := if_neg hc
    show W p l e R s m args below meth c H locs _ _ Q (F0 m pc ls (cv ad ov (.inr (some (ci, ii))) :: S.map (cv ad ov)))
    rw [e1]
    exact lv_ifnull hx hb hd (g hvS h)

set_option maxHeartbeats 1000000 in
theorem s_ifnonnull {z : Int} (C : Cx p s m args c cc nL own D cA ov aR0 B nS xs) (I : Inv s nL D cA ov aR0 B nS xs a0 b0 dir ad M H locs ls L S) (K : KK p l e R s m args below meth c Q nL D cA ov aR0 B nS xs a0 b0 dir ad al M k out)
    (hok : okF own nL cc pc (.ifnonnull z, len, (a, b, d), v, w, brs) = true) (h : astep al cs (.ifnonnull z, len, (a, b, d), v, w, brs) pc L S M k = some out) : W p l e R s m args below meth c H locs (M.1.2.2.2.1 - a0) (M.1.2.2.2.2 - b0) Q (F0 m pc ls (S.map (cv ad ov))) := by
  obtain ⟨hx, hb, hml, hown, hts, hSF, hB⟩ := C
  obtain ⟨hR, hRO, hS, hL, hvS, hvL, hro, hac, has⟩ := I
  obtain ⟨hd, rfl⟩ : decode cc pc = .ok (.ifnonnull ((a : Int) - pc), 3) ∧ len = 3 := by simpa [okF, nOK, okE, okD] using hok
  have g : ∀ {pc' x S}, (∀ v ∈ x :: S, vok dir v) → k pc' L S M = some out → W p l e R s m args below meth c H locs (M.1.2.2.2.1 - a0) (M.1.2.2.2.2 - b0) Q (F0 m pc' ls (S.map (cv ad ov))) := fun hv h => K _ _ _ _ h (Rel.of rfl) dir ad H locs ls Ext.rf ⟨hR, hRO, hS, hL, vT1 hv, hvL, hro, hac, has⟩
  rcases S with _ | ⟨(x | x) | _ | ⟨ci, ii⟩, S⟩ <;> try exact ons h
  · exact lv_ifnonnullN hx hb hd (g hvS h)
  · have h : (bif Nat.beq ci 34 then none else k a L S M) = some out := h
    have hc : ¬ ci = 34 := fun q => by
      subst q
      exact ons h
    have hc2 : Nat.beq ci 34 = false := by
      cases hq : Nat.beq ci 34
      · rfl
      · exact absurd (Nat.eq_of_beq_eq_true hq) hc
    rw [hc2] at h
    have e1 : cv ad ov (.inr (some (ci, ii))) = .ref (ad ci ii) := if_neg hc
    show W p l e R s m args below meth c H locs _ _ Q (F0 m pc ls (cv ad ov (.inr (some (ci, ii))) :: S.map (cv ad ov)))
    rw [e1]
    exact lv_ifnonnull (tgt := a) hx hb hd (off_eq pc a) (g hvS h)
end STP
end
section
/-! ONE INSTRUCTION, the heap: fields, rows, statics, switches, Math, copies, and what makes -/
theorem ws0 : u_ws RX0 TX0 5 = [114, 116, 118, 120, 122].filterMap (fun i => lw_tbl[i]?) := by decide +kernel
theorem ws1 : u_ws RX1 TX1 3 = [255, 257, 259].filterMap (fun i => lw_tbl[i]?) := by decide +kernel
theorem ws2 : u_ws RX2 TX2 7 = [210, 212, 214, 216, 218, 220, 222].filterMap (fun i => lw_tbl[i]?) := by decide +kernel
theorem ws3 : u_ws RX3 TX3 2 = [233, 235].filterMap (fun i => lw_tbl[i]?) := by decide +kernel
theorem ws4 : u_ws RX4 TX4 3 = [138, 140, 142].filterMap (fun i => lw_tbl[i]?) := by decide +kernel
theorem ws5 : u_ws RX5 TX5 12 = [168, 170, 172, 174, 176, 178, 180, 182, 184, 186, 188, 190].filterMap (fun i => lw_tbl[i]?) := by decide +kernel
theorem ws6 : u_ws RX6 TX6 15 = [278, 280, 282, 284, 286, 288, 290, 292, 294, 296, 298, 300, 302, 304, 306].filterMap (fun i => lw_tbl[i]?) := by decide +kernel
theorem ws7 : u_ws RX7 TX7 33 = [969, 971, 973, 975, 977, 979, 981, 983, 985, 987, 989, 991, 993, 995, 997, 999, 1001, 1003, 1005, 1007, 1009, 1011, 1013, 1015, 1017, 1019, 1021, 1023, 1025, 1027, 1029, 1031, 1033].filterMap (fun i => lw_tbl[i]?) := by decide +kernel
theorem ws_in {l : List Cond} {ps : List Nat} (h : l = ps.filterMap (fun i => lw_tbl[i]?)) (hg : l.all goodWord = true) : ∀ w ∈ l, w ∈ WSg := fun w hw => by
  have h1 := List.all_eq_true.mp hg w hw
  rw [h] at hw
  obtain ⟨i, -, hi⟩ := List.mem_filterMap.mp hw
  exact List.mem_filter.mpr ⟨List.mem_of_getElem? hi, h1⟩
theorem uws_in {c : Nat} (hc : c < 8) : ∀ w ∈ u_ws (cn c) (TT c) (NF c), w ∈ WSg := by
  match c, hc with
  | 0, _ => exact ws_in ws0 (by decide +kernel)
  | 1, _ => exact ws_in ws1 (by decide +kernel)
  | 2, _ => exact ws_in ws2 (by decide +kernel)
  | 3, _ => exact ws_in ws3 (by decide +kernel)
  | 4, _ => exact ws_in ws4 (by decide +kernel)
  | 5, _ => exact ws_in ws5 (by decide +kernel)
  | 6, _ => exact ws_in ws6 (by decide +kernel)
  | 7, _ => exact ws_in ws7 (by decide +kernel)
  | n + 8, h => exact absurd h (by omega)
theorem vw_at {c : Nat} (hc : c < 8) : vwCl[c]? = some (cn c, TT c, NF c) := by
  match c, hc with
  | 0, _ => rfl
  | 1, _ => rfl
  | 2, _ => rfl
  | 3, _ => rfl
  | 4, _ => rfl
  | 5, _ => rfl
  | 6, _ => rfl
  | 7, _ => rfl
  | n + 8, h => exact absurd h (by omega)
def tyT (c k : Nat) : FieldType := match c with
  | 0 => tyX0 k
  | 1 => tyX1 k
  | 2 => tyX2 k
  | 3 => tyX3 k
  | 4 => tyX4 k
  | 5 => tyX5 k
  | 6 => tyX6 k
  | _ => tyX7 k
theorem tyT_ok {c : Nat} (hc : c < 8) : ∀ k, k < NF c → parseFieldDescriptor (TT c k).2.2.1 = some (tyT c k) := by
  match c, hc with
  | 0, _ => exact tyX0_ok
  | 1, _ => exact tyX1_ok
  | 2, _ => exact tyX2_ok
  | 3, _ => exact tyX3_ok
  | 4, _ => exact tyX4_ok
  | 5, _ => exact tyX5_ok
  | 6, _ => exact tyX6_ok
  | 7, _ => exact tyX7_ok
  | n + 8, h => exact absurd h (by omega)
theorem nmT_ok {c : Nat} (hc : c < 8) : ∀ a, a < NF c → ∀ b, b < NF c → a ≠ b → (TT c a).2.1 ≠ (TT c b).2.1 := by
  match c, hc with
  | 0, _ => exact nmX0
  | 1, _ => exact nmX1
  | 2, _ => exact nmX2
  | 3, _ => exact nmX3
  | 4, _ => exact nmX4
  | 5, _ => exact nmX5
  | 6, _ => exact nmX6
  | 7, _ => exact nmX7
  | n + 8, h => exact absurd h (by omega)
/-- every field: 0 an int and not final; 1 a truth, not final; 4 a reference, final, of its own class -/
def fkOK (c k : Nat) : Bool := match sk c k with
  | 0 => decide (tyT c k = .int) && !(TT c k).2.2.2
  | 1 => decide (tyT c k = .boolean) && !(TT c k).2.2.2
  | 4 => (TT c k).2.2.2 && decide ((TT c k).1 = cn c) && (match tyT c k with
    | .object _ => true
    | .array _ => true
    | _ => false)
  | _ => false
theorem fk_all : (List.range 8).all (fun c => (List.range (NF c)).all (fun k => fkOK c k)) = true := by decide +kernel
theorem fk_of {c k : Nat} (hc : c < 8) (hk : k < NF c) : fkOK c k = true := List.all_eq_true.mp (List.all_eq_true.mp fk_all c (List.mem_range.mpr hc)) k (List.mem_range.mpr hk)
theorem flE_of {own idx c k : Nat} (h : flE own idx c k = true) : c < 8 ∧ k < NF c ∧ Cond.fieldLink (cn own) idx (TT c k).1 (TT c k).2.1 (TT c k).2.2.1 ∈ WSg := by
  obtain ⟨e, he, h⟩ := List.any_eq_true.mp h
  simp only [Bool.and_eq_true, Nat.beq_eq] at h
  obtain ⟨⟨⟨rfl, rfl⟩, rfl⟩, rfl⟩ := h
  have h2 := List.all_eq_true.mp FLt_ok e he
  simp only [Bool.and_eq_true, decide_eq_true_eq] at h2
  exact ⟨h2.1.1, h2.1.2, posOK_mem h2.2⟩
theorem slE_of {own idx a : Nat} (h : slE own idx a = true) : ∃ e ∈ SLt, e.2.2.1 = a ∧ Cond.fieldLink (cn own) idx e.2.2.2.1 e.2.2.2.2.1 e.2.2.2.2.2.1 ∈ WSg := by
  obtain ⟨e, he, h⟩ := List.any_eq_true.mp h
  simp only [Bool.and_eq_true, Nat.beq_eq] at h
  obtain ⟨⟨rfl, rfl⟩, rfl⟩ := h
  exact ⟨e, he, rfl, posOK_mem (List.all_eq_true.mp SLt_ok e he)⟩
def slN (a : Nat) : String × String × String := match a with
  | 0 => ("java/lang/String", "COMPACT_STRINGS", "Z")
  | 32 => ("AddressedToYou", "KIND_ABOVE", "[I")
  | 34 => ("jdk/internal/util/Preconditions", "SIOOBE_FORMATTER", "Ljava/util/function/BiFunction;")
  | 100 => ("java/lang/String", "value", "[B")
  | _ => ("java/lang/String", "coder", "B")
theorem SLt_names : SLt.all (fun e => decide ((e.2.2.2.1, e.2.2.2.2.1, e.2.2.2.2.2.1) = slN e.2.2.1)) = true := by decide +kernel
theorem slE_w {own idx a : Nat} (h : slE own idx a = true) : Cond.fieldLink (cn own) idx (slN a).1 (slN a).2.1 (slN a).2.2 ∈ WSg := by
  obtain ⟨e, he, rfl, h1⟩ := slE_of h
  have h2 := List.all_eq_true.mp SLt_names e he
  simp only [decide_eq_true_eq] at h2
  rw [← h2]
  exact h1
theorem blE_w {own idx a : Nat} (h : blE own idx a = true) : Cond.methodLink (cn own) idx (blY a) ∈ WSg := by
  obtain ⟨e, he, h⟩ := List.any_eq_true.mp h
  simp only [Bool.and_eq_true, Nat.beq_eq] at h
  obtain ⟨⟨rfl, rfl⟩, rfl⟩ := h
  have h2 := List.all_eq_true.mp BLt_ok e he
  simp only [Bool.and_eq_true] at h2
  exact posOK_mem h2.2
theorem nlE_w {own idx : Nat} {c : String} (h : nlE own idx c = true) : Cond.classLink (cn own) idx c ∈ WSg := by
  obtain ⟨e, he, h⟩ := List.any_eq_true.mp h
  simp only [Bool.and_eq_true, Nat.beq_eq, decide_eq_true_eq] at h
  obtain ⟨⟨rfl, rfl⟩, rfl⟩ := h
  exact posOK_mem (List.all_eq_true.mp NLt_ok e he)
/-- entries -/
theorem ent_obj {cA : Nat → ClassId} {ad : Nat → Nat → Nat} {M : Mem} {c i : Nat} (h : c < 8) : ent cA ad M c i = .inr (c, fsL ad M c i) := if_pos h
theorem isIA_ge {c : Nat} (h : isIA c = true) : 40 ≤ c ∧ c ≤ 68 := by
  simp only [isIA, Bool.and_eq_true, Nat.ble_eq] at h
  exact h
theorem isLA_ge {c : Nat} (h : isLA c = true) : 20 ≤ c ∧ c ≤ 21 := by
  simp only [isLA, Bool.or_eq_true, Nat.beq_eq] at h
  omega
theorem isRA_ge {c : Nat} (h : isRA c = true) : 22 ≤ c ∧ c ≤ 26 := by
  simp only [isRA, Bool.and_eq_true, Nat.ble_eq] at h
  exact h
theorem isIA_no {c : Nat} (h : c < 40) : isIA c = false := by
  cases e : isIA c
  · rfl
  · have := isIA_ge e; omega
theorem isLA_no {c : Nat} (h : c < 20 ∨ 22 ≤ c) : isLA c = false := by
  cases e : isLA c
  · rfl
  · have := isLA_ge e; omega
theorem ent_ia {cA : Nat → ClassId} {ad : Nat → Nat → Nat} {M : Mem} {c i : Nat} (h : isIA c = true) : ent cA ad M c i = .inl (cA 0, M.1.2.1 c i, .inl (M.2.1 c i)) := by
  have := isIA_ge h
  unfold ent
  rw [if_neg (by omega), if_pos h]
theorem ent_la {cA : Nat → ClassId} {ad : Nat → Nat → Nat} {M : Mem} {c i : Nat} (h : isLA c = true) : ent cA ad M c i = .inl (cA 1, M.1.2.1 c i, .inr (.inl (M.2.2 c i))) := by
  have := isLA_ge h
  unfold ent
  rw [if_neg (by omega), if_neg (by rw [isIA_no (by omega)]; decide), if_pos h]
theorem ent_ra {cA : Nat → ClassId} {ad : Nat → Nat → Nat} {M : Mem} {c i : Nat} (h : isRA c = true) : ent cA ad M c i = .inl (cA (tyIx c), M.1.2.1 c i, .inr (.inr (.inr (.inr (fun j => (M.1.2.2.1 c i j).map (adq ad)))))) := by
  have := isRA_ge h
  unfold ent
  rw [if_neg (by omega), if_neg (by rw [isIA_no (by omega)]; decide), if_neg (by rw [isLA_no (by omega)]; decide)]
theorem ent_congr {cA : Nat → ClassId} {ad : Nat → Nat → Nat} {M M' : Mem} {c i : Nat} (h1 : M'.2.1 c i = M.2.1 c i) (h2 : M'.2.2 c i = M.2.2 c i) (h3 : M'.1.2.2.1 c i = M.1.2.2.1 c i) (h4 : M'.1.2.1 c i = M.1.2.1 c i) : ent cA ad M' c i = ent cA ad M c i := by
  have hf : fsL ad M' c i = fsL ad M c i := by
    unfold fsL
    apply List.map_congr_left
    intro k _
    unfold fV
    rw [h1, h3]
  unfold ent
  rw [hf, h1, h2, h3, h4]
theorem upI_ne {mi : MI} {c i k : Nat} {x : Int32} {q : Nat × Nat} (h : q ≠ (c, i)) : upI mi c i k x q.1 q.2 = mi q.1 q.2 := by
  funext k'
  unfold upI
  rw [if_neg (fun e => h (Prod.ext e.1 e.2.1))]
theorem upL_ne {ml : MLg} {c i k : Nat} {x : Int64} {q : Nat × Nat} (h : q ≠ (c, i)) : upL ml c i k x q.1 q.2 = ml q.1 q.2 := by
  funext k'
  unfold upL
  rw [if_neg (fun e => h (Prod.ext e.1 e.2.1))]
theorem upI_eq {mi : MI} {c i k : Nat} {x : Int32} : upI mi c i k x c i = upd (mi c i) k x := by
  funext k'
  unfold upI upd
  by_cases e : k' = k
  · rw [if_pos ⟨rfl, rfl, e⟩, if_pos e]
  · rw [if_neg (fun q => e q.2.2), if_neg e]
theorem upL_eq {ml : MLg} {c i k : Nat} {x : Int64} : upL ml c i k x c i = vp_updL (ml c i) k x := by
  funext k'
  unfold upL vp_updL
  by_cases e : k' = k
  · rw [if_pos ⟨rfl, rfl, e⟩, if_pos e]
  · rw [if_neg (fun q => e q.2.2), if_neg e]
theorem fsL_at {ad : Nat → Nat → Nat} {M : Mem} {c i k : Nat} (hk : k < NF c) : (fsL ad M c i)[k]? = some (fV ad M c i k) := by
  unfold fsL
  rw [List.getElem?_map, List.getElem?_range hk]
  rfl
theorem fsL_len {ad : Nat → Nat → Nat} {M : Mem} {c i : Nat} : (fsL ad M c i).length = NF c := by
  unfold fsL
  rw [List.length_map, List.length_range]
theorem fsL_set {ad : Nat → Nat → Nat} {M M' : Mem} {c i k : Nat} (v : Value) (hk : k < NF c) (h1 : fV ad M' c i k = v) (h2 : ∀ j, j ≠ k → fV ad M' c i j = fV ad M c i j) : fsL ad M' c i = (fsL ad M c i).set k v := by
  apply List.ext_getElem?
  intro j
  rw [List.getElem?_set]
  by_cases e : k = j
  · subst e
    rw [if_pos rfl, if_pos (by rw [fsL_len]; exact hk), fsL_at hk, h1]
  · rw [if_neg e]
    by_cases hj : j < NF c
    · rw [fsL_at hj, fsL_at hj, h2 j (fun q => e q.symm)]
    · rw [List.getElem?_eq_none (by rw [fsL_len]; omega), List.getElem?_eq_none (by rw [fsL_len]; omega)]
theorem Rep.ro {D : va_G} {cA : Nat → ClassId} {ad : Nat → Nat → Nat} {dir : List (Nat × Nat)} {B : Nat} {M : Mem} {H : Heap} (h : Rep D cA ad dir B M H) {c i : Nat} (hm : (c, i) ∈ dir ∨ roV (c, i)) (hc : isW c = true) : (c, i) ∈ dir := by
  rcases hm with hm | hm
  · exact hm
  · have h1 := hm.rng
    have h2 := isW_cases hc
    dsimp only at h1
    omega
theorem Rep.nro {D : va_G} {cA : Nat → ClassId} {ad : Nat → Nat → Nat} {dir : List (Nat × Nat)} {B : Nat} {M : Mem} {H : Heap} (h : Rep D cA ad dir B M H) {c i : Nat} (hm : (c, i) ∈ dir ∨ roV (c, i)) (hc : 30 ≤ c ∧ c < 40) : roV (c, i) := by
  rcases hm with hm | hm
  · have h2 := isW_cases (h.2.2.1 _ hm)
    dsimp only at h2
    omega
  · exact hm
/-- a field's or a place's reference, as a value -/
theorem Rep.cvr {D : va_G} {cA : Nat → ClassId} {ad : Nat → Nat → Nat} {dir : List (Nat × Nat)} {B : Nat} {M : Mem} {H : Heap} (h : Rep D cA ad dir B M H) (ov : Value) {c i k : Nat} (hm : (c, i) ∈ dir) : va_rf ((M.1.2.2.1 c i k).map (adq ad)) = cv ad ov (.inr (M.1.2.2.1 c i k)) ∧ vok dir (.inr (M.1.2.2.1 c i k)) := by
  cases e : M.1.2.2.1 c i k with
  | none => exact ⟨rfl, trivial⟩
  | some q =>
    have hq := h.2.2.2.2.2 c i k q hm e
    have h2 := isW_cases (h.2.2.1 _ hq)
    refine ⟨?_, Or.inl hq⟩
    show Value.ref (ad q.1 q.2) = if q.1 = 34 then ov else .ref (ad q.1 q.2)
    rw [if_neg (by omega)]
theorem ROm.wr {nS : Nat} {xs : Nat → Int32} {M : Mem} (h : ROm nS xs M) {c i k : Nat} {x : Int32} (hc : c < 30 ∨ 40 ≤ c) (ml : MLg) : ROm nS xs (M.1, (upI M.2.1 c i k x, ml)) := by
  have e : ∀ c' i', 30 ≤ c' → c' < 40 → upI M.2.1 c i k x c' i' = M.2.1 c' i' := fun c' i' h1 h2 => upI_ne (q := (c', i')) (fun z => by cases z; omega)
  obtain ⟨h1, h2, h3, h4, h5⟩ := h
  refine ⟨fun j hj => ⟨(h1 j hj).1, fun z => ?_, ?_, (h1 j hj).2.2.2⟩, h2, fun z => ?_, h4, fun z => ?_⟩
  · show upI M.2.1 c i k x 30 j z = _
    rw [e 30 j (by omega) (by omega)]; exact (h1 j hj).2.1 z
  · show upI M.2.1 c i k x 31 j 1 = _
    rw [e 31 j (by omega) (by omega)]; exact (h1 j hj).2.2.1
  · show upI M.2.1 c i k x 32 0 z = _
    rw [e 32 0 (by omega) (by omega)]; exact h3 z
  · show upI M.2.1 c i k x 33 0 z = _
    rw [e 33 0 (by omega) (by omega)]; exact h5 z
theorem cv_ne {ad : Nat → Nat → Nat} {ov : Value} {c i : Nat} (h : ¬ c = 34) : cv ad ov (.inr (some (c, i))) = .ref (ad c i) := if_neg h
theorem Rep.put {D : va_G} {cA : Nat → ClassId} {ad : Nat → Nat → Nat} {dir : List (Nat × Nat)} {B : Nat} {M M' : Mem} {H H' : Heap} (h : Rep D cA ad dir B M H) {q0 c i : Nat} (hq : dir[q0]? = some (c, i)) {e : va_E}
    (hP : va_P D vwCl ((wl cA ad M dir).set q0 (ad c i, e)) H') (hD : va_D (fun q => B ≤ q) ((wl cA ad M dir).set q0 (ad c i, e))) (h1 : ent cA ad M' c i = e) (h2 : ∀ q ∈ dir, q ≠ (c, i) → ent cA ad M' q.1 q.2 = ent cA ad M q.1 q.2) (h3 : M'.1.1 = M.1.1) (h4 : ∀ c i k q, (c, i) ∈ dir → M'.1.2.2.1 c i k = some q → q ∈ dir) : Rep D cA ad dir B M' H' := by
  obtain ⟨r1, r2, r3, r4, r5, r6⟩ := h
  rw [wl_set r2 hq h1 h2] at hP hD
  exact ⟨hP, hD, r3, fun c i w l => r4 c i w (by rw [← h3]; exact l), fun c i w => by rw [h3]; exact r5 c i w, h4⟩

section HST
variable {p : Program} {l : Launch} {e : Env} {R : Room} {s : State} {m : MethodId} {args : Array Value} {below : List Frame} {meth : Method} {c : Code} {Q : State → Prop}
variable {D : va_G} {cA : Nat → ClassId} {ov : Value} {aR0 : Nat → Nat → Nat} {B nS : Nat} {xs : Nat → Int32} {cc : ByteArray} {nL own a0 b0 : Nat}
variable {al : Bool} {cs : CS} {pc : Nat} {L : LV} {S : List AV} {M : Mem} {k : Nat → LV → List AV → Mem → Option Out} {out : Out}
variable {dir : List (Nat × Nat)} {ad : Nat → Nat → Nat} {H : Heap} {locs : List Loc} {ls : Array Slot} {len a b d : Nat} {v : Int32} {w : Int64} {brs : List (Int32 × Nat)}

set_option maxHeartbeats 1000000 in
theorem s_getfield {z : Nat} (C : Cx p s m args c cc nL own D cA ov aR0 B nS xs) (I : Inv s nL D cA ov aR0 B nS xs a0 b0 dir ad M H locs ls L S) (K : KK p l e R s m args below meth c Q nL D cA ov aR0 B nS xs a0 b0 dir ad al M k out)
    (hok : okF own nL cc pc (.getfield z, len, (a, b, d), v, w, brs) = true) (h : astep al cs (.getfield z, len, (a, b, d), v, w, brs) pc L S M k = some out) : W p l e R s m args below meth c H locs (M.1.2.2.2.1 - a0) (M.1.2.2.2.2 - b0) Q (F0 m pc ls (S.map (cv ad ov))) := by
  obtain ⟨hx, hb, hml, hown, hts, hSF, hB⟩ := C
  obtain ⟨hR, hRO, hS, hL, hvS, hvL, hro, hac, has⟩ := I
  obtain ⟨h1, h2, ⟨h3, h4, h5, h6⟩, h7, h8, h9, h10, h11, h12, h13, ho⟩ := hSF
  simp only [okF, nOK, okE, okD, Bool.and_eq_true, Bool.or_eq_true, decide_eq_true_eq, Nat.beq_eq, Bool.true_and] at hok
  obtain ⟨⟨hd, rfl⟩, hok⟩ := hok
  rcases S with _ | ⟨(x | x) | _ | ⟨ci, ii⟩, S⟩ <;> try exact ons h
  have h : (bif Nat.beq ci a then (match sk a b with
          | 4 => k (pc + 3) L (.inr (M.1.2.2.1 ci ii b) :: S) M
          | _ => k (pc + 3) L (aI (M.2.1 ci ii b) :: S) M) else none) = some out := h
  cases hc : Nat.beq ci a with
  | false => rw [hc] at h; exact ons h
  | true =>
  rw [hc] at h
  have hca : ci = a := Nat.eq_of_beq_eq_true hc
  subst hca
  have hv := vH1 hvS
  rcases hok with (hf | ⟨⟨rfl, rfl⟩, hf⟩) | ⟨⟨rfl, rfl⟩, hf⟩
  · obtain ⟨ha, hb2, hw⟩ := flE_of hf
    have hm : (ci, ii) ∈ dir := hR.ro hv (by simp [isW, ha])
    obtain ⟨q0, hq0, he⟩ := wl_at (cA := cA) (ad := ad) (m := M) hm
    rw [ent_obj ha] at he
    have hcv : cv ad ov (.inr (some (ci, ii))) = .ref (ad ci ii) := if_neg (show ¬ ci = 34 by omega)
    have go : ∀ {z : Value}, fV ad M ci ii b = z → W p l e R s m args below meth c H locs (M.1.2.2.2.1 - a0) (M.1.2.2.2.2 - b0) Q (F0 m (pc + 3) ls (z :: S.map (cv ad ov))) → W p l e R s m args below meth c H locs (M.1.2.2.2.1 - a0) (M.1.2.2.2.2 - b0) Q (F0 m pc ls (cv ad ov (.inr (some (ci, ii))) :: S.map (cv ad ov))) := fun hz kk => by
      rw [hcv]
      exact va_get (D := D) (ci := ci) (C := cn ci) (T := TT ci) (N := NF ci) hx hb hts (uws_in ha) hown h1 hR.1 q0 he (vw_at ha) b hb2 (hts _ hw) (fun _ h9 => h9) (by rw [fsL_at hb2, hz]) hd kk
    by_cases h4 : sk ci b = 4
    · rw [h4] at h
      have e := hR.cvr ov (k := b) hm
      exact go (z := cv ad ov (.inr (M.1.2.2.1 ci ii b))) (by rw [← e.1]; exact if_pos h4) (K _ _ _ _ h (Rel.of rfl) dir ad H locs ls Ext.rf ⟨hR, hRO, hS, hL, vS1 e.2 (vT1 hvS), hvL, hro, hac, has⟩)
    · have h : k (pc + 3) L (aI (M.2.1 ci ii b) :: S) M = some out := by
        revert h
        show (match sk ci b with
          | 4 => k (pc + 3) L (.inr (M.1.2.2.1 ci ii b) :: S) M
          | _ => k (pc + 3) L (aI (M.2.1 ci ii b) :: S) M) = some out → _
        split
        · rename_i e; exact absurd e h4
        · exact id
      exact go (z := .int (M.2.1 ci ii b)) (if_neg h4) (K _ _ _ _ h (Rel.of rfl) dir ad H locs ls Ext.rf ⟨hR, hRO, hS, hL, vS1 trivial (vT1 hvS), hvL, hro, hac, has⟩)
  · have hr := hR.nro hv (by omega)
    have hi : ii < 12 := by rcases hr with hr | hr <;> (dsimp only at hr; omega)
    have h : k (pc + 3) L (.inr (M.1.2.2.1 31 ii 0) :: S) M = some out := h
    rw [(hRO.1 ii hi).2.2.2] at h
    have hcv : cv ad ov (.inr (some (31, ii))) = .ref (aR0 31 ii) := by rw [← hro 31 ii (by omega) (by omega)]; exact cv_ne (by decide)
    have hcv2 : cv ad ov (.inr (some (30, ii))) = .ref (aR0 30 ii) := by rw [← hro 30 ii (by omega) (by omega)]; exact cv_ne (by decide)
    show W p l e R s m args below meth c H locs _ _ Q (F0 m pc ls (cv ad ov (.inr (some (31, ii))) :: S.map (cv ad ov)))
    rw [hcv]
    refine vk_getf hx hb (h12 ii hi).2.2.1 hS hown (hts _ (slE_w hf)) (fun _ h9 => h9) hd ?_
    rw [← hcv2]
    exact K _ _ _ _ h (Rel.of rfl) dir ad H locs ls Ext.rf ⟨hR, hRO, hS, hL, vS1 (Or.inr (Or.inl ⟨by omega, by omega, hi⟩)) (vT1 hvS), hvL, hro, hac, has⟩
  · have hr := hR.nro hv (by omega)
    have hi : ii < 12 := by rcases hr with hr | hr <;> (dsimp only at hr; omega)
    have h : k (pc + 3) L (aI (M.2.1 31 ii 1) :: S) M = some out := h
    rw [(hRO.1 ii hi).2.2.1] at h
    have hcv : cv ad ov (.inr (some (31, ii))) = .ref (aR0 31 ii) := by rw [← hro 31 ii (by omega) (by omega)]; exact cv_ne (by decide)
    show W p l e R s m args below meth c H locs _ _ Q (F0 m pc ls (cv ad ov (.inr (some (31, ii))) :: S.map (cv ad ov)))
    rw [hcv]
    exact vk_getf hx hb (h12 ii hi).2.1 hS hown (hts _ (slE_w hf)) (fun _ h9 => h9) hd (K _ _ _ _ h (Rel.of rfl) dir ad H locs ls Ext.rf ⟨hR, hRO, hS, hL, vS1 trivial (vT1 hvS), hvL, hro, hac, has⟩)

end HST
end
section
/-! ONE INSTRUCTION, the heap, further: stores, rows, statics, switches, Math, copies -/
section HST2
variable {p : Program} {l : Launch} {e : Env} {R : Room} {s : State} {m : MethodId} {args : Array Value} {below : List Frame} {meth : Method} {c : Code} {Q : State → Prop}
variable {D : va_G} {cA : Nat → ClassId} {ov : Value} {aR0 : Nat → Nat → Nat} {B nS : Nat} {xs : Nat → Int32} {cc : ByteArray} {nL own a0 b0 : Nat}
variable {al : Bool} {cs : CS} {pc : Nat} {L : LV} {S : List AV} {M : Mem} {k : Nat → LV → List AV → Mem → Option Out} {out : Out}
variable {dir : List (Nat × Nat)} {ad : Nat → Nat → Nat} {H : Heap} {locs : List Loc} {ls : Array Slot} {len a b d : Nat} {v : Int32} {w : Int64} {brs : List (Int32 × Nat)}

theorem fV_upI_ne {ad : Nat → Nat → Nat} {M : Mem} {c i k j : Nat} {x : Int32} (h : j ≠ k) : fV ad (M.1, (upI M.2.1 c i k x, M.2.2)) c i j = fV ad M c i j := by
  have e : upI M.2.1 c i k x c i j = M.2.1 c i j := by rw [upI_eq]; exact if_neg h
  unfold fV
  show (if sk c j = 4 then _ else Value.int (upI M.2.1 c i k x c i j)) = _
  rw [e]
theorem fV_upI_eq {ad : Nat → Nat → Nat} {M : Mem} {c i k : Nat} {x : Int32} (h : ¬ sk c k = 4) : fV ad (M.1, (upI M.2.1 c i k x, M.2.2)) c i k = .int x := by
  have e : upI M.2.1 c i k x c i k = x := by rw [upI_eq]; exact if_pos rfl
  unfold fV
  rw [if_neg h]
  show Value.int (upI M.2.1 c i k x c i k) = _
  rw [e]
theorem fV_upR_ne {ad : Nat → Nat → Nat} {M : Mem} {c i k j : Nat} {x : Option (Nat × Nat)} (h : j ≠ k) : fV ad ((M.1.1, M.1.2.1, upR M.1.2.2.1 c i k x, M.1.2.2.2.1, M.1.2.2.2.2), M.2) c i j = fV ad M c i j := by
  have e : upR M.1.2.2.1 c i k x c i j = M.1.2.2.1 c i j := if_neg (fun q => h q.2.2)
  unfold fV
  show (if sk c j = 4 then va_rf ((upR M.1.2.2.1 c i k x c i j).map (adq ad)) else Value.int (M.2.1 c i j)) = _
  rw [e]
theorem fV_upR_eq {ad : Nat → Nat → Nat} {M : Mem} {c i k : Nat} {x : Option (Nat × Nat)} (h : sk c k = 4) : fV ad ((M.1.1, M.1.2.1, upR M.1.2.2.1 c i k x, M.1.2.2.2.1, M.1.2.2.2.2), M.2) c i k = va_rf (x.map (adq ad)) := by
  have e : upR M.1.2.2.1 c i k x c i k = x := if_pos ⟨rfl, rfl, rfl⟩
  unfold fV
  rw [if_pos h]
  show va_rf ((upR M.1.2.2.1 c i k x c i k).map (adq ad)) = _
  rw [e]
theorem upR_ne {mr : Nat → Nat → Nat → Option (Nat × Nat)} {c i k : Nat} {x : Option (Nat × Nat)} {q : Nat × Nat} (h : q ≠ (c, i)) : upR mr c i k x q.1 q.2 = mr q.1 q.2 := by
  funext k'
  unfold upR
  rw [if_neg (fun e => h (Prod.ext e.1 e.2.1))]
theorem narrow_bool {x : Int32} (h : x = 0 ∨ x = 1) : narrow .boolean (.int x) = .int x ∧ fits .boolean (.int x) = true := by
  rcases h with rfl | rfl <;> exact ⟨by decide +kernel, by decide +kernel⟩

theorem ROm.wrR {nS : Nat} {xs : Nat → Int32} {M : Mem} (h : ROm nS xs M) {c i k : Nat} {x : Option (Nat × Nat)} (hc : c < 30 ∨ 40 ≤ c) (cn' : Nat → Nat) (a1 a2 : Nat) : ROm nS xs ((cn', M.1.2.1, upR M.1.2.2.1 c i k x, a1, a2), M.2) := by
  obtain ⟨h1, h2, h3, h4, h5⟩ := h
  refine ⟨fun j hj => ⟨(h1 j hj).1, (h1 j hj).2.1, (h1 j hj).2.2.1, ?_⟩, h2, h3, h4, h5⟩
  show upR M.1.2.2.1 c i k x 31 j 0 = _
  have e : upR M.1.2.2.1 c i k x 31 j = M.1.2.2.1 31 j := upR_ne (q := (31, j)) (fun z => by cases z; omega)
  rw [e]
  exact (h1 j hj).2.2.2

set_option maxHeartbeats 1000000 in
theorem s_putfield {z : Nat} (hinit : al = true → own < 8 → meth.name = "<init>") (C : Cx p s m args c cc nL own D cA ov aR0 B nS xs) (I : Inv s nL D cA ov aR0 B nS xs a0 b0 dir ad M H locs ls L S) (K : KK p l e R s m args below meth c Q nL D cA ov aR0 B nS xs a0 b0 dir ad al M k out)
    (hok : okF own nL cc pc (.putfield z, len, (a, b, d), v, w, brs) = true) (h : astep al cs (.putfield z, len, (a, b, d), v, w, brs) pc L S M k = some out) : W p l e R s m args below meth c H locs (M.1.2.2.2.1 - a0) (M.1.2.2.2.2 - b0) Q (F0 m pc ls (S.map (cv ad ov))) := by
  obtain ⟨hx, hb, hml, hown, hts, hSF, hB⟩ := C
  obtain ⟨hR, hRO, hS, hL, hvS, hvL, hro, hac, has⟩ := I
  obtain ⟨h1, h2, ⟨h3, h4, h5, h6⟩, h7, h8, h9, h10, h11, h12, h13, ho⟩ := hSF
  simp only [okF, nOK, okE, okD, Bool.and_eq_true, Bool.or_eq_true, decide_eq_true_eq, Nat.beq_eq] at hok
  obtain ⟨hown4, ⟨hd, rfl⟩, hf⟩ := hok
  obtain ⟨ha, hb2, hw⟩ := flE_of hf
  have hfk := fk_of ha hb2
  have int : ∀ {x : Int32} {ii : Nat} {S : List AV} {ty : FieldType}, ¬ sk a b = 4 → (∀ v ∈ aI x :: aR a ii :: S, vok dir v) → tyT a b = ty → (TT a b).2.2.2 = false → narrow ty (.int x) = .int x → fits ty (.int x) = true → k (pc + 3) L S (M.1, (upI M.2.1 a ii b x, M.2.2)) = some out → W p l e R s m args below meth c H locs (M.1.2.2.2.1 - a0) (M.1.2.2.2.2 - b0) Q (F0 m pc ls ((aI x :: aR a ii :: S).map (cv ad ov))) := by
    intro x ii S ty hs hvS hty hfin hn hfit h
    have hm : (a, ii) ∈ dir := hR.ro (vH1 (vT1 hvS)) (by simp [isW, ha])
    obtain ⟨q0, hq0, he⟩ := wl_at (cA := cA) (ad := ad) (m := M) hm
    rw [ent_obj ha] at he
    have hcv : cv ad ov (.inr (some (a, ii))) = .ref (ad a ii) := cv_ne (by omega)
    show W p l e R s m args below meth c H locs _ _ Q (F0 m pc ls (Value.int x :: cv ad ov (.inr (some (a, ii))) :: S.map (cv ad ov)))
    rw [hcv]
    refine va_put (D := D) (ci := a) (v := .int x) (ty := ty) (C := cn a) (T := TT a) (N := NF a) hx hb hts (uws_in ha) (tyT a) (tyT_ok ha) (nmT_ok ha) hown h1 hR.1 hR.2.1 hS q0 he (vw_at ha) b hb2 (hts _ hw) (fun _ h9 => h9) hfin (by rw [tyT_ok ha b hb2, hty]) hn hfit (by rw [fsL_len]; exact hb2) hd (fun H1 locs1 hP1 hD1 hS1 => ?_)
    refine K _ _ _ _ h (Rel.of rfl) dir ad H1 locs1 ls Ext.rf ⟨hR.put hq0 hP1 hD1 ?_ (fun q _ hq => ent_congr (upI_ne hq) rfl rfl rfl) rfl hR.2.2.2.2.2, hRO.wr (Or.inl (by omega)) _, hS1, hL, vT1 (vT1 hvS), hvL, hro, hac, has⟩
    rw [ent_obj ha, fsL_set (.int x) hb2 (fV_upI_eq hs) (fun j hj => fV_upI_ne hj)]
  have hs3 : (sk a b = 0 ∧ tyT a b = .int ∧ (TT a b).2.2.2 = false) ∨ (sk a b = 1 ∧ tyT a b = .boolean ∧ (TT a b).2.2.2 = false) ∨ (sk a b = 4 ∧ (TT a b).2.2.2 = true ∧ (TT a b).1 = cn a ∧ ∃ ty, tyT a b = ty ∧ ((∃ n, ty = .object n) ∨ ∃ t, ty = .array t)) := by
    unfold fkOK at hfk
    split at hfk
    · rename_i e
      simp only [Bool.and_eq_true, decide_eq_true_eq, Bool.not_eq_true'] at hfk
      exact Or.inl ⟨e, hfk.1, hfk.2⟩
    · rename_i e
      simp only [Bool.and_eq_true, decide_eq_true_eq, Bool.not_eq_true'] at hfk
      exact Or.inr (Or.inl ⟨e, hfk.1, hfk.2⟩)
    · rename_i e
      simp only [Bool.and_eq_true, decide_eq_true_eq] at hfk
      refine Or.inr (Or.inr ⟨e, hfk.1.1, hfk.1.2, _, rfl, ?_⟩)
      have h9 := hfk.2
      split at h9
      · rename_i n e9; exact Or.inl ⟨n, e9⟩
      · rename_i n e9; exact Or.inr ⟨n, e9⟩
      · cases h9
    · cases hfk
  rcases hs3 with ⟨hsk, hty, hfin⟩ | ⟨hsk, hty, hfin⟩ | ⟨hsk, hfin, hdc, ty, hty, htr⟩
  · rcases S with _ | ⟨(x | x) | x, _ | ⟨(y | y) | _ | ⟨ci, ii⟩, S⟩⟩ <;> try (simp [astep, hsk] at h; done)
    have g9 : (bif Nat.beq ci a then k (pc + 3) L S (M.1, (upI M.2.1 ci ii b x, M.2.2)) else none) = some out := by simp only [astep, hsk] at h; exact h
    cases hc : Nat.beq ci a with
    | false => rw [hc] at g9; exact ons g9
    | true =>
    rw [hc] at g9
    have hca : ci = a := Nat.eq_of_beq_eq_true hc
    subst hca
    exact int (by omega) hvS hty hfin rfl rfl g9
  · rcases S with _ | ⟨(x | x) | x, _ | ⟨(y | y) | _ | ⟨ci, ii⟩, S⟩⟩ <;> try (simp [astep, hsk] at h; done)
    have g9 : (bif Nat.beq ci a && (x == 0 || x == 1) then k (pc + 3) L S (M.1, (upI M.2.1 ci ii b x, M.2.2)) else none) = some out := by simp only [astep, hsk] at h; exact h
    cases hc : Nat.beq ci a && (x == 0 || x == 1) with
    | false => rw [hc] at g9; exact ons g9
    | true =>
    rw [hc] at g9
    simp only [Bool.and_eq_true, Bool.or_eq_true, beq_iff_eq, Nat.beq_eq] at hc
    obtain ⟨hca, hx01⟩ := hc
    subst hca
    exact int (by omega) hvS hty hfin (narrow_bool hx01).1 (narrow_bool hx01).2 g9
  · rcases S with _ | ⟨(x | x) | _ | q, _ | ⟨(y | y) | _ | ⟨ci, ii⟩, S⟩⟩ <;> try (simp [astep, hsk] at h; done)
    have g9 : (bif al && Nat.beq ci a && isW q.1 then k (pc + 3) L S ((M.1.1, M.1.2.1, upR M.1.2.2.1 ci ii b (some q), M.1.2.2.2.1, M.1.2.2.2.2), M.2) else none) = some out := by simp only [astep, hsk] at h; exact h
    cases hc : al && Nat.beq ci a && isW q.1 with
    | false => rw [hc] at g9; exact ons g9
    | true =>
    rw [hc] at g9
    simp only [Bool.and_eq_true, Nat.beq_eq] at hc
    obtain ⟨⟨hal, hca⟩, hqw⟩ := hc
    subst hca
    have hoa : own = ci := by
      rw [hsk] at hown4
      simpa using hown4
    have hm : (ci, ii) ∈ dir := hR.ro (vH1 (vT1 hvS)) (by simp [isW, ha])
    obtain ⟨q0, hq0, he⟩ := wl_at (cA := cA) (ad := ad) (m := M) hm
    rw [ent_obj ha] at he
    have hqd : q ∈ dir := hR.ro (vH1 hvS) hqw
    have hq34 := isW_cases hqw
    have hcv : cv ad ov (.inr (some (ci, ii))) = .ref (ad ci ii) := cv_ne (by omega)
    have hcq : cv ad ov (.inr (some q)) = .ref (ad q.1 q.2) := cv_ne (c := q.1) (i := q.2) (by omega)
    show W p l e R s m args below meth c H locs _ _ Q (F0 m pc ls (cv ad ov (.inr (some q)) :: cv ad ov (.inr (some (ci, ii))) :: S.map (cv ad ov)))
    rw [hcv, hcq]
    refine va_putF (D := D) (ci := ci) (v := .ref (ad q.1 q.2)) (ty := ty) (C := cn ci) (T := TT ci) (N := NF ci) hx hb hts (uws_in ha) (tyT ci) (tyT_ok ha) (nmT_ok ha) hown h1 hR.1 hR.2.1 hS q0 he (vw_at ha) b hb2 (hts _ hw) (fun _ h9 => h9) hfin (hinit hal (by omega)) (by rw [hoa]; exact hdc) (by rw [tyT_ok ha b hb2, hty]) (by rcases htr with ⟨n, rfl⟩ | ⟨n, rfl⟩ <;> rfl) (by rcases htr with ⟨n, rfl⟩ | ⟨n, rfl⟩ <;> rfl) (by rw [fsL_len]; exact hb2) hd (fun H1 locs1 hP1 hD1 hS1 => ?_)
    refine K _ _ _ _ g9 (Rel.mk2 hal (Nat.le_refl _) (Nat.le_refl _)) dir ad H1 locs1 ls Ext.rf ⟨hR.put hq0 hP1 hD1 ?_ (fun z _ hz => ent_congr rfl rfl (upR_ne hz) rfl) rfl ?_, hRO.wrR (Or.inl (by omega)) _ _ _, hS1, hL, vT1 (vT1 hvS), hvL, hro, hac, has⟩
    · rw [ent_obj ha, fsL_set (.ref (ad q.1 q.2)) hb2 (fV_upR_eq hsk) (fun j hj => fV_upR_ne hj)]
    · intro c9 i9 k9 z hz hz2
      have hz2 : upR M.1.2.2.1 ci ii b (some q) c9 i9 k9 = some z := hz2
      unfold upR at hz2
      split at hz2
      · rw [← Option.some.inj hz2]; exact hqd
      · exact hR.2.2.2.2.2 c9 i9 k9 z hz hz2

set_option maxHeartbeats 1000000 in
theorem s_iaload (C : Cx p s m args c cc nL own D cA ov aR0 B nS xs) (I : Inv s nL D cA ov aR0 B nS xs a0 b0 dir ad M H locs ls L S) (K : KK p l e R s m args below meth c Q nL D cA ov aR0 B nS xs a0 b0 dir ad al M k out)
    (hok : okF own nL cc pc (.iaload, len, (a, b, d), v, w, brs) = true) (h : astep al cs (.iaload, len, (a, b, d), v, w, brs) pc L S M k = some out) : W p l e R s m args below meth c H locs (M.1.2.2.2.1 - a0) (M.1.2.2.2.2 - b0) Q (F0 m pc ls (S.map (cv ad ov))) := by
  obtain ⟨hx, hb, hml, hown, hts, hSF, hB⟩ := C
  obtain ⟨hR, hRO, hS, hL, hvS, hvL, hro, hac, has⟩ := I
  obtain ⟨h1, h2, ⟨h3, h4, h5, h6⟩, h7, h8, h9, h10, h11, h12, h13, ho⟩ := hSF
  obtain ⟨hd, rfl⟩ : decode cc pc = .ok (.iaload, 1) ∧ len = 1 := by simpa [okF, nOK, okE, okD] using hok
  rcases S with _ | ⟨(j | j) | j, _ | ⟨(y | y) | _ | ⟨ci, ii⟩, S⟩⟩ <;> try exact ons h
  have h : (bif (isIA ci || Nat.beq ci 32 || Nat.beq ci 33) && inB j (M.1.2.1 ci ii) then k (pc + 1) L (aI (M.2.1 ci ii j.toNatClampNeg) :: S) M else none) = some out := h
  cases hc : (isIA ci || Nat.beq ci 32 || Nat.beq ci 33) && inB j (M.1.2.1 ci ii) with
  | false => rw [hc] at h; exact ons h
  | true =>
  rw [hc] at h
  simp only [Bool.and_eq_true, Bool.or_eq_true, Nat.beq_eq] at hc
  obtain ⟨hc, hj⟩ := hc
  have hv := vH1 (vT1 hvS)
  have kk := K _ _ _ _ h (Rel.of rfl) dir ad H locs ls Ext.rf ⟨hR, hRO, hS, hL, vS1 trivial (vT1 (vT1 hvS)), hvL, hro, hac, has⟩
  rcases hc with (hc | rfl) | rfl
  · have hm : (ci, ii) ∈ dir := hR.ro hv (by simp [isW, hc])
    obtain ⟨q0, hq0, he⟩ := wl_at (cA := cA) (ad := ad) (m := M) hm
    rw [ent_ia hc] at he
    have := isIA_ge hc
    have hcv : cv ad ov (.inr (some (ci, ii))) = .ref (ad ci ii) := cv_ne (by omega)
    show W p l e R s m args below meth c H locs _ _ Q (F0 m pc ls (Value.int j :: cv ad ov (.inr (some (ci, ii))) :: S.map (cv ad ov)))
    rw [hcv]
    exact va_iald hx hb h1 hR.1 q0 0 he rfl (inB_in hj) hd kk
  · have hr := hR.nro hv (by omega)
    have hi : ii = 0 := by rcases hr with hr | hr <;> (dsimp only at hr; omega)
    subst hi
    rw [hRO.2.1] at hj
    have hcv : cv ad ov (.inr (some (32, 0))) = .ref (aR0 32 0) := by rw [← hro 32 0 (by omega) (by omega)]; exact cv_ne (by decide)
    show W p l e R s m args below meth c H locs _ _ Q (F0 m pc ls (Value.int j :: cv ad ov (.inr (some (32, 0))) :: S.map (cv ad ov)))
    rw [hcv]
    exact va_ti hx hb h10 hS (inB_in hj) (by rw [← hRO.2.2.1]; rfl) hd kk
  · have hr := hR.nro hv (by omega)
    have hi : ii = 0 := by rcases hr with hr | hr <;> (dsimp only at hr; omega)
    subst hi
    rw [hRO.2.2.2.1] at hj
    have hcv : cv ad ov (.inr (some (33, 0))) = .ref (aR0 33 0) := by rw [← hro 33 0 (by omega) (by omega)]; exact cv_ne (by decide)
    show W p l e R s m args below meth c H locs _ _ Q (F0 m pc ls (Value.int j :: cv ad ov (.inr (some (33, 0))) :: S.map (cv ad ov)))
    rw [hcv]
    exact va_ti hx hb h11 hS (inB_in hj) (by rw [← hRO.2.2.2.2]; rfl) hd kk

set_option maxHeartbeats 1000000 in
theorem s_baload (C : Cx p s m args c cc nL own D cA ov aR0 B nS xs) (I : Inv s nL D cA ov aR0 B nS xs a0 b0 dir ad M H locs ls L S) (K : KK p l e R s m args below meth c Q nL D cA ov aR0 B nS xs a0 b0 dir ad al M k out)
    (hok : okF own nL cc pc (.baload, len, (a, b, d), v, w, brs) = true) (h : astep al cs (.baload, len, (a, b, d), v, w, brs) pc L S M k = some out) : W p l e R s m args below meth c H locs (M.1.2.2.2.1 - a0) (M.1.2.2.2.2 - b0) Q (F0 m pc ls (S.map (cv ad ov))) := by
  obtain ⟨hx, hb, hml, hown, hts, hSF, hB⟩ := C
  obtain ⟨hR, hRO, hS, hL, hvS, hvL, hro, hac, has⟩ := I
  obtain ⟨h1, h2, ⟨h3, h4, h5, h6⟩, h7, h8, h9, h10, h11, h12, h13, ho⟩ := hSF
  obtain ⟨hd, rfl⟩ : decode cc pc = .ok (.baload, 1) ∧ len = 1 := by simpa [okF, nOK, okE, okD] using hok
  rcases S with _ | ⟨(j | j) | j, _ | ⟨(y | y) | _ | ⟨ci, ii⟩, S⟩⟩ <;> try exact ons h
  have h : (bif Nat.beq ci 30 && inB j (M.1.2.1 ci ii) then k (pc + 1) L (aI (M.2.1 ci ii j.toNatClampNeg) :: S) M else none) = some out := h
  cases hc : Nat.beq ci 30 && inB j (M.1.2.1 ci ii) with
  | false => rw [hc] at h; exact ons h
  | true =>
  rw [hc] at h
  simp only [Bool.and_eq_true, Nat.beq_eq] at hc
  obtain ⟨rfl, hj⟩ := hc
  have hv := vH1 (vT1 hvS)
  have kk := K _ _ _ _ h (Rel.of rfl) dir ad H locs ls Ext.rf ⟨hR, hRO, hS, hL, vS1 trivial (vT1 (vT1 hvS)), hvL, hro, hac, has⟩
  have hr := hR.nro hv (by omega)
  have hi : ii < 12 := by rcases hr with hr | hr <;> (dsimp only at hr; omega)
  rw [(hRO.1 ii hi).1] at hj
  have hcv : cv ad ov (.inr (some (30, ii))) = .ref (aR0 30 ii) := by rw [← hro 30 ii (by omega) (by omega)]; exact cv_ne (by decide)
  show W p l e R s m args below meth c H locs _ _ Q (F0 m pc ls (Value.int j :: cv ad ov (.inr (some (30, ii))) :: S.map (cv ad ov)))
  rw [hcv]
  exact va_tb hx hb (h12 ii hi).2.2.2 hS (inB_in hj) (by rw [← (hRO.1 ii hi).2.1]; rfl) hd kk

set_option maxHeartbeats 1000000 in
theorem s_laload (C : Cx p s m args c cc nL own D cA ov aR0 B nS xs) (I : Inv s nL D cA ov aR0 B nS xs a0 b0 dir ad M H locs ls L S) (K : KK p l e R s m args below meth c Q nL D cA ov aR0 B nS xs a0 b0 dir ad al M k out)
    (hok : okF own nL cc pc (.laload, len, (a, b, d), v, w, brs) = true) (h : astep al cs (.laload, len, (a, b, d), v, w, brs) pc L S M k = some out) : W p l e R s m args below meth c H locs (M.1.2.2.2.1 - a0) (M.1.2.2.2.2 - b0) Q (F0 m pc ls (S.map (cv ad ov))) := by
  obtain ⟨hx, hb, hml, hown, hts, hSF, hB⟩ := C
  obtain ⟨hR, hRO, hS, hL, hvS, hvL, hro, hac, has⟩ := I
  obtain ⟨h1, h2, ⟨h3, h4, h5, h6⟩, h7, h8, h9, h10, h11, h12, h13, ho⟩ := hSF
  obtain ⟨hd, rfl⟩ : decode cc pc = .ok (.laload, 1) ∧ len = 1 := by simpa [okF, nOK, okE, okD] using hok
  rcases S with _ | ⟨(j | j) | j, _ | ⟨(y | y) | _ | ⟨ci, ii⟩, S⟩⟩ <;> try exact ons h
  have h : (bif isLA ci && inB j (M.1.2.1 ci ii) then k (pc + 1) L (aL (M.2.2 ci ii j.toNatClampNeg) :: S) M else none) = some out := h
  cases hc : isLA ci && inB j (M.1.2.1 ci ii) with
  | false => rw [hc] at h; exact ons h
  | true =>
  rw [hc] at h
  simp only [Bool.and_eq_true] at hc
  obtain ⟨hc, hj⟩ := hc
  have hv := vH1 (vT1 hvS)
  have kk := K _ _ _ _ h (Rel.of rfl) dir ad H locs ls Ext.rf ⟨hR, hRO, hS, hL, vS1 trivial (vT1 (vT1 hvS)), hvL, hro, hac, has⟩
  have hm : (ci, ii) ∈ dir := hR.ro hv (by simp [isW, hc])
  obtain ⟨q0, hq0, he⟩ := wl_at (cA := cA) (ad := ad) (m := M) hm
  rw [ent_la hc] at he
  have := isLA_ge hc
  have hcv : cv ad ov (.inr (some (ci, ii))) = .ref (ad ci ii) := cv_ne (by omega)
  show W p l e R s m args below meth c H locs _ _ Q (F0 m pc ls (Value.int j :: cv ad ov (.inr (some (ci, ii))) :: S.map (cv ad ov)))
  rw [hcv]
  exact va_lald hx hb h1 hR.1 q0 1 he rfl (inB_in hj) hd kk

theorem tysL_ra {cA : Nat → ClassId} {c : Nat} (h : isRA c = true) : ∃ ty, (tysL cA)[tyIx c]? = some (cA (tyIx c), ty) ∧ ty.isReference = true := by
  have h1 := isRA_ge h
  have h2 := isIA_no (c := c) (by omega)
  have h3 := isLA_no (c := c) (by omega)
  unfold tyIx
  rw [h2, h3]
  have : c = 22 ∨ c = 23 ∨ c = 24 ∨ c = 25 ∨ c = 26 := by omega
  rcases this with rfl | rfl | rfl | rfl | rfl <;> exact ⟨_, rfl, rfl⟩

set_option maxHeartbeats 1000000 in
theorem s_aaload (C : Cx p s m args c cc nL own D cA ov aR0 B nS xs) (I : Inv s nL D cA ov aR0 B nS xs a0 b0 dir ad M H locs ls L S) (K : KK p l e R s m args below meth c Q nL D cA ov aR0 B nS xs a0 b0 dir ad al M k out)
    (hok : okF own nL cc pc (.aaload, len, (a, b, d), v, w, brs) = true) (h : astep al cs (.aaload, len, (a, b, d), v, w, brs) pc L S M k = some out) : W p l e R s m args below meth c H locs (M.1.2.2.2.1 - a0) (M.1.2.2.2.2 - b0) Q (F0 m pc ls (S.map (cv ad ov))) := by
  obtain ⟨hx, hb, hml, hown, hts, hSF, hB⟩ := C
  obtain ⟨hR, hRO, hS, hL, hvS, hvL, hro, hac, has⟩ := I
  obtain ⟨h1, h2, ⟨h3, h4, h5, h6⟩, h7, h8, h9, h10, h11, h12, h13, ho⟩ := hSF
  obtain ⟨hd, rfl⟩ : decode cc pc = .ok (.aaload, 1) ∧ len = 1 := by simpa [okF, nOK, okE, okD] using hok
  rcases S with _ | ⟨(j | j) | j, _ | ⟨(y | y) | _ | ⟨ci, ii⟩, S⟩⟩ <;> try exact ons h
  have h : (bif isRA ci && inB j (M.1.2.1 ci ii) then k (pc + 1) L (.inr (M.1.2.2.1 ci ii j.toNatClampNeg) :: S) M else none) = some out := h
  cases hc : isRA ci && inB j (M.1.2.1 ci ii) with
  | false => rw [hc] at h; exact ons h
  | true =>
  rw [hc] at h
  simp only [Bool.and_eq_true] at hc
  obtain ⟨hc, hj⟩ := hc
  have hv := vH1 (vT1 hvS)
  have hm : (ci, ii) ∈ dir := hR.ro hv (by simp [isW, hc])
  have er := hR.cvr ov (k := j.toNatClampNeg) hm
  have kk := K _ _ _ _ h (Rel.of rfl) dir ad H locs ls Ext.rf ⟨hR, hRO, hS, hL, vS1 er.2 (vT1 (vT1 hvS)), hvL, hro, hac, has⟩
  obtain ⟨q0, hq0, he⟩ := wl_at (cA := cA) (ad := ad) (m := M) hm
  rw [ent_ra hc] at he
  have := isRA_ge hc
  have hcv : cv ad ov (.inr (some (ci, ii))) = .ref (ad ci ii) := cv_ne (by omega)
  show W p l e R s m args below meth c H locs _ _ Q (F0 m pc ls (Value.int j :: cv ad ov (.inr (some (ci, ii))) :: S.map (cv ad ov)))
  rw [hcv]
  have kk : W p l e R s m args below meth c H locs (M.1.2.2.2.1 - a0) (M.1.2.2.2.2 - b0) Q (F0 m (pc + 1) ls (va_rf ((M.1.2.2.1 ci ii j.toNatClampNeg).map (adq ad)) :: S.map (cv ad ov))) := by rw [er.1]; exact kk
  obtain ⟨ty, ht, hty⟩ := tysL_ra (cA := cA) hc
  have hin := inB_in hj
  have hlt : j.toNatClampNeg < M.1.2.1 ci ii := by
    have := vp_in_iff.mp hin
    show j.toInt.toNat < _
    omega
  exact W.aald (v := va_rf ((M.1.2.2.1 ci ii j.toNatClampNeg).map (adq ad))) (ty := ty) hx hb (hR.1 q0 _ he) ((h1.2 (tyIx ci) _ ht).1 (M.1.2.1 ci ii) (fun z => va_rf ((M.1.2.2.1 ci ii z).map (adq ad)))) hty (fun q => by cases q) (by show ¬ (j < 0 ∨ (arrV _ _ _).slots.size ≤ _); rw [arrV_size]; exact hin) (by show (arrV _ _ _).slots[_]? = _; rw [arrV_read _ _ hlt]) rfl rfl hd kk

set_option maxHeartbeats 1000000 in
theorem s_iastore (C : Cx p s m args c cc nL own D cA ov aR0 B nS xs) (I : Inv s nL D cA ov aR0 B nS xs a0 b0 dir ad M H locs ls L S) (K : KK p l e R s m args below meth c Q nL D cA ov aR0 B nS xs a0 b0 dir ad al M k out)
    (hok : okF own nL cc pc (.iastore, len, (a, b, d), v, w, brs) = true) (h : astep al cs (.iastore, len, (a, b, d), v, w, brs) pc L S M k = some out) : W p l e R s m args below meth c H locs (M.1.2.2.2.1 - a0) (M.1.2.2.2.2 - b0) Q (F0 m pc ls (S.map (cv ad ov))) := by
  obtain ⟨hx, hb, hml, hown, hts, hSF, hB⟩ := C
  obtain ⟨hR, hRO, hS, hL, hvS, hvL, hro, hac, has⟩ := I
  obtain ⟨h1, h2, ⟨h3, h4, h5, h6⟩, h7, h8, h9, h10, h11, h12, h13, ho⟩ := hSF
  obtain ⟨hd, rfl⟩ : decode cc pc = .ok (.iastore, 1) ∧ len = 1 := by simpa [okF, nOK, okE, okD] using hok
  rcases S with _ | ⟨(x | x) | x, _ | ⟨(j | j) | j, _ | ⟨(y | y) | _ | ⟨ci, ii⟩, S⟩⟩⟩ <;> try exact ons h
  have h : (bif isIA ci && inB j (M.1.2.1 ci ii) then k (pc + 1) L S (M.1, (upI M.2.1 ci ii j.toNatClampNeg x, M.2.2)) else none) = some out := h
  cases hc : isIA ci && inB j (M.1.2.1 ci ii) with
  | false => rw [hc] at h; exact ons h
  | true =>
  rw [hc] at h
  simp only [Bool.and_eq_true] at hc
  obtain ⟨hc, hj⟩ := hc
  have hv := vH1 (vT1 (vT1 hvS))
  have hm : (ci, ii) ∈ dir := hR.ro hv (by simp [isW, hc])
  obtain ⟨q0, hq0, he⟩ := wl_at (cA := cA) (ad := ad) (m := M) hm
  rw [ent_ia hc] at he
  have := isIA_ge hc
  have hcv : cv ad ov (.inr (some (ci, ii))) = .ref (ad ci ii) := cv_ne (by omega)
  show W p l e R s m args below meth c H locs _ _ Q (F0 m pc ls (Value.int x :: Value.int j :: cv ad ov (.inr (some (ci, ii))) :: S.map (cv ad ov)))
  rw [hcv]
  refine va_iast hx hb h1 hR.1 hR.2.1 hS q0 0 he rfl (inB_in hj) hd (fun H1 locs1 hP1 hD1 hS1 => ?_)
  refine K _ _ _ _ h (Rel.of rfl) dir ad H1 locs1 ls Ext.rf ⟨hR.put hq0 hP1 hD1 ?_ (fun q _ hq => ent_congr (upI_ne hq) rfl rfl rfl) rfl hR.2.2.2.2.2, hRO.wr (Or.inr (isIA_ge hc).1) _, hS1, hL, vT1 (vT1 (vT1 hvS)), hvL, hro, hac, has⟩
  rw [ent_ia hc, ← upI_eq]

set_option maxHeartbeats 1000000 in
theorem s_lastore (C : Cx p s m args c cc nL own D cA ov aR0 B nS xs) (I : Inv s nL D cA ov aR0 B nS xs a0 b0 dir ad M H locs ls L S) (K : KK p l e R s m args below meth c Q nL D cA ov aR0 B nS xs a0 b0 dir ad al M k out)
    (hok : okF own nL cc pc (.lastore, len, (a, b, d), v, w, brs) = true) (h : astep al cs (.lastore, len, (a, b, d), v, w, brs) pc L S M k = some out) : W p l e R s m args below meth c H locs (M.1.2.2.2.1 - a0) (M.1.2.2.2.2 - b0) Q (F0 m pc ls (S.map (cv ad ov))) := by
  obtain ⟨hx, hb, hml, hown, hts, hSF, hB⟩ := C
  obtain ⟨hR, hRO, hS, hL, hvS, hvL, hro, hac, has⟩ := I
  obtain ⟨h1, h2, ⟨h3, h4, h5, h6⟩, h7, h8, h9, h10, h11, h12, h13, ho⟩ := hSF
  obtain ⟨hd, rfl⟩ : decode cc pc = .ok (.lastore, 1) ∧ len = 1 := by simpa [okF, nOK, okE, okD] using hok
  rcases S with _ | ⟨(x | x) | x, _ | ⟨(j | j) | j, _ | ⟨(y | y) | _ | ⟨ci, ii⟩, S⟩⟩⟩ <;> try exact ons h
  have h : (bif isLA ci && inB j (M.1.2.1 ci ii) then k (pc + 1) L S (M.1, (M.2.1, upL M.2.2 ci ii j.toNatClampNeg x)) else none) = some out := h
  cases hc : isLA ci && inB j (M.1.2.1 ci ii) with
  | false => rw [hc] at h; exact ons h
  | true =>
  rw [hc] at h
  simp only [Bool.and_eq_true] at hc
  obtain ⟨hc, hj⟩ := hc
  have hv := vH1 (vT1 (vT1 hvS))
  have hm : (ci, ii) ∈ dir := hR.ro hv (by simp [isW, hc])
  obtain ⟨q0, hq0, he⟩ := wl_at (cA := cA) (ad := ad) (m := M) hm
  rw [ent_la hc] at he
  have := isLA_ge hc
  have hcv : cv ad ov (.inr (some (ci, ii))) = .ref (ad ci ii) := cv_ne (by omega)
  show W p l e R s m args below meth c H locs _ _ Q (F0 m pc ls (Value.long x :: Value.int j :: cv ad ov (.inr (some (ci, ii))) :: S.map (cv ad ov)))
  rw [hcv]
  refine va_last hx hb h1 hR.1 hR.2.1 hS q0 1 he rfl (inB_in hj) hd (fun H1 locs1 hP1 hD1 hS1 => ?_)
  refine K _ _ _ _ h (Rel.of rfl) dir ad H1 locs1 ls Ext.rf ⟨hR.put hq0 hP1 hD1 ?_ (fun q _ hq => ent_congr rfl (upL_ne hq) rfl rfl) rfl hR.2.2.2.2.2, hRO, hS1, hL, vT1 (vT1 (vT1 hvS)), hvL, hro, hac, has⟩
  rw [ent_la hc, ← upL_eq]

set_option maxHeartbeats 1000000 in
theorem s_arraylength (C : Cx p s m args c cc nL own D cA ov aR0 B nS xs) (I : Inv s nL D cA ov aR0 B nS xs a0 b0 dir ad M H locs ls L S) (K : KK p l e R s m args below meth c Q nL D cA ov aR0 B nS xs a0 b0 dir ad al M k out)
    (hok : okF own nL cc pc (.arraylength, len, (a, b, d), v, w, brs) = true) (h : astep al cs (.arraylength, len, (a, b, d), v, w, brs) pc L S M k = some out) : W p l e R s m args below meth c H locs (M.1.2.2.2.1 - a0) (M.1.2.2.2.2 - b0) Q (F0 m pc ls (S.map (cv ad ov))) := by
  obtain ⟨hx, hb, hml, hown, hts, hSF, hB⟩ := C
  obtain ⟨hR, hRO, hS, hL, hvS, hvL, hro, hac, has⟩ := I
  obtain ⟨h1, h2, ⟨h3, h4, h5, h6⟩, h7, h8, h9, h10, h11, h12, h13, ho⟩ := hSF
  obtain ⟨hd, rfl⟩ : decode cc pc = .ok (.arraylength, 1) ∧ len = 1 := by simpa [okF, nOK, okE, okD] using hok
  rcases S with _ | ⟨(j | j) | _ | ⟨ci, ii⟩, S⟩ <;> try exact ons h
  have h : (bif isIA ci || isLA ci || isRA ci || Nat.beq ci 30 || Nat.beq ci 32 || Nat.beq ci 33 then k (pc + 1) L (aI (nI (M.1.2.1 ci ii)) :: S) M else none) = some out := h
  cases hc : isIA ci || isLA ci || isRA ci || Nat.beq ci 30 || Nat.beq ci 32 || Nat.beq ci 33 with
  | false => rw [hc] at h; exact ons h
  | true =>
  rw [hc] at h
  simp only [Bool.or_eq_true, Nat.beq_eq] at hc
  have hv := vH1 hvS
  have kk := K _ _ _ _ h (Rel.of rfl) dir ad H locs ls Ext.rf ⟨hR, hRO, hS, hL, vS1 trivial (vT1 hvS), hvL, hro, hac, has⟩
  have go : ∀ {t0 : Nat} {z : vp_A} {cc0 : ClassId} {ty : FieldType}, isW ci = true → ent cA ad M ci ii = .inl (cc0, z) → z.1 = M.1.2.1 ci ii → (tysL cA)[t0]? = some (cc0, ty) → W p l e R s m args below meth c H locs (M.1.2.2.2.1 - a0) (M.1.2.2.2.2 - b0) Q (F0 m pc ls ((.inr (some (ci, ii)) :: S).map (cv ad ov))) := fun hw hent hz ht => by
    have hm : (ci, ii) ∈ dir := hR.ro hv hw
    obtain ⟨q0, hq0, he⟩ := wl_at (cA := cA) (ad := ad) (m := M) hm
    rw [hent] at he
    have := isW_cases hw
    have hcv : cv ad ov (.inr (some (ci, ii))) = .ref (ad ci ii) := cv_ne (by omega)
    show W p l e R s m args below meth c H locs _ _ Q (F0 m pc ls (cv ad ov (.inr (some (ci, ii))) :: S.map (cv ad ov)))
    rw [hcv]
    exact va_alen hx hb h1 hR.1 q0 _ he ht (by rw [hz]; rfl) hd kk
  rcases hc with ((((hc | hc) | hc) | rfl) | rfl) | rfl
  · exact go (t0 := 0) (by simp [isW, hc]) (ent_ia hc) rfl rfl
  · exact go (t0 := 1) (by simp [isW, hc]) (ent_la hc) rfl rfl
  · obtain ⟨ty, ht, -⟩ := tysL_ra (cA := cA) hc
    exact go (by simp [isW, hc]) (ent_ra hc) rfl ht
  · have hr := hR.nro hv (by omega)
    have hi : ii < 12 := by rcases hr with hr | hr <;> (dsimp only at hr; omega)
    have hcv : cv ad ov (.inr (some (30, ii))) = .ref (aR0 30 ii) := by rw [← hro 30 ii (by omega) (by omega)]; exact cv_ne (by decide)
    show W p l e R s m args below meth c H locs _ _ Q (F0 m pc ls (cv ad ov (.inr (some (30, ii))) :: S.map (cv ad ov)))
    rw [hcv]
    exact va_tlen hx hb (h12 ii hi).2.2.2 hS (by rw [(hRO.1 ii hi).1]; rfl) hd kk
  · have hr := hR.nro hv (by omega)
    have hi : ii = 0 := by rcases hr with hr | hr <;> (dsimp only at hr; omega)
    subst hi
    have hcv : cv ad ov (.inr (some (32, 0))) = .ref (aR0 32 0) := by rw [← hro 32 0 (by omega) (by omega)]; exact cv_ne (by decide)
    show W p l e R s m args below meth c H locs _ _ Q (F0 m pc ls (cv ad ov (.inr (some (32, 0))) :: S.map (cv ad ov)))
    rw [hcv]
    exact va_tlen hx hb h10 hS (by rw [hRO.2.1]; rfl) hd kk
  · have hr := hR.nro hv (by omega)
    have hi : ii = 0 := by rcases hr with hr | hr <;> (dsimp only at hr; omega)
    subst hi
    have hcv : cv ad ov (.inr (some (33, 0))) = .ref (aR0 33 0) := by rw [← hro 33 0 (by omega) (by omega)]; exact cv_ne (by decide)
    show W p l e R s m args below meth c H locs _ _ Q (F0 m pc ls (cv ad ov (.inr (some (33, 0))) :: S.map (cv ad ov)))
    rw [hcv]
    exact va_tlen hx hb h11 hS (by rw [hRO.2.2.2.1]; rfl) hd kk

set_option maxHeartbeats 1000000 in
theorem s_getstatic {z : Nat} (C : Cx p s m args c cc nL own D cA ov aR0 B nS xs) (I : Inv s nL D cA ov aR0 B nS xs a0 b0 dir ad M H locs ls L S) (K : KK p l e R s m args below meth c Q nL D cA ov aR0 B nS xs a0 b0 dir ad al M k out)
    (hok : okF own nL cc pc (.getstatic z, len, (a, b, d), v, w, brs) = true) (h : astep al cs (.getstatic z, len, (a, b, d), v, w, brs) pc L S M k = some out) : W p l e R s m args below meth c H locs (M.1.2.2.2.1 - a0) (M.1.2.2.2.2 - b0) Q (F0 m pc ls (S.map (cv ad ov))) := by
  obtain ⟨hx, hb, hml, hown, hts, hSF, hB⟩ := C
  obtain ⟨hR, hRO, hS, hL, hvS, hvL, hro, hac, has⟩ := I
  obtain ⟨h1, h2, ⟨h3, h4, h5, h6⟩, h7, h8, h9, h10, h11, h12, h13, ho⟩ := hSF
  simp only [okF, nOK, okE, okD, Bool.and_eq_true, Bool.or_eq_true, decide_eq_true_eq, Nat.beq_eq, Bool.true_and] at hok
  obtain ⟨⟨⟨hd, rfl⟩, hf⟩, hok⟩ := hok
  have hw := slE_w hf
  rcases hok with (rfl | rfl) | rfl
  · exact va_gets hx hb h8 hS hown (hts _ hw) (fun _ h9 => h9) hd (K _ _ _ _ h (Rel.of rfl) dir ad H locs ls Ext.rf ⟨hR, hRO, hS, hL, vS1 trivial hvS, hvL, hro, hac, has⟩)
  · have hcv : cv ad ov (.inr (some (32, 0))) = .ref (aR0 32 0) := by rw [← hro 32 0 (by omega) (by omega)]; exact cv_ne (by decide)
    refine va_gets hx hb h7 hS hown (hts _ hw) (fun _ h9 => h9) hd ?_
    rw [← hcv]
    exact K _ _ _ _ h (Rel.of rfl) dir ad H locs ls Ext.rf ⟨hR, hRO, hS, hL, vS1 (Or.inr (Or.inr ⟨by decide, by decide, rfl⟩)) hvS, hvL, hro, hac, has⟩
  · exact va_gets hx hb h9 hS hown (hts _ hw) (fun _ h9 => h9) hd (K _ _ _ _ h (Rel.of rfl) dir ad H locs ls Ext.rf ⟨hR, hRO, hS, hL, vS1 (Or.inr (Or.inr ⟨by decide, by decide, rfl⟩)) hvS, hvL, hro, hac, has⟩)

theorem KSt_len : KSt.length = 12 := by decide +kernel

set_option maxHeartbeats 1000000 in
theorem s_ldc {z : Nat} (C : Cx p s m args c cc nL own D cA ov aR0 B nS xs) (I : Inv s nL D cA ov aR0 B nS xs a0 b0 dir ad M H locs ls L S) (K : KK p l e R s m args below meth c Q nL D cA ov aR0 B nS xs a0 b0 dir ad al M k out)
    (hok : okF own nL cc pc (.ldc z, len, (a, b, d), v, w, brs) = true) (h : astep al cs (.ldc z, len, (a, b, d), v, w, brs) pc L S M k = some out) : W p l e R s m args below meth c H locs (M.1.2.2.2.1 - a0) (M.1.2.2.2.2 - b0) Q (F0 m pc ls (S.map (cv ad ov))) := by
  obtain ⟨hx, hb, hml, hown, hts, hSF, hB⟩ := C
  obtain ⟨hR, hRO, hS, hL, hvS, hvL, hro, hac, has⟩ := I
  obtain ⟨h1, h2, ⟨h3, h4, h5, h6⟩, h7, h8, h9, h10, h11, h12, h13, ho⟩ := hSF
  simp only [okF, nOK, okE, okD, Bool.and_eq_true, decide_eq_true_eq, Nat.beq_eq, Bool.true_and] at hok
  obtain ⟨⟨hd, rfl⟩, hf⟩ := hok
  unfold ksE at hf
  cases hk : KSt[a]? with
  | none => rw [hk] at hf; cases hf
  | some q =>
    rw [hk] at hf
    simp only [Bool.and_eq_true, Nat.beq_eq] at hf
    have hi : a < 12 := by rw [← KSt_len]; exact (List.getElem?_eq_some_iff.mp hk).1
    have hz := h13 a q hk
    rw [hf.1, hf.2] at hz
    have hcv : cv ad ov (.inr (some (31, a))) = .ref (aR0 31 a) := by rw [← hro 31 a (by omega) (by omega)]; exact cv_ne (by decide)
    refine va_ldcS hx hb hown hz hd ?_
    rw [← hcv]
    exact K _ _ _ _ h (Rel.of rfl) dir ad H locs ls Ext.rf ⟨hR, hRO, hS, hL, vS1 (Or.inr (Or.inl ⟨Nat.le_of_ble_eq_true rfl, Nat.le_of_ble_eq_true rfl, hi⟩)) hvS, hvL, hro, hac, has⟩

theorem consec_at : ∀ (l : List (Int32 × Nat)) (n : Int), consec n l = true → ∀ (j : Nat) (q : Int32 × Nat), l[j]? = some q → q.1 = Int32.ofInt (n + j) := by
  intro l
  induction l with
  | nil => intro n _ j q h; simp at h
  | cons x l ih =>
    intro n h j q hq
    simp only [consec, Bool.and_eq_true, decide_eq_true_eq] at h
    cases j with
    | zero => simp at hq; subst hq; rw [h.1]; simp
    | succ j =>
      have := ih (n + 1) h.2 j q (by simpa using hq)
      rw [this]
      congr 1
      omega
theorem sw_none {k : Nat → LV → List AV → Mem → Option Out} {L : LV} {S : List AV} {M : Mem} {x : Int32} {r : Option Out} : ∀ (l : List (Int32 × Nat)), (∀ q ∈ l, x ≠ q.1) → l.foldr (fun q r => if x = q.1 then k q.2 L S M else r) r = r := by
  intro l
  induction l with
  | nil => intro _; rfl
  | cons y l ih =>
    intro h
    show (if x = y.1 then _ else _) = r
    rw [if_neg (h y List.mem_cons_self)]
    exact ih (fun q hq => h q (List.mem_cons_of_mem _ hq))
theorem sw_some {k : Nat → LV → List AV → Mem → Option Out} {L : LV} {S : List AV} {M : Mem} {x : Int32} {r : Option Out} : ∀ (l : List (Int32 × Nat)) (j : Nat) (q : Int32 × Nat), l[j]? = some q → x = q.1 → (∀ i, i < j → ∀ q', l[i]? = some q' → x ≠ q'.1) → l.foldr (fun q r => if x = q.1 then k q.2 L S M else r) r = k q.2 L S M := by
  intro l
  induction l with
  | nil => intro j q h; simp at h
  | cons y l ih =>
    intro j q h hx hn
    cases j with
    | zero =>
      simp at h
      subst h
      show (if x = y.1 then _ else _) = _
      rw [if_pos hx]
    | succ j =>
      show (if x = y.1 then _ else _) = _
      rw [if_neg (hn 0 (by omega) y rfl)]
      exact ih j q (by simpa using h) hx (fun i hi q' hq' => hn (i + 1) (by omega) q' (by simpa using hq'))
theorem ofInt_small {n : Int} (h1 : -2000 < n) (h2 : n < 2000) : (Int32.ofInt n).toInt = n := by
  rw [Int32.toInt_ofInt, show Int32.size = 4294967296 from rfl]
  rw [Int.bmod_eq_of_le] <;> omega

set_option maxHeartbeats 1000000 in
theorem s_tableswitch {z1 z2 z3 : Int} {z4 : Array Int} (C : Cx p s m args c cc nL own D cA ov aR0 B nS xs) (I : Inv s nL D cA ov aR0 B nS xs a0 b0 dir ad M H locs ls L S) (K : KK p l e R s m args below meth c Q nL D cA ov aR0 B nS xs a0 b0 dir ad al M k out)
    (hok : okF own nL cc pc (.tableswitch z1 z2 z3 z4, len, (a, b, d), v, w, brs) = true) (h : astep al cs (.tableswitch z1 z2 z3 z4, len, (a, b, d), v, w, brs) pc L S M k = some out) : W p l e R s m args below meth c H locs (M.1.2.2.2.1 - a0) (M.1.2.2.2.2 - b0) Q (F0 m pc ls (S.map (cv ad ov))) := by
  obtain ⟨hx, hb, hml, hown, hts, hSF, hB⟩ := C
  obtain ⟨hR, hRO, hS, hL, hvS, hvL, hro, hac, has⟩ := I
  obtain ⟨h1, h2, ⟨h3, h4, h5, h6⟩, h7, h8, h9, h10, h11, h12, h13, ho⟩ := hSF
  rcases brs with _ | ⟨q0, brs⟩
  · simp [okF, nOK, okE] at hok
  simp only [okF, nOK, okE, okD, Bool.and_eq_true, decide_eq_true_eq, Bool.true_and] at hok
  obtain ⟨⟨⟨hcs, hlo⟩, hlo2⟩, hd⟩ := hok
  rcases S with _ | ⟨(x | x) | x, S⟩ <;> try exact ons h
  have h : (q0 :: brs).foldr (fun q r => if x = q.1 then k q.2 L S M else r) (k a L S M) = some out := h
  have g : ∀ {pc'}, k pc' L S M = some out → W p l e R s m args below meth c H locs (M.1.2.2.2.1 - a0) (M.1.2.2.2.2 - b0) Q (F0 m pc' ls (S.map (cv ad ov))) := fun h => K _ _ _ _ h (Rel.of rfl) dir ad H locs ls Ext.rf ⟨hR, hRO, hS, hL, vT1 hvS, hvL, hro, hac, has⟩
  have hat := consec_at _ _ hcs
  by_cases hin : x.toInt < q0.1.toInt ∨ q0.1.toInt + brs.length < x.toInt
  · rw [sw_none _ (fun q hq e => by
      obtain ⟨j, hj⟩ := List.mem_iff_getElem?.mp hq
      have hjl : j < (q0 :: brs).length := (List.getElem?_eq_some_iff.mp hj).1
      have e2 := hat j q hj
      rw [List.length_cons] at hjl
      have e3 : x.toInt = q0.1.toInt + j := by rw [e, e2]; exact ofInt_small (by omega) (by omega)
      omega)] at h
    exact lv_tableOut hx hb hd hin (off_eq pc a) (g h)
  · obtain ⟨j, hj⟩ : ∃ j : Nat, x.toInt = q0.1.toInt + j := ⟨(x.toInt - q0.1.toInt).toNat, by omega⟩
    have hjl : j < (q0 :: brs).length := by rw [List.length_cons]; omega
    have hq : (q0 :: brs)[j]? = some ((q0 :: brs)[j]) := List.getElem?_eq_getElem hjl
    have hxq : x = ((q0 :: brs)[j]).1 := by
      rw [hat j _ hq, ← hj, Int32.ofInt_toInt]
    rw [sw_some _ j _ hq hxq (fun i hi q' hq' e => by
      have e2 := hat i q' hq'
      have e3 : x.toInt = q0.1.toInt + i := by rw [e, e2]; exact ofInt_small (by omega) (by omega)
      omega)] at h
    refine lv_tableIn hx hb hd (by omega) (by omega) (off := (((q0 :: brs)[j]).2 : Int) - pc) ?_ (off_eq pc _) (g h)
    have e : (x.toInt - q0.1.toInt).toNat = j := by omega
    rw [e, List.getElem?_toArray, List.getElem?_map, hq]
    rfl

theorem cat_sum {ad : Nat → Nat → Nat} {ov : Value} (ho : ov = .null ∨ ∃ a, ov = .ref a) : ∀ S : List AV, ((S.map (cv ad ov)).map fun v => v.category).sum ≤ 2 * S.length := by
  intro S
  induction S with
  | nil => simp
  | cons v S ih =>
    have h1 : (cv ad ov v).category ≤ 2 := by
      rw [cv_cat ho]
      rcases v with (x | x) | x <;> simp [cat]
    simp only [List.map_cons, List.sum_cons, List.length_cons]
    omega
/-- the room of what is left: cells and places that what comes behind still makes -/
def KA (R : Room) (a0 b0 : Nat) (al : Bool) (M : Mem) (k : Nat → LV → List AV → Mem → Option Out) (out : Out) : Prop := ∀ pc' L' S' M', k pc' L' S' M' = some out → Rel al M M' → M'.1.2.2.2.1 - a0 ≤ R.cells ∧ M'.1.2.2.2.2 - b0 ≤ R.slots
theorem blw : (Cond.static Lib.Math.abs.name ∈ WSg ∧ Cond.static Lib.Math.max.name ∈ WSg ∧ Cond.static Lib.Math.min.name ∈ WSg ∧ Cond.initialized "java/lang/Math" ∈ WSg ∧ Cond.code Lib.Math.abs.name Lib.Math.abs.code 1 (some .int) ∈ WSg ∧ Cond.code Lib.Math.max.name Lib.Math.max.code 2 (some .int) ∈ WSg) ∧ (Cond.code Lib.Math.min.name Lib.Math.min.code 2 (some .int) ∈ WSg ∧ Cond.native arraycopyName ∈ WSg ∧ Cond.static arraycopyName ∈ WSg ∧ Cond.initialized "java/lang/System" ∈ WSg ∧ Cond.instanceMethod Lib.objectInit ∈ WSg ∧ Cond.code Lib.objectInit ⟨#[0xb1]⟩ 1 none ∈ WSg) := by
  have h := BL_words
  simp only [Bool.and_eq_true] at h
  obtain ⟨⟨⟨⟨⟨⟨⟨⟨⟨⟨⟨h1, h2⟩, h3⟩, h4⟩, h5⟩, h6⟩, h7⟩, h8⟩, h9⟩, h10⟩, h11⟩, h12⟩ := h
  exact ⟨⟨posOK_mem h1, posOK_mem h2, posOK_mem h3, posOK_mem h4, posOK_mem h5, posOK_mem h6⟩, posOK_mem h7, posOK_mem h8, posOK_mem h9, posOK_mem h10, posOK_mem h11, posOK_mem (of_decide_eq_true h12)⟩

set_option maxHeartbeats 1000000 in
theorem s_dneg (A : KA R a0 b0 al M k out) (hfr : 1 ≤ R.frames) (hlo : 64 ≤ R.locals) (C : Cx p s m args c cc nL own D cA ov aR0 B nS xs) (I : Inv s nL D cA ov aR0 B nS xs a0 b0 dir ad M H locs ls L S) (K : KK p l e R s m args below meth c Q nL D cA ov aR0 B nS xs a0 b0 dir ad al M k out)
    (hok : okF own nL cc pc (.dneg, len, (a, b, d), v, w, brs) = true) (h : astep al cs (.dneg, len, (a, b, d), v, w, brs) pc L S M k = some out) : W p l e R s m args below meth c H locs (M.1.2.2.2.1 - a0) (M.1.2.2.2.2 - b0) Q (F0 m pc ls (S.map (cv ad ov))) := by
  obtain ⟨hx, hb, hml, hown, hts, hSF, hB⟩ := C
  obtain ⟨hR, hRO, hS, hL, hvS, hvL, hro, hac, has⟩ := I
  obtain ⟨h1, h2, ⟨h3, h4, h5, h6⟩, h7, h8, h9, h10, h11, h12, h13, ho⟩ := hSF
  simp only [okF, nOK, okE, okD, Bool.and_eq_true, decide_eq_true_eq, Nat.beq_eq, Bool.true_and] at hok
  obtain ⟨⟨hd, rfl⟩, hf⟩ := hok
  rcases S with _ | ⟨(x | x) | x, S⟩ <;> try exact ons h
  have h : (bif Nat.ble S.length 8 then k (pc + 3) L (aI (if 0 ≤ x then x else 0 - x) :: S) M else none) = some out := h
  cases hc : Nat.ble S.length 8 with
  | false => rw [hc] at h; exact ons h
  | true =>
  rw [hc] at h
  have hc := Nat.le_of_ble_eq_true hc
  have hcs := cat_sum (ad := ad) (ov := ov) ho S
  have hA := A _ _ _ _ h (Rel.of rfl)
  exact va_mabs hx hb (by rw [hml]; exact hL.1.symm) hown (hts _ (blE_w hf)) (hts _ blw.1.1) (hts _ blw.1.2.2.2.1) (hts _ blw.1.2.2.2.2.1) hfr (by omega) hA.1 hA.2 hd (K _ _ _ _ h (Rel.of rfl) dir ad H locs ls Ext.rf ⟨hR, hRO, hS, hL, vS1 trivial (vT1 hvS), hvL, hro, hac, has⟩)

set_option maxHeartbeats 1000000 in
theorem s_dadd (A : KA R a0 b0 al M k out) (hfr : 1 ≤ R.frames) (hlo : 64 ≤ R.locals) (C : Cx p s m args c cc nL own D cA ov aR0 B nS xs) (I : Inv s nL D cA ov aR0 B nS xs a0 b0 dir ad M H locs ls L S) (K : KK p l e R s m args below meth c Q nL D cA ov aR0 B nS xs a0 b0 dir ad al M k out)
    (hok : okF own nL cc pc (.dadd, len, (a, b, d), v, w, brs) = true) (h : astep al cs (.dadd, len, (a, b, d), v, w, brs) pc L S M k = some out) : W p l e R s m args below meth c H locs (M.1.2.2.2.1 - a0) (M.1.2.2.2.2 - b0) Q (F0 m pc ls (S.map (cv ad ov))) := by
  obtain ⟨hx, hb, hml, hown, hts, hSF, hB⟩ := C
  obtain ⟨hR, hRO, hS, hL, hvS, hvL, hro, hac, has⟩ := I
  obtain ⟨h1, h2, ⟨h3, h4, h5, h6⟩, h7, h8, h9, h10, h11, h12, h13, ho⟩ := hSF
  simp only [okF, nOK, okE, okD, Bool.and_eq_true, decide_eq_true_eq, Nat.beq_eq, Bool.true_and] at hok
  obtain ⟨⟨hd, rfl⟩, hf⟩ := hok
  rcases S with _ | ⟨(y | y) | y, _ | ⟨(x | x) | x, S⟩⟩ <;> try exact ons h
  have h : (bif Nat.ble S.length 8 then k (pc + 3) L (aI (if x < y then y else x) :: S) M else none) = some out := h
  cases hc : Nat.ble S.length 8 with
  | false => rw [hc] at h; exact ons h
  | true =>
  rw [hc] at h
  have hc := Nat.le_of_ble_eq_true hc
  have hcs := cat_sum (ad := ad) (ov := ov) ho S
  have hA := A _ _ _ _ h (Rel.of rfl)
  exact va_mmax hx hb (by rw [hml]; exact hL.1.symm) hown (hts _ (blE_w hf)) (hts _ blw.1.2.1) (hts _ blw.1.2.2.2.1) (hts _ blw.1.2.2.2.2.2) hfr (by omega) hA.1 hA.2 hd (K _ _ _ _ h (Rel.of rfl) dir ad H locs ls Ext.rf ⟨hR, hRO, hS, hL, vS1 trivial (vT1 (vT1 hvS)), hvL, hro, hac, has⟩)

set_option maxHeartbeats 1000000 in
theorem s_dsub (A : KA R a0 b0 al M k out) (hfr : 1 ≤ R.frames) (hlo : 64 ≤ R.locals) (C : Cx p s m args c cc nL own D cA ov aR0 B nS xs) (I : Inv s nL D cA ov aR0 B nS xs a0 b0 dir ad M H locs ls L S) (K : KK p l e R s m args below meth c Q nL D cA ov aR0 B nS xs a0 b0 dir ad al M k out)
    (hok : okF own nL cc pc (.dsub, len, (a, b, d), v, w, brs) = true) (h : astep al cs (.dsub, len, (a, b, d), v, w, brs) pc L S M k = some out) : W p l e R s m args below meth c H locs (M.1.2.2.2.1 - a0) (M.1.2.2.2.2 - b0) Q (F0 m pc ls (S.map (cv ad ov))) := by
  obtain ⟨hx, hb, hml, hown, hts, hSF, hB⟩ := C
  obtain ⟨hR, hRO, hS, hL, hvS, hvL, hro, hac, has⟩ := I
  obtain ⟨h1, h2, ⟨h3, h4, h5, h6⟩, h7, h8, h9, h10, h11, h12, h13, ho⟩ := hSF
  simp only [okF, nOK, okE, okD, Bool.and_eq_true, decide_eq_true_eq, Nat.beq_eq, Bool.true_and] at hok
  obtain ⟨⟨hd, rfl⟩, hf⟩ := hok
  rcases S with _ | ⟨(y | y) | y, _ | ⟨(x | x) | x, S⟩⟩ <;> try exact ons h
  have h : (bif Nat.ble S.length 8 then k (pc + 3) L (aI (if y < x then y else x) :: S) M else none) = some out := h
  cases hc : Nat.ble S.length 8 with
  | false => rw [hc] at h; exact ons h
  | true =>
  rw [hc] at h
  have hc := Nat.le_of_ble_eq_true hc
  have hcs := cat_sum (ad := ad) (ov := ov) ho S
  have hA := A _ _ _ _ h (Rel.of rfl)
  exact va_mmin hx hb (by rw [hml]; exact hL.1.symm) hown (hts _ (blE_w hf)) (hts _ blw.1.2.2.1) (hts _ blw.1.2.2.2.1) (hts _ blw.2.1) hfr (by omega) hA.1 hA.2 hd (K _ _ _ _ h (Rel.of rfl) dir ad H locs ls Ext.rf ⟨hR, hRO, hS, hL, vS1 trivial (vT1 (vT1 hvS)), hvL, hro, hac, has⟩)

set_option maxHeartbeats 1000000 in
theorem s_nop (hfr : 1 ≤ R.frames) (hlo : 64 ≤ R.locals) (C : Cx p s m args c cc nL own D cA ov aR0 B nS xs) (I : Inv s nL D cA ov aR0 B nS xs a0 b0 dir ad M H locs ls L S) (K : KK p l e R s m args below meth c Q nL D cA ov aR0 B nS xs a0 b0 dir ad al M k out)
    (hok : okF own nL cc pc (.nop, len, (a, b, d), v, w, brs) = true) (h : astep al cs (.nop, len, (a, b, d), v, w, brs) pc L S M k = some out) : W p l e R s m args below meth c H locs (M.1.2.2.2.1 - a0) (M.1.2.2.2.2 - b0) Q (F0 m pc ls (S.map (cv ad ov))) := by
  obtain ⟨hx, hb, hml, hown, hts, hSF, hB⟩ := C
  obtain ⟨hR, hRO, hS, hL, hvS, hvL, hro, hac, has⟩ := I
  obtain ⟨h1, h2, ⟨h3, h4, h5, h6⟩, h7, h8, h9, h10, h11, h12, h13, ho⟩ := hSF
  simp only [okF, nOK, okE, okD, Bool.and_eq_true, decide_eq_true_eq, Nat.beq_eq, Bool.true_and] at hok
  obtain ⟨⟨hd, rfl⟩, hf⟩ := hok
  rcases S with _ | ⟨(x | x) | _ | ⟨ci, ii⟩, S⟩ <;> try exact ons h
  have h : (bif al && Nat.blt ci 8 && Nat.ble S.length 8 then k (pc + 3) L S M else none) = some out := h
  cases hc : al && Nat.blt ci 8 && Nat.ble S.length 8 with
  | false => rw [hc] at h; exact ons h
  | true =>
  rw [hc] at h
  simp only [Bool.and_eq_true, Nat.blt_eq, Nat.ble_eq] at hc
  have hcs := cat_sum (ad := ad) (ov := ov) ho S
  have hcv : cv ad ov (.inr (some (ci, ii))) = .ref (ad ci ii) := cv_ne (by omega)
  show W p l e R s m args below meth c H locs _ _ Q (F0 m pc ls (cv ad ov (.inr (some (ci, ii))) :: S.map (cv ad ov)))
  rw [hcv]
  refine W.objInit hx hb hown (hts _ (blE_w hf)) (hts _ blw.2.2.2.2.2.1) (hts _ blw.2.2.2.2.2.2) rfl (by rw [hml]; exact hL.1) rfl hd hfr (by show 2 * 0 + _ + 12 ≤ _; omega) ?_
  exact W.eq (g2 := F0 m (pc + 3) ls (S.map (cv ad ov))) rfl (K _ _ _ _ h (Rel.of rfl) dir ad H locs ls Ext.rf ⟨hR, hRO, hS, hL, vT1 hvS, hvL, hro, hac, has⟩)

end HST2
end
section
/-! ONE INSTRUCTION, what makes: new objects and rows; and the one store of references into rows -/
theorem adq_ext {dir dir' : List (Nat × Nat)} {ad ad' : Nat → Nat → Nat} (E : ∀ q ∈ dir, ad' q.1 q.2 = ad q.1 q.2) {x : Option (Nat × Nat)} (h : ∀ q, x = some q → q ∈ dir) : x.map (adq ad') = x.map (adq ad) := by
  cases x with
  | none => rfl
  | some q =>
    show some (ad' q.1 q.2) = some (ad q.1 q.2)
    rw [E q (h q rfl)]
theorem ent_ext {cA : Nat → ClassId} {dir : List (Nat × Nat)} {ad ad' : Nat → Nat → Nat} {M : Mem} {c i : Nat} (E : ∀ q ∈ dir, ad' q.1 q.2 = ad q.1 q.2) (h : ∀ k q, M.1.2.2.1 c i k = some q → q ∈ dir) : ent cA ad' M c i = ent cA ad M c i := by
  have hf : fsL ad' M c i = fsL ad M c i := by
    unfold fsL
    apply List.map_congr_left
    intro k _
    unfold fV
    rw [adq_ext (dir' := dir) E (h k)]
  have hg : (fun j => (M.1.2.2.1 c i j).map (adq ad')) = (fun j => (M.1.2.2.1 c i j).map (adq ad)) := by
    funext j
    exact adq_ext (dir' := dir) E (h j)
  unfold ent
  rw [hf, hg]
/-- the memory after a making: new cells behind the old ones -/
theorem Rep.grow {D : va_G} {cA : Nat → ClassId} {ad ad' : Nat → Nat → Nat} {dir : List (Nat × Nat)} {B : Nat} {M M' : Mem} {H H' : Heap} (h : Rep D cA ad dir B M H) (news : List (Nat × Nat))
    (hnew : ∀ q ∈ news, isW q.1 = true ∧ M.1.1 q.1 ≤ q.2) (had : ∀ q ∈ dir, q ∉ news → ad' q.1 q.2 = ad q.1 q.2) (had2 : ∀ c i, 30 ≤ c → c ≤ 34 → ad' c i = ad c i)
    (hs : ∀ q ∈ dir, q ∉ news → isW q.1 = true → M'.2.1 q.1 q.2 = M.2.1 q.1 q.2 ∧ M'.2.2 q.1 q.2 = M.2.2 q.1 q.2 ∧ M'.1.2.2.1 q.1 q.2 = M.1.2.2.1 q.1 q.2 ∧ M'.1.2.1 q.1 q.2 = M.1.2.1 q.1 q.2)
    (hc1 : ∀ c i, i < M'.1.1 c → i < M.1.1 c ∨ (c, i) ∈ news) (hc2 : ∀ q ∈ news, q.2 < M'.1.1 q.1) (hc3 : ∀ c, M.1.1 c ≤ M'.1.1 c) (hrf : ∀ q ∈ news, ∀ k z, M'.1.2.2.1 q.1 q.2 k = some z → z ∈ dir ++ news)
    (hP : va_P D vwCl (wl cA ad M dir ++ wl cA ad' M' news) H') (hD : va_D (fun q => B ≤ q) (wl cA ad M dir ++ wl cA ad' M' news)) : Rep D cA ad' (dir ++ news) B M' H' ∧ Ext dir (dir ++ news) ad ad' := by
  obtain ⟨r1, r2, r3, r4, r5, r6⟩ := h
  have hdn : ∀ q ∈ dir, q ∉ news := fun q hq hn => by
    have h1 := r5 q.1 q.2 hq
    have h2 := (hnew q hn).2
    omega
  have E : ∀ q ∈ dir, ad' q.1 q.2 = ad q.1 q.2 := fun q hq => had q hq (hdn q hq)
  have hw : wl cA ad' M' (dir ++ news) = wl cA ad M dir ++ wl cA ad' M' news := by
    unfold wl
    rw [List.map_append]
    congr 1
    apply List.map_congr_left
    intro q hq
    obtain ⟨s1, s2, s3, s4⟩ := hs q hq (hdn q hq) (r3 q hq)
    rw [E q hq, ent_congr s1 s2 s3 s4, ent_ext E (fun k z hz => r6 q.1 q.2 k z hq hz)]
  refine ⟨⟨by rw [hw]; exact hP, by rw [hw]; exact hD, fun q hq => ?_, fun c i hcw hi => ?_, fun c i hq => ?_, fun c i k z hq hz => ?_⟩, fun q hq => ⟨List.mem_append_left _ hq, E q hq⟩, had2⟩
  · rcases List.mem_append.mp hq with hq | hq
    · exact r3 q hq
    · exact (hnew q hq).1
  · rcases hc1 c i hi with g | g
    · exact List.mem_append_left _ (r4 c i hcw g)
    · exact List.mem_append_right _ g
  · rcases List.mem_append.mp hq with hq | hq
    · exact Nat.lt_of_lt_of_le (r5 c i hq) (hc3 c)
    · exact hc2 _ hq
  · rcases List.mem_append.mp hq with hq | hq
    · rw [(hs (c, i) hq (hdn _ hq) (r3 _ hq)).2.2.1] at hz
      exact List.mem_append_left _ (r6 c i k z hq hz)
    · exact hrf _ hq k z hz
theorem RO.same {nS : Nat} {xs : Nat → Int32} {M M' : Mem} (h : ROm nS xs M) (hs : ∀ c i, 30 ≤ c → c < 40 → M'.2.1 c i = M.2.1 c i ∧ M'.1.2.2.1 c i = M.1.2.2.1 c i ∧ M'.1.2.1 c i = M.1.2.1 c i) : ROm nS xs M' := by
  obtain ⟨h1, h2, h3, h4, h5⟩ := h
  refine ⟨fun i hi => ⟨?_, fun j => ?_, ?_, ?_⟩, ?_, fun j => ?_, ?_, fun j => ?_⟩
  · rw [(hs 30 i (by omega) (by omega)).2.2]; exact (h1 i hi).1
  · rw [(hs 30 i (by omega) (by omega)).1]; exact (h1 i hi).2.1 j
  · rw [(hs 31 i (by omega) (by omega)).1]; exact (h1 i hi).2.2.1
  · rw [(hs 31 i (by omega) (by omega)).2.1]; exact (h1 i hi).2.2.2
  · rw [(hs 32 0 (by omega) (by omega)).2.2]; exact h2
  · rw [(hs 32 0 (by omega) (by omega)).1]; exact h3 j
  · rw [(hs 33 0 (by omega) (by omega)).2.2]; exact h4
  · rw [(hs 33 0 (by omega) (by omega)).1]; exact h5 j
def dfL (a : Nat) : List Value := (List.range (NF a)).map (fun k => if sk a k = 4 then Value.null else .int 0)
theorem dfL_all : (List.range 8).all (fun c => (List.range (NF c)).all (fun k => decide (defaultValue (tyT c k) = vp_V (dfL c) k))) = true := by decide +kernel
theorem dfL_ok {c k : Nat} (hc : c < 8) (hk : k < NF c) : defaultValue (tyT c k) = vp_V (dfL c) k := of_decide_eq_true (List.all_eq_true.mp (List.all_eq_true.mp dfL_all c (List.mem_range.mpr hc)) k (List.mem_range.mpr hk))
theorem skL_len {c : Nat} (hc : c < 8) : (skL.getD c []).length = NF c := by
  match c, hc with
  | 0, _ => rfl
  | 1, _ => rfl
  | 2, _ => rfl
  | 3, _ => rfl
  | 4, _ => rfl
  | 5, _ => rfl
  | 6, _ => rfl
  | 7, _ => rfl
  | n + 8, h => exact absurd h (by omega)
theorem inst_w : (List.range 8).all (fun c => decide (lw_tbl[[92, 244, 196, 226, 126, 83, 75, 931].getD c 0]? = some (.instantiable (cn c) (NF c))) && goodWord (.instantiable (cn c) (NF c))) = true := by decide +kernel
theorem init_w : (List.range 8).all (fun c => (List.range 16).any (fun i => posOK (58 + i) (.initialized (cn c)))) = true := by decide +kernel
theorem inst_in {c : Nat} (hc : c < 8) : Cond.instantiable (cn c) (NF c) ∈ WSg := posOK_mem (List.all_eq_true.mp inst_w c (List.mem_range.mpr hc))
theorem init_in {c : Nat} (hc : c < 8) : Cond.initialized (cn c) ∈ WSg := by
  obtain ⟨i, -, h⟩ := List.any_eq_true.mp (List.all_eq_true.mp init_w c (List.mem_range.mpr hc))
  exact posOK_mem h
theorem arrW : (posOK 125 (.arrayClass .int) && posOK 262 (.arrayClass .long)) = true := by decide +kernel
theorem arrI_in : Cond.arrayClass .int ∈ WSg := by
  have h := arrW
  simp only [Bool.and_eq_true] at h
  exact posOK_mem h.1
theorem arrJ_in : Cond.arrayClass .long ∈ WSg := by
  have h := arrW
  simp only [Bool.and_eq_true] at h
  exact posOK_mem h.2
theorem ra_eq {U : State} {c1 c2 : ClassId} {ty : FieldType} (h1 : va_RA U c1 ty) (h2 : va_RA U c2 ty) : c1 = c2 := by
  cases ty with
  | object C =>
    obtain ⟨-, -, -, -, -, e1⟩ := h1
    obtain ⟨-, -, -, -, -, e2⟩ := h2
    exact Option.some.inj (e1.symm.trans e2)
  | _ =>
    have e1 : U.vm.findClass _ = some c1 := h1
    have e2 : U.vm.findClass _ = some c2 := h2
    exact Option.some.inj (e1.symm.trans e2)
/-- the class of a row that came is the one known -/
theorem va_K.same {D : va_G} {cA : Nat → ClassId} {U : State} {c1 : ClassId} {ty : FieldType} (hK : va_K D vwCl (tysL cA ++ [(c1, ty)]) U) {t0 : Nat} {c0 : ClassId} (ht : (tysL cA)[t0]? = some (c0, ty)) : c1 = c0 := by
  have hl : t0 < (tysL cA).length := (List.getElem?_eq_some_iff.mp ht).1
  have h1 := (hK.2 6 (c1, ty) rfl).2
  have h2 := (hK.2 t0 (c0, ty) (by rw [List.getElem?_append_left hl]; exact ht)).2
  exact ra_eq h1 h2

section MST
variable {p : Program} {l : Launch} {e : Env} {R : Room} {s : State} {m : MethodId} {args : Array Value} {below : List Frame} {meth : Method} {c : Code} {Q : State → Prop}
variable {D : va_G} {cA : Nat → ClassId} {ov : Value} {aR0 : Nat → Nat → Nat} {B nS : Nat} {xs : Nat → Int32} {cc : ByteArray} {nL own a0 b0 : Nat}
variable {al : Bool} {cs : CS} {pc : Nat} {L : LV} {S : List AV} {M : Mem} {k : Nat → LV → List AV → Mem → Option Out} {out : Out}
variable {dir : List (Nat × Nat)} {ad : Nat → Nat → Nat} {H : Heap} {locs : List Loc} {ls : Array Slot} {len a b d : Nat} {v : Int32} {w : Int64} {brs : List (Int32 × Nat)}

set_option maxHeartbeats 1000000 in
theorem s_new {z : Nat} (A : KA R a0 b0 al M k out) (C : Cx p s m args c cc nL own D cA ov aR0 B nS xs) (I : Inv s nL D cA ov aR0 B nS xs a0 b0 dir ad M H locs ls L S) (K : KK p l e R s m args below meth c Q nL D cA ov aR0 B nS xs a0 b0 dir ad al M k out)
    (hok : okF own nL cc pc (.new z, len, (a, b, d), v, w, brs) = true) (h : astep al cs (.new z, len, (a, b, d), v, w, brs) pc L S M k = some out) : W p l e R s m args below meth c H locs (M.1.2.2.2.1 - a0) (M.1.2.2.2.2 - b0) Q (F0 m pc ls (S.map (cv ad ov))) := by
  obtain ⟨hx, hb, hml, hown, hts, hSF, hB⟩ := C
  obtain ⟨hR, hRO, hS, hL, hvS, hvL, hro, hac, has⟩ := I
  obtain ⟨h1, h2, ⟨h3, h4, h5, h6⟩, h7, h8, h9, h10, h11, h12, h13, ho⟩ := hSF
  simp only [okF, nOK, okE, okD, Bool.and_eq_true, decide_eq_true_eq, Nat.beq_eq, Bool.true_and] at hok
  obtain ⟨⟨hd, rfl⟩, hf⟩ := hok
  let M' : Mem := ((fun c => if c = a then M.1.1 a + 1 else M.1.1 c, M.1.2.1, (fun c i q => if c = a ∧ i = M.1.1 a then none else M.1.2.2.1 c i q), M.1.2.2.2.1 + 1, M.1.2.2.2.2 + (skL.getD a []).length), (fun c i q => if c = a ∧ i = M.1.1 a then 0 else M.2.1 c i q, M.2.2))
  have h : (bif al && Nat.blt a 8 then k (pc + 3) L (aR a (M.1.1 a) :: S) M' else none) = some out := h
  cases hc : al && Nat.blt a 8 with
  | false => rw [hc] at h; exact ons h
  | true =>
  rw [hc] at h
  simp only [Bool.and_eq_true, Nat.blt_eq] at hc
  have ha := hc.2
  have hal := hc.1
  have hwa : isW a = true := by simp [isW, ha]
  have eA : M'.1.2.2.2.1 = M.1.2.2.2.1 + 1 := rfl
  have eB : M'.1.2.2.2.2 = M.1.2.2.2.2 + NF a := by
    show M.1.2.2.2.2 + (skL.getD a []).length = _
    rw [skL_len ha]
  have hA := A _ _ _ _ h (Rel.mk2 hal (by rw [eA]; omega) (by rw [eB]; omega))
  refine va_new (D := D) (ci := a) (fs := dfL a) (C := cn a) (T := TT a) (N := NF a) hx hb hts (uws_in ha) (tyT a) (tyT_ok ha) hown (hts _ (nlE_w hf)) (hts _ (inst_in ha)) (hts _ (init_in ha)) h1 hR.1 hR.2.1 hS (fun q hq => Nat.le_trans hB hq) (vw_at ha) (fun j hj => dfL_ok ha hj) (by rw [eA] at hA; omega) (by rw [eB] at hA; omega) hd (fun q H1 hP1 hD1 hS1 => ?_)
  let ad' : Nat → Nat → Nat := fun c i => if c = a ∧ i = M.1.1 a then q else ad c i
  have hnn : ∀ q : Nat × Nat, q ∈ [(a, M.1.1 a)] ↔ q = (a, M.1.1 a) := fun q => List.mem_singleton
  have hne : ∀ z : Nat × Nat, z ∉ [(a, M.1.1 a)] → ¬ (z.1 = a ∧ z.2 = M.1.1 a) := fun z hz e => hz ((hnn z).mpr (Prod.ext e.1 e.2))
  have he : ent cA ad' M' a (M.1.1 a) = .inr (a, dfL a) := by
    rw [ent_obj ha]
    congr 2
    unfold fsL dfL
    apply List.map_congr_left
    intro j _
    unfold fV
    show (if sk a j = 4 then va_rf ((if a = a ∧ M.1.1 a = M.1.1 a then none else M.1.2.2.1 a (M.1.1 a) j).map (adq ad')) else Value.int (if a = a ∧ M.1.1 a = M.1.1 a then 0 else M.2.1 a (M.1.1 a) j)) = _
    simp [va_rf]
  have hq' : ad' a (M.1.1 a) = q := if_pos ⟨rfl, rfl⟩
  have hwn : wl cA ad' M' [(a, M.1.1 a)] = [(q, .inr (a, dfL a))] := by
    show [(ad' a (M.1.1 a), ent cA ad' M' a (M.1.1 a))] = _
    rw [he, hq']
  obtain ⟨hR', E⟩ := hR.grow (ad' := ad') (M' := M') (H' := H1) [(a, M.1.1 a)] (fun z hz => by rw [(hnn z).mp hz]; exact ⟨by simp [isW, ha], Nat.le_refl _⟩) (fun z _ hz => if_neg (hne z hz)) (fun c i g1 g2 => if_neg (fun e => by have := e.1; have := isW_cases hwa; omega))
    (fun z _ hz _ => ⟨funext fun j => if_neg (hne z hz), rfl, funext fun j => if_neg (hne z hz), rfl⟩)
    (fun c i hi => by
      have hi : i < (if c = a then M.1.1 a + 1 else M.1.1 c) := hi
      split at hi
      · rename_i e
        subst e
        by_cases e2 : i = M.1.1 c
        · exact Or.inr ((hnn _).mpr (by rw [e2]))
        · exact Or.inl (by omega)
      · exact Or.inl hi)
    (fun z hz => by
      rw [(hnn z).mp hz]
      show M.1.1 a < (if a = a then M.1.1 a + 1 else M.1.1 a)
      rw [if_pos rfl]; omega)
    (fun c => by
      show M.1.1 c ≤ (if c = a then M.1.1 a + 1 else M.1.1 c)
      split
      · rename_i e; subst e; omega
      · exact Nat.le_refl _)
    (fun z hz j y hy => by
      rw [(hnn z).mp hz] at hy
      have hy : (if a = a ∧ M.1.1 a = M.1.1 a then none else M.1.2.2.1 a (M.1.1 a) j) = some y := hy
      rw [if_pos ⟨rfl, rfl⟩] at hy
      cases hy)
    (by rw [hwn]; exact hP1) (by rw [hwn]; exact hD1)
  have hro' : ROm nS xs M' := RO.same hRO (fun c i g1 g2 => by
    have hne2 : ¬ (c = a ∧ i = M.1.1 a) := fun e => by omega
    exact ⟨funext fun j => if_neg hne2, funext fun j => if_neg hne2, rfl⟩)
  have kk := K _ _ _ _ h (Rel.mk2 hal (by rw [eA]; omega) (by rw [eB]; omega)) (dir ++ [(a, M.1.1 a)]) ad' H1 locs ls E ⟨hR', hro', hS1, hL.ext E hvL, vS1 (Or.inl (List.mem_append_right _ ((hnn _).mpr rfl))) (fun v hv => (hvS v hv).ext E), fun i v hv => (hvL i v hv).ext E, fun c i g1 g2 => (E.2 c i g1 g2).trans (hro c i g1 g2), by rw [eA]; omega, by rw [eB]; omega⟩
  have e1 : M'.1.2.2.2.1 - a0 = M.1.2.2.2.1 - a0 + 1 := by rw [eA]; omega
  have e2 : M'.1.2.2.2.2 - b0 = M.1.2.2.2.2 - b0 + NF a := by rw [eB]; omega
  rw [e1, e2] at kk
  have e3 : (aR a (M.1.1 a) :: S).map (cv ad' ov) = .ref q :: S.map (cv ad ov) := by
    show cv ad' ov (.inr (some (a, M.1.1 a))) :: S.map (cv ad' ov) = _
    rw [cv_ne (by omega), hq', cv_exts E hvS]
  rw [e3] at kk
  exact kk

theorem inB_n {n : Int32} (h : inB n 1000 = true) : ¬ n < 0 ∧ n.toNatClampNeg < 1000 := by
  unfold inB at h
  simp only [Bool.and_eq_true, decide_eq_true_eq] at h
  exact ⟨Int32.not_lt.mpr h.1, h.2⟩

set_option maxHeartbeats 1000000 in
theorem s_newarray0 (A : KA R a0 b0 al M k out) (hna : isIA a = true) (C : Cx p s m args c cc nL own D cA ov aR0 B nS xs) (I : Inv s nL D cA ov aR0 B nS xs a0 b0 dir ad M H locs ls L S) (K : KK p l e R s m args below meth c Q nL D cA ov aR0 B nS xs a0 b0 dir ad al M k out)
    (hok : okF own nL cc pc (.newarray .int, len, (a, b, d), v, w, brs) = true) (h : astep al cs (.newarray .int, len, (a, b, d), v, w, brs) pc L S M k = some out) : W p l e R s m args below meth c H locs (M.1.2.2.2.1 - a0) (M.1.2.2.2.2 - b0) Q (F0 m pc ls (S.map (cv ad ov))) := by
  obtain ⟨hx, hb, hml, hown, hts, hSF, hB⟩ := C
  obtain ⟨hR, hRO, hS, hL, hvS, hvL, hro, hac, has⟩ := I
  obtain ⟨h1, h2, ⟨h3, h4, h5, h6⟩, h7, h8, h9, h10, h11, h12, h13, ho⟩ := hSF
  have hd : decode cc pc = .ok (.newarray .int, 2) ∧ len = 2 := by
    simp only [okF, nOK, okE, okD, Bool.and_eq_true, decide_eq_true_eq, Nat.beq_eq, Bool.true_and] at hok
    exact hok.1
  obtain ⟨hd, rfl⟩ := hd
  rcases S with _ | ⟨(n | n) | n, S⟩ <;> try exact ons h
  let M' : Mem := ((fun c => if c = a then M.1.1 a + 1 else M.1.1 c, (fun c i => if c = a ∧ i = M.1.1 a then n.toNatClampNeg else M.1.2.1 c i), (fun c i q => if c = a ∧ i = M.1.1 a then none else M.1.2.2.1 c i q), M.1.2.2.2.1 + 1, M.1.2.2.2.2 + n.toNatClampNeg), ((fun c i q => if c = a ∧ i = M.1.1 a then 0 else M.2.1 c i q), (fun c i q => if c = a ∧ i = M.1.1 a then 0 else M.2.2 c i q)))
  have h : (bif al && (isIA a || isLA a) && inB n 1000 then k (pc + 2) L (aR a (M.1.1 a) :: S) M' else none) = some out := h
  cases hc : al && (isIA a || isLA a) && inB n 1000 with
  | false => rw [hc] at h; exact ons h
  | true =>
  rw [hc] at h
  simp only [Bool.and_eq_true] at hc
  have hc1 := hna
  have hwa : isW a = true := by simp [isW, hna]
  have hal := hc.1.1
  obtain ⟨hn, hn1⟩ := inB_n hc.2
  have eA : M'.1.2.2.2.1 = M.1.2.2.2.1 + 1 := rfl
  have eB : M'.1.2.2.2.2 = M.1.2.2.2.2 + n.toNatClampNeg := rfl
  have hA := A _ _ _ _ h (Rel.mk2 hal (by rw [eA]; omega) (by rw [eB]; omega))
  refine va_newa (atype := .int) (ty := .int) (a0 := (n.toNatClampNeg, Sum.inl (fun _ => (0 : Int32)))) hx hb (hts _ arrI_in) rfl h1 hR.1 hR.2.1 hS (fun q hq => Nat.le_trans hB hq) (fun cA => rfl) hn rfl (by show n.toNatClampNeg * 4 ≤ _; omega) (by rw [eA] at hA; omega) (by rw [eB] at hA; omega) hd (fun q cA1 H1 hK1 hP1 hD1 hS1 => ?_)
  have ec : cA1 = cA 0 := hK1.same (t0 := 0) rfl
  subst ec
  let ad' : Nat → Nat → Nat := fun c i => if c = a ∧ i = M.1.1 a then q else ad c i
  have hnn : ∀ q : Nat × Nat, q ∈ [(a, M.1.1 a)] ↔ q = (a, M.1.1 a) := fun q => List.mem_singleton
  have hne : ∀ z : Nat × Nat, z ∉ [(a, M.1.1 a)] → ¬ (z.1 = a ∧ z.2 = M.1.1 a) := fun z hz e => hz ((hnn z).mpr (Prod.ext e.1 e.2))
  have hq' : ad' a (M.1.1 a) = q := if_pos ⟨rfl, rfl⟩
  have he : ent cA ad' M' a (M.1.1 a) = .inl (cA 0, n.toNatClampNeg, .inl (fun _ => 0)) := by
    rw [ent_ia hc1]
    have f1 : M'.1.2.1 a (M.1.1 a) = n.toNatClampNeg := if_pos ⟨rfl, rfl⟩
    have f2 : M'.2.1 a (M.1.1 a) = fun _ => 0 := funext fun j => if_pos ⟨rfl, rfl⟩
    rw [f1, f2]
  have hwn : wl cA ad' M' [(a, M.1.1 a)] = [(q, .inl (cA 0, n.toNatClampNeg, .inl (fun _ => 0)))] := by
    show [(ad' a (M.1.1 a), ent cA ad' M' a (M.1.1 a))] = _
    rw [he, hq']
  obtain ⟨hR', E⟩ := hR.grow (ad' := ad') (M' := M') (H' := H1) [(a, M.1.1 a)] (fun z hz => by rw [(hnn z).mp hz]; exact ⟨hwa, Nat.le_refl _⟩) (fun z _ hz => if_neg (hne z hz)) (fun c i g1 g2 => if_neg (fun e => by have := e.1; have := isW_cases hwa; omega))
    (fun z _ hz _ => ⟨funext fun j => if_neg (hne z hz), funext fun j => if_neg (hne z hz), funext fun j => if_neg (hne z hz), if_neg (hne z hz)⟩)
    (fun c i hi => by
      have hi : i < (if c = a then M.1.1 a + 1 else M.1.1 c) := hi
      split at hi
      · rename_i e
        subst e
        by_cases e2 : i = M.1.1 c
        · exact Or.inr ((hnn _).mpr (by rw [e2]))
        · exact Or.inl (by omega)
      · exact Or.inl hi)
    (fun z hz => by
      rw [(hnn z).mp hz]
      show M.1.1 a < (if a = a then M.1.1 a + 1 else M.1.1 a)
      rw [if_pos rfl]; omega)
    (fun c => by
      show M.1.1 c ≤ (if c = a then M.1.1 a + 1 else M.1.1 c)
      split
      · rename_i e; subst e; omega
      · exact Nat.le_refl _)
    (fun z hz j y hy => by
      rw [(hnn z).mp hz] at hy
      have hy : (if a = a ∧ M.1.1 a = M.1.1 a then none else M.1.2.2.1 a (M.1.1 a) j) = some y := hy
      rw [if_pos ⟨rfl, rfl⟩] at hy
      cases hy)
    (by rw [hwn]; exact hP1) (by rw [hwn]; exact hD1)
  have hro' : ROm nS xs M' := RO.same hRO (fun c i g1 g2 => by
    have hne2 : ¬ (c = a ∧ i = M.1.1 a) := fun e => by have := isW_cases hwa; omega
    exact ⟨funext fun j => if_neg hne2, funext fun j => if_neg hne2, if_neg hne2⟩)
  have kk := K _ _ _ _ h (Rel.mk2 hal (by rw [eA]; omega) (by rw [eB]; omega)) (dir ++ [(a, M.1.1 a)]) ad' H1 locs ls E ⟨hR', hro', hS1, hL.ext E hvL, vS1 (Or.inl (List.mem_append_right _ ((hnn _).mpr rfl))) (fun v hv => ((vT1 hvS) v hv).ext E), fun i v hv => (hvL i v hv).ext E, fun c i g1 g2 => (E.2 c i g1 g2).trans (hro c i g1 g2), by rw [eA]; omega, by rw [eB]; omega⟩
  have e1 : M'.1.2.2.2.1 - a0 = M.1.2.2.2.1 - a0 + 1 := by rw [eA]; omega
  have e2 : M'.1.2.2.2.2 - b0 = M.1.2.2.2.2 - b0 + n.toNatClampNeg := by rw [eB]; omega
  rw [e1, e2] at kk
  have e3 : (aR a (M.1.1 a) :: S).map (cv ad' ov) = .ref q :: S.map (cv ad ov) := by
    show cv ad' ov (.inr (some (a, M.1.1 a))) :: S.map (cv ad' ov) = _
    rw [cv_ne (by have := isW_cases hwa; omega), hq', cv_exts E (vT1 hvS)]
  rw [e3] at kk
  exact kk

set_option maxHeartbeats 1000000 in
theorem s_newarray1 (A : KA R a0 b0 al M k out) (hna : isLA a = true) (C : Cx p s m args c cc nL own D cA ov aR0 B nS xs) (I : Inv s nL D cA ov aR0 B nS xs a0 b0 dir ad M H locs ls L S) (K : KK p l e R s m args below meth c Q nL D cA ov aR0 B nS xs a0 b0 dir ad al M k out)
    (hok : okF own nL cc pc (.newarray .long, len, (a, b, d), v, w, brs) = true) (h : astep al cs (.newarray .long, len, (a, b, d), v, w, brs) pc L S M k = some out) : W p l e R s m args below meth c H locs (M.1.2.2.2.1 - a0) (M.1.2.2.2.2 - b0) Q (F0 m pc ls (S.map (cv ad ov))) := by
  obtain ⟨hx, hb, hml, hown, hts, hSF, hB⟩ := C
  obtain ⟨hR, hRO, hS, hL, hvS, hvL, hro, hac, has⟩ := I
  obtain ⟨h1, h2, ⟨h3, h4, h5, h6⟩, h7, h8, h9, h10, h11, h12, h13, ho⟩ := hSF
  have hd : decode cc pc = .ok (.newarray .long, 2) ∧ len = 2 := by
    simp only [okF, nOK, okE, okD, Bool.and_eq_true, decide_eq_true_eq, Nat.beq_eq, Bool.true_and] at hok
    exact hok.1
  obtain ⟨hd, rfl⟩ := hd
  rcases S with _ | ⟨(n | n) | n, S⟩ <;> try exact ons h
  let M' : Mem := ((fun c => if c = a then M.1.1 a + 1 else M.1.1 c, (fun c i => if c = a ∧ i = M.1.1 a then n.toNatClampNeg else M.1.2.1 c i), (fun c i q => if c = a ∧ i = M.1.1 a then none else M.1.2.2.1 c i q), M.1.2.2.2.1 + 1, M.1.2.2.2.2 + n.toNatClampNeg), ((fun c i q => if c = a ∧ i = M.1.1 a then 0 else M.2.1 c i q), (fun c i q => if c = a ∧ i = M.1.1 a then 0 else M.2.2 c i q)))
  have h : (bif al && (isIA a || isLA a) && inB n 1000 then k (pc + 2) L (aR a (M.1.1 a) :: S) M' else none) = some out := h
  cases hc : al && (isIA a || isLA a) && inB n 1000 with
  | false => rw [hc] at h; exact ons h
  | true =>
  rw [hc] at h
  simp only [Bool.and_eq_true] at hc
  have hc1 := hna
  have hwa : isW a = true := by simp [isW, hna]
  have hal := hc.1.1
  obtain ⟨hn, hn1⟩ := inB_n hc.2
  have eA : M'.1.2.2.2.1 = M.1.2.2.2.1 + 1 := rfl
  have eB : M'.1.2.2.2.2 = M.1.2.2.2.2 + n.toNatClampNeg := rfl
  have hA := A _ _ _ _ h (Rel.mk2 hal (by rw [eA]; omega) (by rw [eB]; omega))
  refine va_newa (atype := .long) (ty := .long) (a0 := (n.toNatClampNeg, Sum.inr (Sum.inl (fun _ => (0 : Int64))))) hx hb (hts _ arrJ_in) rfl h1 hR.1 hR.2.1 hS (fun q hq => Nat.le_trans hB hq) (fun cA => rfl) hn rfl (by show n.toNatClampNeg * 8 ≤ _; omega) (by rw [eA] at hA; omega) (by rw [eB] at hA; omega) hd (fun q cA1 H1 hK1 hP1 hD1 hS1 => ?_)
  have ec : cA1 = cA 1 := hK1.same (t0 := 1) rfl
  subst ec
  let ad' : Nat → Nat → Nat := fun c i => if c = a ∧ i = M.1.1 a then q else ad c i
  have hnn : ∀ q : Nat × Nat, q ∈ [(a, M.1.1 a)] ↔ q = (a, M.1.1 a) := fun q => List.mem_singleton
  have hne : ∀ z : Nat × Nat, z ∉ [(a, M.1.1 a)] → ¬ (z.1 = a ∧ z.2 = M.1.1 a) := fun z hz e => hz ((hnn z).mpr (Prod.ext e.1 e.2))
  have hq' : ad' a (M.1.1 a) = q := if_pos ⟨rfl, rfl⟩
  have he : ent cA ad' M' a (M.1.1 a) = .inl (cA 1, n.toNatClampNeg, .inr (.inl (fun _ => 0))) := by
    rw [ent_la hc1]
    have f1 : M'.1.2.1 a (M.1.1 a) = n.toNatClampNeg := if_pos ⟨rfl, rfl⟩
    have f2 : M'.2.2 a (M.1.1 a) = fun _ => 0 := funext fun j => if_pos ⟨rfl, rfl⟩
    rw [f1, f2]
  have hwn : wl cA ad' M' [(a, M.1.1 a)] = [(q, .inl (cA 1, n.toNatClampNeg, .inr (.inl (fun _ => 0))))] := by
    show [(ad' a (M.1.1 a), ent cA ad' M' a (M.1.1 a))] = _
    rw [he, hq']
  obtain ⟨hR', E⟩ := hR.grow (ad' := ad') (M' := M') (H' := H1) [(a, M.1.1 a)] (fun z hz => by rw [(hnn z).mp hz]; exact ⟨hwa, Nat.le_refl _⟩) (fun z _ hz => if_neg (hne z hz)) (fun c i g1 g2 => if_neg (fun e => by have := e.1; have := isW_cases hwa; omega))
    (fun z _ hz _ => ⟨funext fun j => if_neg (hne z hz), funext fun j => if_neg (hne z hz), funext fun j => if_neg (hne z hz), if_neg (hne z hz)⟩)
    (fun c i hi => by
      have hi : i < (if c = a then M.1.1 a + 1 else M.1.1 c) := hi
      split at hi
      · rename_i e
        subst e
        by_cases e2 : i = M.1.1 c
        · exact Or.inr ((hnn _).mpr (by rw [e2]))
        · exact Or.inl (by omega)
      · exact Or.inl hi)
    (fun z hz => by
      rw [(hnn z).mp hz]
      show M.1.1 a < (if a = a then M.1.1 a + 1 else M.1.1 a)
      rw [if_pos rfl]; omega)
    (fun c => by
      show M.1.1 c ≤ (if c = a then M.1.1 a + 1 else M.1.1 c)
      split
      · rename_i e; subst e; omega
      · exact Nat.le_refl _)
    (fun z hz j y hy => by
      rw [(hnn z).mp hz] at hy
      have hy : (if a = a ∧ M.1.1 a = M.1.1 a then none else M.1.2.2.1 a (M.1.1 a) j) = some y := hy
      rw [if_pos ⟨rfl, rfl⟩] at hy
      cases hy)
    (by rw [hwn]; exact hP1) (by rw [hwn]; exact hD1)
  have hro' : ROm nS xs M' := RO.same hRO (fun c i g1 g2 => by
    have hne2 : ¬ (c = a ∧ i = M.1.1 a) := fun e => by have := isW_cases hwa; omega
    exact ⟨funext fun j => if_neg hne2, funext fun j => if_neg hne2, if_neg hne2⟩)
  have kk := K _ _ _ _ h (Rel.mk2 hal (by rw [eA]; omega) (by rw [eB]; omega)) (dir ++ [(a, M.1.1 a)]) ad' H1 locs ls E ⟨hR', hro', hS1, hL.ext E hvL, vS1 (Or.inl (List.mem_append_right _ ((hnn _).mpr rfl))) (fun v hv => ((vT1 hvS) v hv).ext E), fun i v hv => (hvL i v hv).ext E, fun c i g1 g2 => (E.2 c i g1 g2).trans (hro c i g1 g2), by rw [eA]; omega, by rw [eB]; omega⟩
  have e1 : M'.1.2.2.2.1 - a0 = M.1.2.2.2.1 - a0 + 1 := by rw [eA]; omega
  have e2 : M'.1.2.2.2.2 - b0 = M.1.2.2.2.2 - b0 + n.toNatClampNeg := by rw [eB]; omega
  rw [e1, e2] at kk
  have e3 : (aR a (M.1.1 a) :: S).map (cv ad' ov) = .ref q :: S.map (cv ad ov) := by
    show cv ad' ov (.inr (some (a, M.1.1 a))) :: S.map (cv ad' ov) = _
    rw [cv_ne (by have := isW_cases hwa; omega), hq', cv_exts E (vT1 hvS)]
  rw [e3] at kk
  exact kk

theorem tysL_n {cA : Nat → ClassId} {a : Nat} (h : 22 ≤ a ∧ a ≤ 24) : (tysL cA)[tyIx a]? = some (cA (tyIx a), .object (arrOf a)) := by
  have : a = 22 ∨ a = 23 ∨ a = 24 := by omega
  rcases this with rfl | rfl | rfl <;> rfl

set_option maxHeartbeats 1000000 in
theorem s_anewarray {z : Nat} (A : KA R a0 b0 al M k out) (C : Cx p s m args c cc nL own D cA ov aR0 B nS xs) (I : Inv s nL D cA ov aR0 B nS xs a0 b0 dir ad M H locs ls L S) (K : KK p l e R s m args below meth c Q nL D cA ov aR0 B nS xs a0 b0 dir ad al M k out)
    (hok : okF own nL cc pc (.anewarray z, len, (a, b, d), v, w, brs) = true) (h : astep al cs (.anewarray z, len, (a, b, d), v, w, brs) pc L S M k = some out) : W p l e R s m args below meth c H locs (M.1.2.2.2.1 - a0) (M.1.2.2.2.2 - b0) Q (F0 m pc ls (S.map (cv ad ov))) := by
  obtain ⟨hx, hb, hml, hown, hts, hSF, hB⟩ := C
  obtain ⟨hR, hRO, hS, hL, hvS, hvL, hro, hac, has⟩ := I
  obtain ⟨h1, h2, ⟨h3, h4, h5, h6⟩, h7, h8, h9, h10, h11, h12, h13, ho⟩ := hSF
  simp only [okF, nOK, okE, okD, Bool.and_eq_true, decide_eq_true_eq, Nat.beq_eq, Bool.true_and] at hok
  obtain ⟨⟨hd, rfl⟩, hf⟩ := hok
  rcases S with _ | ⟨(n | n) | n, S⟩ <;> try exact ons h
  let M' : Mem := ((fun c => if c = a then M.1.1 a + 1 else M.1.1 c, (fun c i => if c = a ∧ i = M.1.1 a then n.toNatClampNeg else M.1.2.1 c i), (fun c i q => if c = a ∧ i = M.1.1 a then none else M.1.2.2.1 c i q), M.1.2.2.2.1 + 1, M.1.2.2.2.2 + n.toNatClampNeg), M.2)
  have h : (bif al && (Nat.ble 22 a && Nat.ble a 24) && inB n 1000 then k (pc + 3) L (aR a (M.1.1 a) :: S) M' else none) = some out := h
  cases hc : al && (Nat.ble 22 a && Nat.ble a 24) && inB n 1000 with
  | false => rw [hc] at h; exact ons h
  | true =>
  rw [hc] at h
  simp only [Bool.and_eq_true, Nat.ble_eq] at hc
  have hra : isRA a = true := by simp only [isRA, Bool.and_eq_true, Nat.ble_eq]; omega
  have hwa : isW a = true := by simp [isW, hra]
  have hal := hc.1.1
  obtain ⟨hn, hn1⟩ := inB_n hc.2
  have eA : M'.1.2.2.2.1 = M.1.2.2.2.1 + 1 := rfl
  have eB : M'.1.2.2.2.2 = M.1.2.2.2.2 + n.toNatClampNeg := rfl
  have hA := A _ _ _ _ h (Rel.mk2 hal (by rw [eA]; omega) (by rw [eB]; omega))
  have hao : va_AO (arrOf a) s := by
    have : a = 22 ∨ a = 23 ∨ a = 24 := by omega
    rcases this with rfl | rfl | rfl
    · exact h3
    · exact h4
    · exact h5
  refine va_newq (C := arrOf a) hx hb hown (hts _ (nlE_w hf)) hao h1 hR.1 hR.2.1 hS (fun q hq => Nat.le_trans hB hq) hn rfl (by omega) (by rw [eA] at hA; omega) (by rw [eB] at hA; omega) hd (fun q cA1 H1 hK1 hP1 hD1 hS1 => ?_)
  have ec : cA1 = cA (tyIx a) := hK1.same (tysL_n hc.1.2)
  subst ec
  let ad' : Nat → Nat → Nat := fun c i => if c = a ∧ i = M.1.1 a then q else ad c i
  have hnn : ∀ q : Nat × Nat, q ∈ [(a, M.1.1 a)] ↔ q = (a, M.1.1 a) := fun q => List.mem_singleton
  have hne : ∀ z : Nat × Nat, z ∉ [(a, M.1.1 a)] → ¬ (z.1 = a ∧ z.2 = M.1.1 a) := fun z hz e => hz ((hnn z).mpr (Prod.ext e.1 e.2))
  have hq' : ad' a (M.1.1 a) = q := if_pos ⟨rfl, rfl⟩
  have he : ent cA ad' M' a (M.1.1 a) = .inl (cA (tyIx a), n.toNatClampNeg, .inr (.inr (.inr (.inr (fun _ => none))))) := by
    rw [ent_ra hra]
    have f1 : M'.1.2.1 a (M.1.1 a) = n.toNatClampNeg := if_pos ⟨rfl, rfl⟩
    have f2 : (fun j => (M'.1.2.2.1 a (M.1.1 a) j).map (adq ad')) = fun _ => none := funext fun j => by
      show ((if a = a ∧ M.1.1 a = M.1.1 a then none else M.1.2.2.1 a (M.1.1 a) j) : Option (Nat × Nat)).map (adq ad') = none
      rw [if_pos ⟨rfl, rfl⟩]
      rfl
    rw [f1, f2]
  have hwn : wl cA ad' M' [(a, M.1.1 a)] = [(q, .inl (cA (tyIx a), n.toNatClampNeg, .inr (.inr (.inr (.inr (fun _ => none))))))] := by
    show [(ad' a (M.1.1 a), ent cA ad' M' a (M.1.1 a))] = _
    rw [he, hq']
  obtain ⟨hR', E⟩ := hR.grow (ad' := ad') (M' := M') (H' := H1) [(a, M.1.1 a)] (fun z hz => by rw [(hnn z).mp hz]; exact ⟨hwa, Nat.le_refl _⟩) (fun z _ hz => if_neg (hne z hz)) (fun c i g1 g2 => if_neg (fun e => by have := e.1; have := isW_cases hwa; omega))
    (fun z _ hz _ => ⟨rfl, rfl, funext fun j => if_neg (hne z hz), if_neg (hne z hz)⟩)
    (fun c i hi => by
      have hi : i < (if c = a then M.1.1 a + 1 else M.1.1 c) := hi
      split at hi
      · rename_i e
        subst e
        by_cases e2 : i = M.1.1 c
        · exact Or.inr ((hnn _).mpr (by rw [e2]))
        · exact Or.inl (by omega)
      · exact Or.inl hi)
    (fun z hz => by
      rw [(hnn z).mp hz]
      show M.1.1 a < (if a = a then M.1.1 a + 1 else M.1.1 a)
      rw [if_pos rfl]; omega)
    (fun c => by
      show M.1.1 c ≤ (if c = a then M.1.1 a + 1 else M.1.1 c)
      split
      · rename_i e; subst e; omega
      · exact Nat.le_refl _)
    (fun z hz j y hy => by
      rw [(hnn z).mp hz] at hy
      have hy : (if a = a ∧ M.1.1 a = M.1.1 a then none else M.1.2.2.1 a (M.1.1 a) j) = some y := hy
      rw [if_pos ⟨rfl, rfl⟩] at hy
      cases hy)
    (by rw [hwn]; exact hP1) (by rw [hwn]; exact hD1)
  have hro' : ROm nS xs M' := RO.same hRO (fun c i g1 g2 => by
    have hne2 : ¬ (c = a ∧ i = M.1.1 a) := fun e => by have := isW_cases hwa; omega
    exact ⟨rfl, funext fun j => if_neg hne2, if_neg hne2⟩)
  have kk := K _ _ _ _ h (Rel.mk2 hal (by rw [eA]; omega) (by rw [eB]; omega)) (dir ++ [(a, M.1.1 a)]) ad' H1 locs ls E ⟨hR', hro', hS1, hL.ext E hvL, vS1 (Or.inl (List.mem_append_right _ ((hnn _).mpr rfl))) (fun v hv => ((vT1 hvS) v hv).ext E), fun i v hv => (hvL i v hv).ext E, fun c i g1 g2 => (E.2 c i g1 g2).trans (hro c i g1 g2), by rw [eA]; omega, by rw [eB]; omega⟩
  have e1 : M'.1.2.2.2.1 - a0 = M.1.2.2.2.1 - a0 + 1 := by rw [eA]; omega
  have e2 : M'.1.2.2.2.2 - b0 = M.1.2.2.2.2 - b0 + n.toNatClampNeg := by rw [eB]; omega
  rw [e1, e2] at kk
  have e3 : (aR a (M.1.1 a) :: S).map (cv ad' ov) = .ref q :: S.map (cv ad ov) := by
    show cv ad' ov (.inr (some (a, M.1.1 a))) :: S.map (cv ad' ov) = _
    rw [cv_ne (by have := isW_cases hwa; omega), hq', cv_exts E (vT1 hvS)]
  rw [e3] at kk
  exact kk

theorem upR_eq {mr : Nat → Nat → Nat → Option (Nat × Nat)} {c i k : Nat} {x : Nat × Nat} {ad : Nat → Nat → Nat} : (fun j => (upR mr c i k (some x) c i j).map (adq ad)) = va_up (fun j => (mr c i j).map (adq ad)) k (some (ad x.1 x.2)) := by
  funext j
  unfold upR va_up
  by_cases e : j = k
  · rw [if_pos ⟨rfl, rfl, e⟩, if_pos e]
    rfl
  · rw [if_neg (fun q => e q.2.2), if_neg e]
theorem aast_ty {cA : Nat → ClassId} {ci q : Nat} (h : (ci = 22 ∧ q = 0) ∨ (ci = 23 ∧ q = 1) ∨ (ci = 24 ∧ q = 4)) : (tysL cA)[tyIx ci]? = some (cA (tyIx ci), .object (cn q, TT q, NF q).1) := by
  rcases h with ⟨rfl, rfl⟩ | ⟨rfl, rfl⟩ | ⟨rfl, rfl⟩ <;> rfl

set_option maxHeartbeats 1000000 in
theorem s_aastore (C : Cx p s m args c cc nL own D cA ov aR0 B nS xs) (I : Inv s nL D cA ov aR0 B nS xs a0 b0 dir ad M H locs ls L S) (K : KK p l e R s m args below meth c Q nL D cA ov aR0 B nS xs a0 b0 dir ad al M k out)
    (hok : okF own nL cc pc (.aastore, len, (a, b, d), v, w, brs) = true) (h : astep al cs (.aastore, len, (a, b, d), v, w, brs) pc L S M k = some out) : W p l e R s m args below meth c H locs (M.1.2.2.2.1 - a0) (M.1.2.2.2.2 - b0) Q (F0 m pc ls (S.map (cv ad ov))) := by
  obtain ⟨hx, hb, hml, hown, hts, hSF, hB⟩ := C
  obtain ⟨hR, hRO, hS, hL, hvS, hvL, hro, hac, has⟩ := I
  obtain ⟨h1, h2, ⟨h3, h4, h5, h6⟩, h7, h8, h9, h10, h11, h12, h13, ho⟩ := hSF
  obtain ⟨hd, rfl⟩ : decode cc pc = .ok (.aastore, 1) ∧ len = 1 := by simpa [okF, nOK, okE, okD] using hok
  rcases S with _ | ⟨(x | x) | _ | q, _ | ⟨(j | j) | j, _ | ⟨(y | y) | _ | ⟨ci, ii⟩, S⟩⟩⟩ <;> try exact ons h
  let M' : Mem := ((M.1.1, M.1.2.1, upR M.1.2.2.1 ci ii j.toNatClampNeg (some q), M.1.2.2.2.1, M.1.2.2.2.2), M.2)
  have h : (bif al && ((Nat.beq ci 22 && Nat.beq q.1 0) || (Nat.beq ci 23 && Nat.beq q.1 1) || (Nat.beq ci 24 && Nat.beq q.1 4)) && inB j (M.1.2.1 ci ii) then k (pc + 1) L S M' else none) = some out := h
  cases hc : al && ((Nat.beq ci 22 && Nat.beq q.1 0) || (Nat.beq ci 23 && Nat.beq q.1 1) || (Nat.beq ci 24 && Nat.beq q.1 4)) && inB j (M.1.2.1 ci ii) with
  | false => rw [hc] at h; exact ons h
  | true =>
  rw [hc] at h
  simp only [Bool.and_eq_true, Bool.or_eq_true, Nat.beq_eq] at hc
  obtain ⟨⟨hal, hcc⟩, hj⟩ := hc
  have hcc : (ci = 22 ∧ q.1 = 0) ∨ (ci = 23 ∧ q.1 = 1) ∨ (ci = 24 ∧ q.1 = 4) := by omega
  have hq8 : q.1 < 8 := by omega
  have hra : isRA ci = true := by simp only [isRA, Bool.and_eq_true, Nat.ble_eq]; omega
  have hqd : q ∈ dir := hR.ro (vH1 hvS) (by simp [isW, hq8])
  have hm : (ci, ii) ∈ dir := hR.ro (vH1 (vT1 (vT1 hvS))) (by simp [isW, hra])
  obtain ⟨q0, hq0, he⟩ := wl_at (cA := cA) (ad := ad) (m := M) hm
  obtain ⟨qk, hqk, hek⟩ := wl_at (cA := cA) (ad := ad) (m := M) (c := q.1) (i := q.2) hqd
  rw [ent_ra hra] at he
  rw [ent_obj hq8] at hek
  have hcv : cv ad ov (.inr (some (ci, ii))) = .ref (ad ci ii) := cv_ne (by omega)
  have hcq : cv ad ov (.inr (some q)) = .ref (ad q.1 q.2) := cv_ne (c := q.1) (i := q.2) (by omega)
  show W p l e R s m args below meth c H locs _ _ Q (F0 m pc ls (cv ad ov (.inr (some q)) :: Value.int j :: cv ad ov (.inr (some (ci, ii))) :: S.map (cv ad ov)))
  rw [hcv, hcq]
  refine va_astq hx hb h1 hR.1 hR.2.1 hS q0 (tyIx ci) qk q.1 he (aast_ty hcc) hek (vw_at hq8) (inB_in hj) hd (fun H1 locs1 hP1 hD1 hS1 => ?_)
  refine K _ _ _ _ h (Rel.mk2 hal (Nat.le_refl _) (Nat.le_refl _)) dir ad H1 locs1 ls Ext.rf ⟨hR.put hq0 hP1 hD1 ?_ (fun z _ hz => ent_congr rfl rfl (upR_ne hz) rfl) rfl ?_, hRO.wrR (Or.inl (by omega)) _ _ _, hS1, hL, vT1 (vT1 (vT1 hvS)), hvL, hro, hac, has⟩
  · rw [ent_ra hra]
    show (Sum.inl (cA (tyIx ci), M.1.2.1 ci ii, .inr (.inr (.inr (.inr (fun z => (upR M.1.2.2.1 ci ii j.toNatClampNeg (some q) ci ii z).map (adq ad)))))) : va_E) = _
    rw [upR_eq]
  · intro c9 i9 k9 z hz hz2
    have hz2 : upR M.1.2.2.1 ci ii j.toNatClampNeg (some q) c9 i9 k9 = some z := hz2
    unfold upR at hz2
    split at hz2
    · rw [← Option.some.inj hz2]; exact hqd
    · exact hR.2.2.2.2.2 c9 i9 k9 z hz hz2

theorem cpL_eq {ml : MLg} {c i sp d j dp n : Nat} : cpL ml c i sp d j dp n d j = va_cpy (ml c i) (ml d j) sp dp n := by
  funext k
  unfold cpL va_cpy
  by_cases e : dp ≤ k ∧ k < dp + n
  · rw [if_pos ⟨rfl, rfl, e⟩, if_pos e]
  · rw [if_neg (fun q => e q.2.2), if_neg e]
theorem cpL_ne {ml : MLg} {c i sp d j dp n : Nat} {q : Nat × Nat} (h : q ≠ (d, j)) : cpL ml c i sp d j dp n q.1 q.2 = ml q.1 q.2 := by
  funext k
  unfold cpL
  rw [if_neg (fun e => h (Prod.ext e.1 e.2.1))]
theorem nfw : nativeFrameWords "java/lang/System" "arraycopy" 5 = 7 := by decide +kernel

set_option maxHeartbeats 1000000 in
theorem s_dmul (hfr : 1 ≤ R.frames) (hlo : 64 ≤ R.locals) (C : Cx p s m args c cc nL own D cA ov aR0 B nS xs) (I : Inv s nL D cA ov aR0 B nS xs a0 b0 dir ad M H locs ls L S) (K : KK p l e R s m args below meth c Q nL D cA ov aR0 B nS xs a0 b0 dir ad al M k out)
    (hok : okF own nL cc pc (.dmul, len, (a, b, d), v, w, brs) = true) (h : astep al cs (.dmul, len, (a, b, d), v, w, brs) pc L S M k = some out) : W p l e R s m args below meth c H locs (M.1.2.2.2.1 - a0) (M.1.2.2.2.2 - b0) Q (F0 m pc ls (S.map (cv ad ov))) := by
  obtain ⟨hx, hb, hml, hown, hts, hSF, hB⟩ := C
  obtain ⟨hR, hRO, hS, hL, hvS, hvL, hro, hac, has⟩ := I
  obtain ⟨h1, h2, ⟨h3, h4, h5, h6⟩, h7, h8, h9, h10, h11, h12, h13, ho⟩ := hSF
  simp only [okF, nOK, okE, okD, Bool.and_eq_true, decide_eq_true_eq, Nat.beq_eq, Bool.true_and] at hok
  obtain ⟨⟨hd, rfl⟩, hf⟩ := hok
  rcases S with _ | ⟨(n | n) | n, _ | ⟨(dp | dp) | dp, _ | ⟨(y1 | y1) | _ | ⟨c1, i1⟩, _ | ⟨(sp | sp) | sp, _ | ⟨(y2 | y2) | _ | ⟨c0, i0⟩, S⟩⟩⟩⟩⟩ <;> try exact ons h
  let M' : Mem := (M.1, (M.2.1, cpL M.2.2 c0 i0 sp.toNatClampNeg c1 i1 dp.toNatClampNeg n.toNatClampNeg))
  have h : (bif isLA c0 && isLA c1 && Nat.ble S.length 8 then
          if 0 ≤ sp ∧ 0 ≤ dp ∧ 0 ≤ n ∧ sp.toNatClampNeg + n.toNatClampNeg ≤ M.1.2.1 c0 i0 ∧ dp.toNatClampNeg + n.toNatClampNeg ≤ M.1.2.1 c1 i1 then k (pc + 3) L S M' else none
        else none) = some out := h
  cases hc : isLA c0 && isLA c1 && Nat.ble S.length 8 with
  | false => rw [hc] at h; exact ons h
  | true =>
  rw [hc] at h
  have h : (if 0 ≤ sp ∧ 0 ≤ dp ∧ 0 ≤ n ∧ sp.toNatClampNeg + n.toNatClampNeg ≤ M.1.2.1 c0 i0 ∧ dp.toNatClampNeg + n.toNatClampNeg ≤ M.1.2.1 c1 i1 then k (pc + 3) L S M' else none) = some out := h
  by_cases hin : 0 ≤ sp ∧ 0 ≤ dp ∧ 0 ≤ n ∧ sp.toNatClampNeg + n.toNatClampNeg ≤ M.1.2.1 c0 i0 ∧ dp.toNatClampNeg + n.toNatClampNeg ≤ M.1.2.1 c1 i1
  · rw [if_pos hin] at h
    simp only [Bool.and_eq_true, Nat.ble_eq] at hc
    obtain ⟨⟨hl0, hl1⟩, hlen⟩ := hc
    obtain ⟨g1, g2, g3, g4, g5⟩ := hin
    have hv1 := vH1 (vT1 (vT1 hvS))
    have hv0 := vH1 (vT1 (vT1 (vT1 (vT1 hvS))))
    have hm0 : (c0, i0) ∈ dir := hR.ro hv0 (by simp [isW, hl0])
    have hm1 : (c1, i1) ∈ dir := hR.ro hv1 (by simp [isW, hl1])
    obtain ⟨q0, hq0, he0⟩ := wl_at (cA := cA) (ad := ad) (m := M) hm0
    obtain ⟨q1, hq1, he1⟩ := wl_at (cA := cA) (ad := ad) (m := M) hm1
    rw [ent_la hl0] at he0
    rw [ent_la hl1] at he1
    have w0 := isLA_ge hl0
    have w1 := isLA_ge hl1
    have hcv0 : cv ad ov (.inr (some (c0, i0))) = .ref (ad c0 i0) := cv_ne (by omega)
    have hcv1 : cv ad ov (.inr (some (c1, i1))) = .ref (ad c1 i1) := cv_ne (by omega)
    have hcs := cat_sum (ad := ad) (ov := ov) ho S
    show W p l e R s m args below meth c H locs _ _ Q (F0 m pc ls (Value.int n :: Value.int dp :: cv ad ov (.inr (some (c1, i1))) :: Value.int sp :: cv ad ov (.inr (some (c0, i0))) :: S.map (cv ad ov)))
    rw [hcv0, hcv1]
    refine va_copyl hx hb (by rw [hml]; exact hL.1.symm) hown (hts _ (blE_w hf)) (hts _ blw.2.2.1) (hts _ blw.2.2.2.1) (hts _ blw.2.2.2.2.1) h1 hR.1 hR.2.1 hS q0 q1 1 1 he0 he1 rfl rfl rfl (Int32.not_lt.mpr g1) (Int32.not_lt.mpr g2) (Int32.not_lt.mpr g3) g4 g5 (fun _ _ => rfl) hfr (by rw [nfw]; omega) hd (fun H1 locs1 hP1 hD1 hS1 => ?_)
    refine K _ _ _ _ h (Rel.of rfl) dir ad H1 locs1 ls Ext.rf ⟨hR.put hq1 hP1 hD1 ?_ (fun q _ hq => ent_congr rfl (cpL_ne hq) rfl rfl) rfl hR.2.2.2.2.2, hRO, hS1, hL, vT1 (vT1 (vT1 (vT1 (vT1 hvS)))), hvL, hro, hac, has⟩
    rw [ent_la hl1, ← cpL_eq]
  · rw [if_neg hin] at h; exact ons h

set_option maxHeartbeats 1000000 in
theorem s_multianewarray {z y : Nat} (A : KA R a0 b0 al M k out) (C : Cx p s m args c cc nL own D cA ov aR0 B nS xs) (I : Inv s nL D cA ov aR0 B nS xs a0 b0 dir ad M H locs ls L S) (K : KK p l e R s m args below meth c Q nL D cA ov aR0 B nS xs a0 b0 dir ad al M k out)
    (hok : okF own nL cc pc (.multianewarray z y, len, (a, b, d), v, w, brs) = true) (h : astep al cs (.multianewarray z y, len, (a, b, d), v, w, brs) pc L S M k = some out) : W p l e R s m args below meth c H locs (M.1.2.2.2.1 - a0) (M.1.2.2.2.2 - b0) Q (F0 m pc ls (S.map (cv ad ov))) := by
  obtain ⟨hx, hb, hml, hown, hts, hSF, hB⟩ := C
  obtain ⟨hR, hRO, hS, hL, hvS, hvL, hro, hac, has⟩ := I
  obtain ⟨h1, h2, ⟨h3, h4, h5, h6⟩, h7, h8, h9, h10, h11, h12, h13, ho⟩ := hSF
  simp only [okF, nOK, okE, okD, Bool.and_eq_true, decide_eq_true_eq, Nat.beq_eq, Bool.true_and] at hok
  obtain ⟨⟨hd, rfl⟩, hf⟩ := hok
  rcases S with _ | ⟨(u | u) | u, _ | ⟨(n | n) | n, S⟩⟩ <;> try exact ons h
  let M' : Mem := ((fun c => if c = a then M.1.1 a + 1 else if c = b then M.1.1 b + n.toNatClampNeg else M.1.1 c, (fun c i => if c = a ∧ i = M.1.1 a then n.toNatClampNeg else if c = b ∧ M.1.1 b ≤ i then u.toNatClampNeg else M.1.2.1 c i), (fun c i q => if c = a ∧ i = M.1.1 a then (if q < n.toNatClampNeg then some (b, M.1.1 b + q) else none) else if c = b ∧ M.1.1 b ≤ i then none else M.1.2.2.1 c i q), M.1.2.2.2.1 + 1 + n.toNatClampNeg, M.1.2.2.2.2 + n.toNatClampNeg + n.toNatClampNeg * u.toNatClampNeg), (fun c i q => if c = b ∧ M.1.1 b ≤ i then 0 else M.2.1 c i q, M.2.2))
  have h : (bif al && (Nat.ble 25 a && Nat.ble a 26) && isIA b && inB n 1000 && inB u 1000 then k (pc + 4) L (aR a (M.1.1 a) :: S) M' else none) = some out := h
  cases hc : al && (Nat.ble 25 a && Nat.ble a 26) && isIA b && inB n 1000 && inB u 1000 with
  | false => rw [hc] at h; exact ons h
  | true =>
  rw [hc] at h
  simp only [Bool.and_eq_true, Nat.ble_eq] at hc
  obtain ⟨⟨⟨⟨hal, hab⟩, hbi⟩, hn⟩, hu⟩ := hc
  obtain ⟨hn0, hn1⟩ := inB_n hn
  obtain ⟨hu0, hu1⟩ := inB_n hu
  have hbge := isIA_ge hbi
  have hra : isRA a = true := by simp only [isRA, Bool.and_eq_true, Nat.ble_eq]; omega
  have hwa : isW a = true := by simp [isW, hra]
  have hwb : isW b = true := by simp [isW, hbi]
  have hty : tyIx a = 5 := by
    have : a = 25 ∨ a = 26 := by omega
    rcases this with rfl | rfl <;> rfl
  have hao : arrOf a = "[" ++ (FieldType.array FieldType.int).toString := by
    have : a = 25 ∨ a = 26 := by omega
    rcases this with rfl | rfl <;> decide +kernel
  have eA : M'.1.2.2.2.1 = M.1.2.2.2.1 + 1 + n.toNatClampNeg := rfl
  have eB : M'.1.2.2.2.2 = M.1.2.2.2.2 + n.toNatClampNeg + n.toNatClampNeg * u.toNatClampNeg := rfl
  have hA := A _ _ _ _ h (Rel.mk2 hal (by rw [eA]; omega) (by rw [eB]; omega))
  have hcl := nlE_w hf
  rw [hao] at hcl
  have hcy : s.vm.findClass (FieldType.array FieldType.int).toString = some (cA 0) := (h1.2 0 (cA 0, .int) rfl).2
  have hP0 : va_P D vwCl (wl cA ad M dir ++ va_pl [] (fun _ => Sum.inr (0, []))) H := by
    show va_P D vwCl (wl cA ad M dir ++ []) H
    rw [List.append_nil]
    exact hR.1
  have hD0 : va_D (fun q => B ≤ q) (wl cA ad M dir ++ va_pl [] (fun _ => Sum.inr (0, []))) := by
    show va_D (fun q => B ≤ q) (wl cA ad M dir ++ [])
    rw [List.append_nil]
    exact hR.2.1
  have hmul : n.toNatClampNeg * u.toNatClampNeg ≤ 1000 * 1000 := Nat.mul_le_mul (by omega) (by omega)
  refine va_mna (z := (u.toNatClampNeg, Sum.inl (fun _ => 0))) (cy := cA 0) (ty := .int) hx hb hown (hts _ hcl) h6 (hts _ arrI_in) hcy h1 hP0 hD0 hS (fun q hq => Nat.le_trans hB hq) hn0 hu0 rfl rfl (by omega) (by show u.toNatClampNeg * 4 ≤ _; omega) (by omega) rfl rfl (by rw [eA] at hA; omega) (by rw [eB] at hA; omega) (fun cc9 => by
    show ({ cls := cc9, slots := Array.replicate u.toNatClampNeg (.int 0), vm := .none } : Cell) = _
    rw [arrV_new]
    rfl) hd (fun q r cA1 H1 hrinj hrn hK1 hP1 hD1 hS1 => ?_)
  have ec : cA1 = cA 5 := hK1.same (t0 := 5) rfl
  subst ec
  let ad' : Nat → Nat → Nat := fun c i => if c = a ∧ i = M.1.1 a then q else if c = b ∧ M.1.1 b ≤ i then r (i - M.1.1 b) else ad c i
  let rows : List (Nat × Nat) := (List.range n.toNatClampNeg).map (fun i => (b, M.1.1 b + i))
  have hab2 : ¬ b = a := by omega
  have hnn : ∀ z : Nat × Nat, z ∈ (a, M.1.1 a) :: rows ↔ z = (a, M.1.1 a) ∨ ∃ i, i < n.toNatClampNeg ∧ z = (b, M.1.1 b + i) := fun z => by
    rw [List.mem_cons]
    refine or_congr Iff.rfl ⟨fun hz => ?_, fun ⟨i, hi, e⟩ => List.mem_map.mpr ⟨i, List.mem_range.mpr hi, e.symm⟩⟩
    obtain ⟨i, hi, e⟩ := List.mem_map.mp hz
    exact ⟨i, List.mem_range.mp hi, e.symm⟩
  have hdlt : ∀ z ∈ dir, z.2 < M.1.1 z.1 := fun z hz => hR.2.2.2.2.1 z.1 z.2 hz
  have hne1 : ∀ z ∈ dir, ¬ (z.1 = a ∧ z.2 = M.1.1 a) := fun z hz e => by have := hdlt z hz; rw [e.1, e.2] at this; omega
  have hne2 : ∀ z ∈ dir, ¬ (z.1 = b ∧ M.1.1 b ≤ z.2) := fun z hz e => by have := hdlt z hz; rw [e.1] at this; omega
  have hq' : ad' a (M.1.1 a) = q := if_pos ⟨rfl, rfl⟩
  have hr' : ∀ i, ad' b (M.1.1 b + i) = r i := fun i => by
    show (if b = a ∧ M.1.1 b + i = M.1.1 a then q else if b = b ∧ M.1.1 b ≤ M.1.1 b + i then r (M.1.1 b + i - M.1.1 b) else ad b (M.1.1 b + i)) = r i
    rw [if_neg (fun e => hab2 e.1), if_pos ⟨rfl, by omega⟩]
    congr 1
    omega
  have heb : ∀ i, ent cA ad' M' b (M.1.1 b + i) = .inl (cA 0, u.toNatClampNeg, .inl (fun _ => 0)) := fun i => by
    rw [ent_ia hbi]
    have f1 : M'.1.2.1 b (M.1.1 b + i) = u.toNatClampNeg := by
      show (if b = a ∧ M.1.1 b + i = M.1.1 a then n.toNatClampNeg else if b = b ∧ M.1.1 b ≤ M.1.1 b + i then u.toNatClampNeg else M.1.2.1 b (M.1.1 b + i)) = _
      rw [if_neg (fun e => hab2 e.1), if_pos ⟨rfl, by omega⟩]
    have f2 : M'.2.1 b (M.1.1 b + i) = fun _ => 0 := funext fun j => if_pos ⟨rfl, by omega⟩
    rw [f1, f2]
  have hea : ent cA ad' M' a (M.1.1 a) = .inl (cA 5, n.toNatClampNeg, .inr (.inr (.inr (.inr (fun i => if i < n.toNatClampNeg then some (r i) else none))))) := by
    rw [ent_ra hra, hty]
    have f1 : M'.1.2.1 a (M.1.1 a) = n.toNatClampNeg := if_pos ⟨rfl, rfl⟩
    have f2 : (fun j => (M'.1.2.2.1 a (M.1.1 a) j).map (adq ad')) = fun i => if i < n.toNatClampNeg then some (r i) else none := funext fun j => by
      show ((if a = a ∧ M.1.1 a = M.1.1 a then (if j < n.toNatClampNeg then some (b, M.1.1 b + j) else none) else if a = b ∧ M.1.1 b ≤ M.1.1 a then none else M.1.2.2.1 a (M.1.1 a) j) : Option (Nat × Nat)).map (adq ad') = _
      rw [if_pos ⟨rfl, rfl⟩]
      by_cases hj : j < n.toNatClampNeg
      · rw [if_pos hj, if_pos hj]
        show some (ad' b (M.1.1 b + j)) = _
        rw [hr']
      · rw [if_neg hj, if_neg hj]
        rfl
    rw [f1, f2]
  have hwn : wl cA ad M dir ++ wl cA ad' M' ((a, M.1.1 a) :: rows) = ((wl cA ad M dir ++ [(q, .inl (cA 5, n.toNatClampNeg, .inr (.inr (.inr (.inr (fun i => if i < n.toNatClampNeg then some (r i) else none))))))]) ++ va_pl ([] ++ (List.range n.toNatClampNeg).map r) (vr_up (fun _ => Sum.inr (0, [])) ((List.range n.toNatClampNeg).map r) (.inl (cA 0, (u.toNatClampNeg, Sum.inl (fun _ => 0)))))) := by
    rw [List.append_assoc]
    congr 1
    show (ad' a (M.1.1 a), ent cA ad' M' a (M.1.1 a)) :: wl cA ad' M' rows = _
    rw [hq', hea]
    show _ :: _ = _ :: _
    congr 1
    unfold wl va_pl
    rw [List.nil_append, List.map_map, List.map_map]
    apply List.map_congr_left
    intro i hi
    show (ad' b (M.1.1 b + i), ent cA ad' M' b (M.1.1 b + i)) = (r i, vr_up _ _ _ (r i))
    rw [hr', heb, vr_up_in (List.mem_map.mpr ⟨i, hi, rfl⟩)]
  obtain ⟨hR', E⟩ := hR.grow (ad' := ad') (M' := M') (H' := H1) ((a, M.1.1 a) :: rows) (fun z hz => by
      rcases (hnn z).mp hz with rfl | ⟨i, -, rfl⟩
      · exact ⟨hwa, Nat.le_refl _⟩
      · exact ⟨hwb, by show M.1.1 b ≤ M.1.1 b + i; omega⟩)
    (fun z hz _ => by
      show (if z.1 = a ∧ z.2 = M.1.1 a then q else if z.1 = b ∧ M.1.1 b ≤ z.2 then r (z.2 - M.1.1 b) else ad z.1 z.2) = _
      rw [if_neg (hne1 z hz), if_neg (hne2 z hz)])
    (fun c i g1 g2 => by
      show (if c = a ∧ i = M.1.1 a then q else if c = b ∧ M.1.1 b ≤ i then r (i - M.1.1 b) else ad c i) = _
      rw [if_neg (fun e => by omega), if_neg (fun e => by omega)])
    (fun z hz _ _ => ⟨funext fun j => if_neg (hne2 z hz), rfl, funext fun j => by
        show (if z.1 = a ∧ z.2 = M.1.1 a then (if j < n.toNatClampNeg then some (b, M.1.1 b + j) else none) else if z.1 = b ∧ M.1.1 b ≤ z.2 then none else M.1.2.2.1 z.1 z.2 j) = _
        rw [if_neg (hne1 z hz), if_neg (hne2 z hz)], by
        show (if z.1 = a ∧ z.2 = M.1.1 a then n.toNatClampNeg else if z.1 = b ∧ M.1.1 b ≤ z.2 then u.toNatClampNeg else M.1.2.1 z.1 z.2) = _
        rw [if_neg (hne1 z hz), if_neg (hne2 z hz)]⟩)
    (fun c i hi => by
      have hi : i < (if c = a then M.1.1 a + 1 else if c = b then M.1.1 b + n.toNatClampNeg else M.1.1 c) := hi
      by_cases e1 : c = a
      · rw [if_pos e1] at hi
        by_cases e2 : i = M.1.1 a
        · exact Or.inr ((hnn _).mpr (Or.inl (by rw [e1, e2])))
        · exact Or.inl (by rw [e1]; omega)
      · rw [if_neg e1] at hi
        by_cases e2 : c = b
        · rw [if_pos e2] at hi
          by_cases e3 : i < M.1.1 b
          · exact Or.inl (by rw [e2]; exact e3)
          · exact Or.inr ((hnn _).mpr (Or.inr ⟨i - M.1.1 b, by omega, by rw [e2]; congr 1; omega⟩))
        · rw [if_neg e2] at hi
          exact Or.inl hi)
    (fun z hz => by
      rcases (hnn z).mp hz with rfl | ⟨i, hi, rfl⟩
      · show M.1.1 a < (if a = a then M.1.1 a + 1 else if a = b then M.1.1 b + n.toNatClampNeg else M.1.1 a)
        rw [if_pos rfl]; omega
      · show M.1.1 b + i < (if b = a then M.1.1 a + 1 else if b = b then M.1.1 b + n.toNatClampNeg else M.1.1 b)
        rw [if_neg hab2, if_pos rfl]; omega)
    (fun c => by
      show M.1.1 c ≤ (if c = a then M.1.1 a + 1 else if c = b then M.1.1 b + n.toNatClampNeg else M.1.1 c)
      split
      · rename_i e; subst e; omega
      · split
        · rename_i e; subst e; omega
        · exact Nat.le_refl _)
    (fun z hz j y hy => by
      rcases (hnn z).mp hz with rfl | ⟨i, hi, rfl⟩
      · have hy : (if a = a ∧ M.1.1 a = M.1.1 a then (if j < n.toNatClampNeg then some (b, M.1.1 b + j) else none) else if a = b ∧ M.1.1 b ≤ M.1.1 a then none else M.1.2.2.1 a (M.1.1 a) j) = some y := hy
        rw [if_pos ⟨rfl, rfl⟩] at hy
        by_cases hj : j < n.toNatClampNeg
        · rw [if_pos hj] at hy
          rw [← Option.some.inj hy]
          exact List.mem_append_right _ ((hnn _).mpr (Or.inr ⟨j, hj, rfl⟩))
        · rw [if_neg hj] at hy
          cases hy
      · have hy : (if b = a ∧ M.1.1 b + i = M.1.1 a then (if j < n.toNatClampNeg then some (b, M.1.1 b + j) else none) else if b = b ∧ M.1.1 b ≤ M.1.1 b + i then none else M.1.2.2.1 b (M.1.1 b + i) j) = some y := hy
        rw [if_neg (fun e => hab2 e.1), if_pos ⟨rfl, by omega⟩] at hy
        cases hy)
    (by rw [hwn]; exact hP1) (by rw [hwn]; exact hD1)
  have hro' : ROm nS xs M' := RO.same hRO (fun c i g1 g2 => by
    have k1 : ¬ (c = a ∧ i = M.1.1 a) := fun e => by omega
    have k2 : ¬ (c = b ∧ M.1.1 b ≤ i) := fun e => by omega
    refine ⟨funext fun j => if_neg k2, funext fun j => ?_, ?_⟩
    · show (if c = a ∧ i = M.1.1 a then (if j < n.toNatClampNeg then some (b, M.1.1 b + j) else none) else if c = b ∧ M.1.1 b ≤ i then none else M.1.2.2.1 c i j) = _
      rw [if_neg k1, if_neg k2]
    · show (if c = a ∧ i = M.1.1 a then n.toNatClampNeg else if c = b ∧ M.1.1 b ≤ i then u.toNatClampNeg else M.1.2.1 c i) = _
      rw [if_neg k1, if_neg k2])
  have kk := K _ _ _ _ h (Rel.mk2 hal (by rw [eA]; omega) (by rw [eB]; omega)) (dir ++ ((a, M.1.1 a) :: rows)) ad' H1 locs ls E ⟨hR', hro', hS1, hL.ext E hvL, vS1 (Or.inl (List.mem_append_right _ List.mem_cons_self)) (fun v hv => ((vT1 (vT1 hvS)) v hv).ext E), fun i v hv => (hvL i v hv).ext E, fun c i g1 g2 => (E.2 c i g1 g2).trans (hro c i g1 g2), by rw [eA]; omega, by rw [eB]; omega⟩
  have e1 : M'.1.2.2.2.1 - a0 = M.1.2.2.2.1 - a0 + 1 + n.toNatClampNeg := by rw [eA]; omega
  have e2 : M'.1.2.2.2.2 - b0 = M.1.2.2.2.2 - b0 + n.toNatClampNeg + n.toNatClampNeg * u.toNatClampNeg := by rw [eB]; omega
  rw [e1, e2] at kk
  have e3 : (aR a (M.1.1 a) :: S).map (cv ad' ov) = .ref q :: S.map (cv ad ov) := by
    show cv ad' ov (.inr (some (a, M.1.1 a))) :: S.map (cv ad' ov) = _
    rw [cv_ne (by omega), hq', cv_exts E (vT1 (vT1 hvS))]
  rw [e3] at kk
  exact kk

end MST
end
section
/-! CALLS: a method's contract over the memory, and the call of one -/
/-- of each method: how many words it takes (with the object), whether it has an object (1) -/
def npT : List (Nat × Nat) := [(1, 1), (5, 1), (2, 1), (2, 1), (1, 1), (1, 1), (1, 1), (1, 1), (1, 1), (2, 1), (3, 1), (3, 1), (3, 1), (2, 1), (2, 1), (1, 1), (1, 1), (2, 1), (2, 1), (2, 1), (3, 1), (1, 0), (3, 0), (1, 1), (2, 1), (2, 1), (1, 0), (1, 0), (1, 1), (1, 1), (1, 1), (3, 1), (2, 1), (2, 1), (2, 1), (1, 1), (4, 1), (2, 1), (2, 1), (2, 1), (1, 1), (2, 1), (2, 1), (2, 1), (2, 1), (1, 1), (1, 1), (2, 1), (3, 1), (5, 1), (4, 1), (2, 1), (2, 1), (2, 1), (2, 1), (3, 1), (4, 1), (5, 1), (4, 1), (2, 1), (2, 1), (1, 1), (1, 1), (2, 1), (1, 1), (4, 1), (4, 1), (6, 1), (3, 1), (2, 1), (3, 1), (3, 1), (2, 1), (4, 1), (4, 1), (3, 1), (3, 1), (2, 1), (1, 1), (1, 1), (3, 1), (3, 1), (2, 1), (4, 1), (3, 1), (2, 1), (2, 1), (3, 1), (2, 1), (3, 1), (5, 1), (4, 1), (5, 1), (4, 1), (3, 1), (3, 1), (4, 1), (2, 1), (3, 1), (2, 1), (3, 1), (2, 1), (3, 1), (2, 1), (2, 1), (3, 1), (2, 1), (2, 1), (4, 1), (3, 1), (1, 1), (2, 1), (4, 1), (5, 1), (2, 1), (2, 1), (2, 1), (1, 1), (1, 1), (2, 1), (3, 0), (1, 0), (2, 0), (2, 0), (2, 1), (2, 1), (1, 1), (3, 1), (5, 1), (5, 1), (4, 1), (1, 1), (2, 1), (1, 1), (3, 1), (4, 1), (2, 1), (1, 1), (2, 1), (3, 0), (2, 1), (2, 1), (2, 1), (2, 0), (1, 0), (1, 0), (2, 1), (4, 1), (2, 1), (2, 0), (4, 1), (6, 1), (3, 1), (2, 1), (3, 1), (2, 0), (3, 1), (2, 1), (4, 1), (4, 1), (4, 1), (3, 1), (3, 1), (6, 1), (5, 1), (2, 1), (1, 1), (1, 0), (1, 0), (1, 1), (2, 1), (3, 1), (1, 1), (1, 1), (1, 1), (1, 1), (1, 1), (2, 1), (3, 1), (2, 1), (3, 1), (2, 1), (2, 1), (2, 1), (2, 1), (2, 1), (2, 1), (4, 1), (3, 1), (2, 1), (4, 1), (2, 1), (2, 1), (3, 1), (3, 1), (2, 1), (3, 1), (5, 1), (5, 1), (3, 1), (4, 1), (3, 1), (3, 1), (4, 1), (5, 1), (4, 1), (6, 1), (3, 1), (3, 1), (4, 1), (2, 1), (3, 1), (2, 1), (2, 1), (2, 1), (1, 1), (3, 1), (2, 1), (2, 1), (3, 1), (2, 1), (2, 1), (3, 1), (2, 1), (4, 1), (3, 1), (2, 1), (4, 1), (2, 1), (2, 1), (2, 1), (2, 1), (2, 1), (2, 1), (1, 1), (1, 1), (2, 1), (1, 0), (1, 1), (2, 1), (1, 1), (1, 1), (2, 0), (2, 0), (3, 0)]
def npj (j : Nat) : Nat × Nat := npT.getD j (99, 9)
def rtag (j : Nat) : Nat := if owM j = 9 then 31 else owM j
theorem ML_np : MLt.all (fun e => Nat.beq (npj e.2.2.2.1).1 e.2.2.2.2.1 && (if e.2.2.1 = 1 ∨ e.2.2.1 = 4 then Nat.beq (npj e.2.2.2.1).2 0 else Nat.beq (npj e.2.2.2.1).2 1)) = true := by decide +kernel
/-- a method's start: its words, what is only read, the heap holds the memory -/
def PcM (D : va_G) (cA : Nat → ClassId) (ov : Value) (aR0 : Nat → Nat → Nat) (B nS : Nat) (xs : Nat → Int32) (dir : List (Nat × Nat)) (ad : Nat → Nat → Nat) (as : List AV) (M : Mem) : Array Value → State → Prop :=
  fun a U => a = (as.map (cv ad ov)).toArray ∧ SFp D cA ov aR0 B nS xs U ∧ B ≤ U.heap.size ∧ Rep D cA ad dir B M U.heap
/-- a method's end: the answer, the heap holds the new memory, nothing below is changed -/
def QcM (D : va_G) (cA : Nat → ClassId) (ov : Value) (B : Nat) (dir : List (Nat × Nat)) (ad : Nat → Nat → Nat) (v : Option AV) (M' : Mem) : Array Value → State → Outcome → State → Prop :=
  fun _ st o t => ∃ (dir' : List (Nat × Nat)) (ad' : Nat → Nat → Nat), o = .returned (v.map (cv ad' ov)) ∧ Ext dir dir' ad ad' ∧ (∀ x, v = some x → vok dir' x) ∧ Rep D cA ad' dir' B M' t.heap ∧ va_F (fun q => B ≤ q) st t
def rmM (d : Nat) (M M' : Mem) : Room := { frames := d, cells := M'.1.2.2.2.1 - M.1.2.2.2.1, slots := M'.1.2.2.2.2 - M.1.2.2.2.2, locals := 64 * d }
/-- the contract of method j at these words and this memory -/
def MetC (l : Launch) (D : va_G) (cA : Nat → ClassId) (ov : Value) (aR0 : Nat → Nat → Nat) (B nS : Nat) (xs : Nat → Int32) (d j : Nat) (as : List AV) (M : Mem) (v : Option AV) (M' : Mem) : Prop :=
  ROm nS xs M → ROm nS xs M' ∧ M.1.2.2.2.1 ≤ M'.1.2.2.2.1 ∧ M.1.2.2.2.2 ≤ M'.1.2.2.2.2 ∧ ∀ (dir : List (Nat × Nat)) (ad : Nat → Nat → Nat), (∀ c i, 30 ≤ c → c ≤ 34 → ad c i = aR0 c i) → (∀ x ∈ as, vok dir x) →
    Met l (yM j) (wM j) (rmM d M M') (PcM D cA ov aR0 B nS xs dir ad as M) (QcM D cA ov B dir ad v M') (M'.1.2.2.2.1 - M.1.2.2.2.1) (M'.1.2.2.2.2 - M.1.2.2.2.2) (fun q => B ≤ q)
theorem PcM.blind {D : va_G} {cA : Nat → ClassId} {ov : Value} {aR0 : Nat → Nat → Nat} {B nS : Nat} {xs : Nat → Int32} {dir : List (Nat × Nat)} {ad : Nat → Nat → Nat} {as : List AV} {M : Mem} : FrameBlind (PcM D cA ov aR0 B nS xs dir ad as M) :=
  fun a _ g mk ⟨h1, h2, h3, h4⟩ => ⟨h1, h2.call a g mk, h3, h4⟩
theorem ML_nest : MLt.all (fun e => !(decide (3 ≤ e.2.2.1)) || NNt.any (fun x => Nat.beq x.1 e.1 && Nat.beq x.2.1 e.2.1 && Nat.beq x.2.2.1 e.2.2.2.1)) = true := by decide +kernel
theorem mlE_of {own idx kd j n : Nat} (h : mlE own idx kd j n = true) : ∃ pl p2 ps pi, mlOK (own, idx, kd, j, n, pl, p2, ps, pi) = true ∧ (npj j).1 = n ∧ (if kd = 1 ∨ kd = 4 then Nat.beq (npj j).2 0 else Nat.beq (npj j).2 1) = true ∧ (3 ≤ kd → ∃ e ∈ NNt, (e.1, e.2.1, e.2.2.1) = (own, idx, j)) := by
  obtain ⟨e, he, h⟩ := List.any_eq_true.mp h
  simp only [Bool.and_eq_true, Nat.beq_eq] at h
  obtain ⟨o1, i1, k1, j1, n1, pl, p2, ps, pi⟩ := e
  obtain ⟨⟨⟨⟨rfl, rfl⟩, rfl⟩, rfl⟩, rfl⟩ := h
  have g := List.all_eq_true.mp ML_np _ he
  simp only [Bool.and_eq_true, Nat.beq_eq] at g
  refine ⟨pl, p2, ps, pi, List.all_eq_true.mp MLt_ok _ he, g.1, g.2, fun h3 => ?_⟩
  have h5 := List.all_eq_true.mp ML_nest _ he
  simp only [Bool.or_eq_true, Bool.not_eq_true', decide_eq_false_iff_not, List.any_eq_true, Bool.and_eq_true, Nat.beq_eq] at h5
  rcases h5 with h5 | ⟨x, hx, h5⟩
  · exact absurd h3 h5
  · obtain ⟨⟨e1, e2⟩, e3⟩ := h5
    exact ⟨x, hx, by rw [e1, e2, e3]⟩

section CST
variable {p : Program} {l : Launch} {e : Env} {R : Room} {s : State} {m : MethodId} {args : Array Value} {below : List Frame} {meth : Method} {c : Code} {Q : State → Prop}
variable {D : va_G} {cA : Nat → ClassId} {ov : Value} {aR0 : Nat → Nat → Nat} {B nS : Nat} {xs : Nat → Int32} {cc : ByteArray} {nL own a0 b0 : Nat}
variable {al : Bool} {cs : CS} {pc : Nat} {L : LV} {S : List AV} {M : Mem} {k : Nat → LV → List AV → Mem → Option Out} {out : Out}
variable {dir : List (Nat × Nat)} {ad : Nat → Nat → Nat} {H : Heap} {locs : List Loc} {ls : Array Slot} {len a b d : Nat} {v : Int32} {w : Int64} {brs : List (Int32 × Nat)}

/-- behind a call -/
theorem c_back {R : Room} {st0 : List Value} {rest : List AV} {as : Array Value} {v : Option AV} {M M' : Mem} {mc ms : Nat} (hmc : mc = M'.1.2.2.2.1 - M.1.2.2.2.1) (hms : ms = M'.1.2.2.2.2 - M.1.2.2.2.2)
    (I : Inv s nL D cA ov aR0 B nS xs a0 b0 dir ad M H locs ls L S) (hrest : ∀ x ∈ rest, vok dir x) (hro : ROm nS xs M') (hm1 : M.1.2.2.2.1 ≤ M'.1.2.2.2.1) (hm2 : M.1.2.2.2.2 ≤ M'.1.2.2.2.2)
    (hr : va_Run p l e R s m args below meth c H locs (M.1.2.2.2.1 - a0) (M.1.2.2.2.2 - b0) mc ms (F0 m pc ls st0) (rest.map (cv ad ov)) (QcM D cA ov B dir ad v M' as) (fun q => B ≤ q))
    (K : ∀ dir' ad' H' locs', Ext dir dir' ad ad' → Inv s nL D cA ov aR0 B nS xs a0 b0 dir' ad' M' H' locs' ls L (v.toList ++ rest) → W p l e R s m args below meth c H' locs' (M'.1.2.2.2.1 - a0) (M'.1.2.2.2.2 - b0) Q (F0 m (pc + 3) ls ((v.toList ++ rest).map (cv ad' ov)))) :
    W p l e R s m args below meth c H locs (M.1.2.2.2.1 - a0) (M.1.2.2.2.2 - b0) Q (F0 m pc ls st0) := by
  obtain ⟨hR, hRO, hS, hL, hvS, hvL, hro0, hac, has⟩ := I
  intro T hT X
  obtain ⟨vv, st₀, t, T', LL, h0, X', hLL, e1, e2, ⟨dir', ad', ho1, E, hvv, hR', hF⟩, st⟩ := hr T hT X
  have hvm : vv = v.map (cv ad' ov) := by
    have := ho1
    injection this
  subst hvm
  have hS' : va_S (fun q => B ≤ q) s.heap T'.heap (locs ++ LL) := by
    have f1 := hF.1
    have f2 := hF.2
    rw [h0] at f1 f2
    refine ⟨Nat.le_trans hS.1 (by rw [e1]; exact f1), fun q g1 g2 => ?_, fun q hq => ?_⟩
    · rw [e1, f2 q (Nat.lt_of_lt_of_le g1 hS.1) g2]
      exact hS.2.1 q g1 g2
    · rcases List.mem_append.mp hq with hq | hq
      · exact hS.2.2 q hq
      · exact hLL q hq
  have hst : (v.map (cv ad' ov)).toList ++ rest.map (cv ad ov) = (v.toList ++ rest).map (cv ad' ov) := by
    rw [List.map_append, cv_exts E hrest]
    cases v <;> rfl
  have kk := K dir' ad' T'.heap (locs ++ LL) E ⟨by rw [e1]; exact hR', hro, hS', hL.ext E hvL, fun x hx => by
      rcases List.mem_append.mp hx with hx | hx
      · cases v with
        | none => cases hx
        | some y =>
          have : x = y := by simpa using hx
          subst this
          exact hvv x rfl
      · exact (hrest x hx).ext E, fun i x hx => (hvL i x hx).ext E, fun c i g1 g2 => (E.2 c i g1 g2).trans (hro0 c i g1 g2), by omega, by omega⟩
  have c1 : M.1.2.2.2.1 - a0 + mc = M'.1.2.2.2.1 - a0 := by omega
  have c2 : M.1.2.2.2.2 - b0 + ms = M'.1.2.2.2.2 - b0 := by omega
  rw [c1, c2] at X'
  rw [← hst] at kk
  obtain ⟨t2, a1, b1⟩ := kk T' rfl X'
  exact ⟨t2, st t2 a1, b1⟩

set_option maxHeartbeats 1000000 in
theorem s_call {z : Nat} (A : KA R a0 b0 al M k out)
    (hcs : ∀ as kx ox, cs b as M kx = some ox → as.length = (npj b).1 ∧ ((npj b).2 = 1 → ∃ i As, as = aR (rtag b) i :: As) ∧ ∃ v M' d', kx v M' = some ox ∧ (al = false → M'.1 = M.1) ∧ d' + 1 ≤ R.frames ∧ 64 * (d' + 1) ≤ R.locals ∧ MetC l D cA ov aR0 B nS xs d' b as M v M') (C : Cx p s m args c cc nL own D cA ov aR0 B nS xs) (I : Inv s nL D cA ov aR0 B nS xs a0 b0 dir ad M H locs ls L S) (K : KK p l e R s m args below meth c Q nL D cA ov aR0 B nS xs a0 b0 dir ad al M k out)
    (hok : okF own nL cc pc (.invokevirtual z, len, (a, b, d), v, w, brs) = true) (h : astep al cs (.invokevirtual z, len, (a, b, d), v, w, brs) pc L S M k = some out) : W p l e R s m args below meth c H locs (M.1.2.2.2.1 - a0) (M.1.2.2.2.2 - b0) Q (F0 m pc ls (S.map (cv ad ov))) := by
  obtain ⟨hx, hb, hml, hown, hts, hSF, hB⟩ := C
  have hSF0 := hSF
  have I0 := I
  obtain ⟨hR, hRO, hS, hL, hvS, hvL, hro, hac, has⟩ := I
  obtain ⟨h1, h2, ⟨h3, h4, h5, h6⟩, h7, h8, h9, h10, h11, h12, h13, ho⟩ := hSF
  simp only [okF, nOK, okE, okD, Bool.and_eq_true, Bool.or_eq_true, decide_eq_true_eq, Nat.beq_eq, Bool.true_and] at hok
  obtain ⟨rfl, hok⟩ := hok
  have h : (bif Nat.ble a S.length && Nat.ble (S.drop a).length 4 then cs b (S.take a).reverse M (fun r m' => k (pc + 3) L (r.toList ++ S.drop a) m') else none) = some out := h
  cases hc : Nat.ble a S.length && Nat.ble (S.drop a).length 4 with
  | false => rw [hc] at h; exact ons h
  | true =>
  rw [hc] at h
  simp only [Bool.and_eq_true, Nat.ble_eq] at hc
  obtain ⟨hlen, hobj, v', M', d', hk, hst1, hfr, hlo, hMC⟩ := hcs _ _ _ h
  generalize has2 : (S.take a).reverse = as at hlen hobj hMC
  have hS0 : S = as.reverse ++ S.drop a := by rw [← has2, List.reverse_reverse, List.take_append_drop]
  generalize S.drop a = rest at hS0 hk hc
  have hvas : ∀ x ∈ as, vok dir x := fun x hx => hvS x (by rw [hS0]; exact List.mem_append_left _ (List.mem_reverse.mpr hx))
  have hvr : ∀ x ∈ rest, vok dir x := fun x hx => hvS x (by rw [hS0]; exact List.mem_append_right _ hx)
  obtain ⟨hro', hm1, hm2, hMC⟩ := hMC hRO
  have hM := hMC dir ad hro hvas
  have hAk := A _ _ _ _ hk ⟨hm1, hm2, hst1⟩
  have hcs1 := cat_sum (ad := ad) (ov := ov) ho rest
  have K' := fun dir' ad' H' locs' E I' => K _ _ _ _ hk ⟨hm1, hm2, hst1⟩ dir' ad' H' locs' ls E I'
  have hfit : M.1.2.2.2.1 - a0 + (M'.1.2.2.2.1 - M.1.2.2.2.1) ≤ R.cells ∧ M.1.2.2.2.2 - b0 + (M'.1.2.2.2.2 - M.1.2.2.2.2) ≤ R.slots := by omega
  have hPU : ∀ U : State, U.heap = H → s.WarmedH U.vm → PcM D cA ov aR0 B nS xs dir ad as M (as.map (cv ad ov)).toArray U := fun U hU hW => ⟨rfl, hSF0.go hW (fun q g1 g2 => by rw [hU]; exact hS.2.1 q g1 g2), by rw [hU]; exact Nat.le_trans hB hS.1, by rw [hU]; exact hR⟩
  have hst : S.map (cv ad ov) = (as.map (cv ad ov)).reverse ++ rest.map (cv ad ov) := by rw [hS0, List.map_append, List.map_reverse]
  rw [hst]
  have hcl : c.maxLocals = nL := hml
  have static : ∀ {n : Nat}, (∀ sig, parseMethodDescriptor (yM b).desc = some sig → n = sig.parameters.length) → as.length = n → (va_CN R s args (cn own) d (yM b) RX6 (cM b) (mlM b) (rtM b) (wM b) (rmM d' M M') (M'.1.2.2.2.1 - M.1.2.2.2.1) (M'.1.2.2.2.2 - M.1.2.2.2.2) n ∨ CallB R s args (cn own) d (yM b) (cM b) (mlM b) (rtM b) (wM b) (rmM d' M M') (M'.1.2.2.2.1 - M.1.2.2.2.1) (M'.1.2.2.2.2 - M.1.2.2.2.2) n) → (Cond.static (yM b)).before args s = true → decode cc pc = .ok (.invokestatic d, 3) → W p l e R s m args below meth c H locs (M.1.2.2.2.1 - a0) (M.1.2.2.2.2 - b0) Q (F0 m pc ls ((as.map (cv ad ov)).reverse ++ rest.map (cv ad ov))) := by
    intro n _ hn hcb hstt hd
    rcases hcb with hcb | hcb
    · exact c_back rfl rfl I0 hvr hro' hm1 hm2 (va_runSN (As := as.map (cv ad ov)) ⟨hx, hb, hcl, hown, hts⟩ hM ⟨hcb, hstt, trivial⟩ ⟨PcM.blind, hPU⟩ rfl (by rw [List.length_map]; exact hn) hL.1 rfl (lv_room (by omega)) hd hfit) K'
    · exact c_back rfl rfl I0 hvr hro' hm1 hm2 (va_runS (As := as.map (cv ad ov)) ⟨hx, hb, hcl, hown, hts⟩ hM ⟨hcb, hstt⟩ ⟨PcM.blind, hPU⟩ rfl (by rw [List.length_map]; exact hn) hL.1 rfl (lv_room (by omega)) hd hfit) K'
  have room : rmM d' M M' = rmM d' M M' ∧ (rmM d' M M').frames + 1 ≤ R.frames ∧ ∀ {x : Nat}, x ≤ 40 → 8 + (x + 11) + (rmM d' M M').locals ≤ R.locals := ⟨rfl, hfr, fun hx => by show 8 + (_ + 11) + 64 * d' ≤ _; omega⟩
  rcases hok with (⟨hd, hml0⟩ | ⟨hd, hml0 | hml0⟩) | ⟨hd, hml0 | hml0⟩
  · -- a virtual call
    obtain ⟨pl, p2, ps, pi, hmo, hnp, hob, -⟩ := mlE_of hml0
    have hob1 : (npj b).2 = 1 := by simpa using hob
    obtain ⟨i, As, rfl⟩ := hobj hob1
    simp only [mlOK, Bool.and_eq_true, Bool.or_eq_true, decide_eq_true_eq] at hmo
    obtain ⟨⟨hj, hpi⟩, ⟨⟨⟨how, hpl⟩, hp2⟩, hps⟩, hpd⟩ := hmo
    obtain ⟨mcls, mml, mpn, mh1, mh2⟩ := miD_of hj
    have hpar : (parseMethodDescriptor (yM b).desc).map (fun d => d.parameters.length) = some As.length := by
      rw [List.length_cons, hnp] at hlen
      cases hq : parseMethodDescriptor (yM b).desc with
      | none => rw [hq] at hpd; cases hpd
      | some sig =>
        rw [hq] at hpd
        have : sig.parameters.length + 1 = a := Option.some.inj hpd
        show some sig.parameters.length = _
        congr 1
        omega
    have hcw : CallW R s args (cn own) (yM b).cls d (yM b) (cM b) (mlM b) (rtM b) (wM b) (rmM d' M M') (M'.1.2.2.2.1 - M.1.2.2.2.1) (M'.1.2.2.2.2 - M.1.2.2.2.2) As.length :=
      ⟨callB_of As.length hts (wM_in hj) rfl rfl rfl (hts _ (posOK_mem hpi)) (hts _ (posOK_mem hpl)) ⟨mh1, mh2, hpar⟩ ⟨room.2.1, room.2.2 mml⟩, hts _ (posOK_mem hp2), hts _ (posOK_mem hps)⟩
    have hcell : ∃ cellB : Cell, H[ad (rtag b) i]? = some cellB ∧ cellB.vm.isStatics = false ∧ s.vm.findClass (yM b).cls = some cellB.cls := by
      have hv := hvas _ List.mem_cons_self
      rw [mcls]
      unfold rtag at hv ⊢
      rcases how with how | how
      · have hn9 : ¬ owM b = 9 := by omega
        rw [if_neg hn9] at hv ⊢
        have hm : (owM b, i) ∈ dir := hR.ro hv (by simp [isW, how])
        obtain ⟨q0, hq0, he⟩ := wl_at (cA := cA) (ad := ad) (m := M) hm
        rw [ent_obj how] at he
        exact va_recv h1 hR.1 (vw_at how) he
      · rw [if_pos how] at hv ⊢
        have hr := hR.nro hv (by omega)
        have hi : i < 12 := by rcases hr with hr | hr <;> (dsimp only at hr; omega)
        rw [hro 31 i (by omega) (by omega), how]
        obtain ⟨cell, q1, q2, q3, -⟩ := (h12 i hi).1.kept hS.2.1
        exact ⟨cell, q1, q2, q3⟩
    have hcv : cv ad ov (aR (rtag b) i) = .ref (ad (rtag b) i) := cv_ne (by unfold rtag; split <;> omega)
    have e1 : ((aR (rtag b) i :: As).map (cv ad ov)).reverse ++ rest.map (cv ad ov) = (As.map (cv ad ov)).reverse ++ .ref (ad (rtag b) i) :: rest.map (cv ad ov) := by
      rw [List.map_cons, List.reverse_cons, hcv, List.append_assoc]
      rfl
    have e2 : ((aR (rtag b) i :: As).map (cv ad ov)).toArray = (Value.ref (ad (rtag b) i) :: As.map (cv ad ov)).toArray := by rw [List.map_cons, hcv]
    rw [e1]
    rw [e2] at hPU
    exact c_back rfl rfl I0 hvr hro' hm1 hm2 (va_runV (As := As.map (cv ad ov)) ⟨hx, hb, hcl, hown, hts⟩ hM hcw ⟨PcM.blind, hcell, hPU⟩ rfl (by rw [List.length_map]) hL.1 rfl (lv_room (by omega)) hd hfit) K'
  · -- a static call
    obtain ⟨pl, p2, ps, pi, hmo, hnp, hob, -⟩ := mlE_of hml0
    simp only [mlOK, Bool.and_eq_true, decide_eq_true_eq] at hmo
    obtain ⟨⟨hj, hpi⟩, ⟨hpl, hp2⟩, hpd⟩ := hmo
    obtain ⟨mcls, mml, mpn, mh1, mh2⟩ := miD_of hj
    have hpd2 : (parseMethodDescriptor (yM b).desc).map (fun d => d.parameters.length) = some as.length := by rw [hpd, hlen, hnp]
    have hcb := callB_of as.length hts (wM_in hj) (own := cn own) (index := d) (R := R) (mc := M'.1.2.2.2.1 - M.1.2.2.2.1) (ms := M'.1.2.2.2.2 - M.1.2.2.2.2) (rm := rmM d' M M') rfl rfl rfl (hts _ (posOK_mem hpi)) (hts _ (posOK_mem hpl)) ⟨mh1, mh2, hpd2⟩ ⟨room.2.1, room.2.2 mml⟩
    exact static (n := as.length) (fun sig hq => by rw [hq] at hpd2; exact (Option.some.inj hpd2).symm) rfl (Or.inr hcb) (hts _ (posOK_mem hp2)) hd
  · -- a nest mate's static
    obtain ⟨pl, p2, ps, pi, hmo, hnp, hob, hnn⟩ := mlE_of hml0
    simp only [mlOK, Bool.and_eq_true, decide_eq_true_eq] at hmo
    obtain ⟨⟨hj, hpi⟩, ⟨hpl, hp2⟩, hpd⟩ := hmo
    obtain ⟨mcls, mml, mpn, mh1, mh2⟩ := miD_of hj
    obtain ⟨e0, he0, heq⟩ := hnn (by omega)
    obtain ⟨q1, q2, q3, q4⟩ := e0
    simp only [Prod.mk.injEq] at heq
    obtain ⟨rfl, rfl, rfl⟩ := heq
    have hpd2 : (parseMethodDescriptor (yM q3).desc).map (fun d => d.parameters.length) = some as.length := by rw [hpd, hlen, hnp]
    have hcb := va_cnB as.length hts (wM_in hj) (R := R) (mc := M'.1.2.2.2.1 - M.1.2.2.2.1) (ms := M'.1.2.2.2.2 - M.1.2.2.2.2) (rm := rmM d' M M') rfl rfl rfl (h2 _ he0) (hts _ (posOK_mem hpi)) ⟨mh1, mh2, hpd2⟩ ⟨room.2.1, room.2.2 mml⟩
    exact static (n := as.length) (fun sig hq => by rw [hq] at hpd2; exact (Option.some.inj hpd2).symm) rfl (Or.inl hcb) (hts _ (posOK_mem hp2)) hd
  · -- a constructor
    obtain ⟨pl, p2, ps, pi, hmo, hnp, hob, -⟩ := mlE_of hml0
    have hob1 : (npj b).2 = 1 := by simpa using hob
    obtain ⟨i, As, rfl⟩ := hobj hob1
    simp only [mlOK, Bool.and_eq_true, decide_eq_true_eq] at hmo
    obtain ⟨⟨hj, hpi⟩, ⟨⟨⟨⟨how, hrt⟩, hnm⟩, hpl⟩, hp2⟩, hpd⟩ := hmo
    obtain ⟨mcls, mml, mpn, mh1, mh2⟩ := miD_of hj
    have hpar : (parseMethodDescriptor (yM b).desc).map (fun d => d.parameters.length) = some As.length := by
      rw [List.length_cons, hnp] at hlen
      cases hq : parseMethodDescriptor (yM b).desc with
      | none => rw [hq] at hpd; cases hpd
      | some sig =>
        rw [hq] at hpd
        have : sig.parameters.length + 1 = a := Option.some.inj hpd
        show some sig.parameters.length = _
        congr 1
        omega
    have hww : wM b = Cond.code (yM b) (cM b) (mlM b) none :: WSg := by unfold wM; rw [hrt]
    have hcb := callB_of As.length hts (wM_in hj) (own := cn own) (index := d) (R := R) (mc := M'.1.2.2.2.1 - M.1.2.2.2.1) (ms := M'.1.2.2.2.2 - M.1.2.2.2.2) (rm := rmM d' M M') hww rfl rfl (hts _ (posOK_mem hpi)) (hts _ (posOK_mem hpl)) ⟨mh1, mh2, hpar⟩ ⟨room.2.1, room.2.2 mml⟩
    have hcv : cv ad ov (aR (rtag b) i) = .ref (ad (rtag b) i) := cv_ne (by unfold rtag; split <;> omega)
    have e1 : ((aR (rtag b) i :: As).map (cv ad ov)).reverse ++ rest.map (cv ad ov) = (As.map (cv ad ov)).reverse ++ .ref (ad (rtag b) i) :: rest.map (cv ad ov) := by
      rw [List.map_cons, List.reverse_cons, hcv, List.append_assoc]
      rfl
    have e2 : ((aR (rtag b) i :: As).map (cv ad ov)).toArray = (Value.ref (ad (rtag b) i) :: As.map (cv ad ov)).toArray := by rw [List.map_cons, hcv]
    rw [e1]
    rw [e2] at hPU
    exact c_back rfl rfl I0 hvr hro' hm1 hm2 (va_runI (As := As.map (cv ad ov)) ⟨hx, hb, hcl, hown, hts⟩ hM ⟨hcb, hnm, hts _ (posOK_mem hp2)⟩ ⟨PcM.blind, hPU⟩ rfl (by rw [List.length_map]) hL.1 rfl (lv_room (by omega)) hd hfit) K'
  · -- a nest mate's constructor
    obtain ⟨pl, p2, ps, pi, hmo, hnp, hob, hnn⟩ := mlE_of hml0
    have hob1 : (npj b).2 = 1 := by simpa using hob
    obtain ⟨i, As, rfl⟩ := hobj hob1
    simp only [mlOK, Bool.and_eq_true, decide_eq_true_eq] at hmo
    obtain ⟨⟨hj, hpi⟩, ⟨⟨⟨⟨how, hrt⟩, hnm⟩, hpl⟩, hp2⟩, hpd⟩ := hmo
    obtain ⟨mcls, mml, mpn, mh1, mh2⟩ := miD_of hj
    obtain ⟨e0, he0, heq⟩ := hnn (by omega)
    obtain ⟨q1, q2, q3, q4⟩ := e0
    simp only [Prod.mk.injEq] at heq
    obtain ⟨rfl, rfl, rfl⟩ := heq
    have hpar : (parseMethodDescriptor (yM q3).desc).map (fun d => d.parameters.length) = some As.length := by
      rw [List.length_cons, hnp] at hlen
      cases hq : parseMethodDescriptor (yM q3).desc with
      | none => rw [hq] at hpd; cases hpd
      | some sig =>
        rw [hq] at hpd
        have : sig.parameters.length + 1 = a := Option.some.inj hpd
        show some sig.parameters.length = _
        congr 1
        omega
    have hww : wM q3 = Cond.code (yM q3) (cM q3) (mlM q3) none :: WSg := by unfold wM; rw [hrt]
    have hcb := va_cnB As.length hts (wM_in hj) (R := R) (mc := M'.1.2.2.2.1 - M.1.2.2.2.1) (ms := M'.1.2.2.2.2 - M.1.2.2.2.2) (rm := rmM d' M M') hww rfl rfl (h2 _ he0) (hts _ (posOK_mem hpi)) ⟨mh1, mh2, hpar⟩ ⟨room.2.1, room.2.2 mml⟩
    have hcv : cv ad ov (aR (rtag q3) i) = .ref (ad (rtag q3) i) := cv_ne (by unfold rtag; split <;> omega)
    have e1 : ((aR (rtag q3) i :: As).map (cv ad ov)).reverse ++ rest.map (cv ad ov) = (As.map (cv ad ov)).reverse ++ .ref (ad (rtag q3) i) :: rest.map (cv ad ov) := by
      rw [List.map_cons, List.reverse_cons, hcv, List.append_assoc]
      rfl
    have e2 : ((aR (rtag q3) i :: As).map (cv ad ov)).toArray = (Value.ref (ad (rtag q3) i) :: As.map (cv ad ov)).toArray := by rw [List.map_cons, hcv]
    rw [e1]
    rw [e2] at hPU
    exact c_back rfl rfl I0 hvr hro' hm1 hm2 (va_runIN (As := As.map (cv ad ov)) ⟨hx, hb, hcl, hown, hts⟩ hM ⟨hcb, hnm, hts _ (posOK_mem hp2)⟩ ⟨PcM.blind, hPU⟩ rfl (by rw [List.length_map]) hL.1 rfl (lv_room (by omega)) hd hfit) K'

end CST
end
section
/-! RUNS: a run of the abstract machine is a run of the machine; a method's contract out of a run of its code -/
/-- what a returning instruction gives -/
def retv (i : Instr) (S : List AV) (M : Mem) : Option (Option Out) := match i with
  | .return_ => some (match S with
    | [] => some (none, M)
    | _ => none)
  | .ireturn => some (match S with
    | [.inl (.inl x)] => some (some (aI x), M)
    | _ => none)
  | .lreturn => some (match S with
    | [.inl (.inr x)] => some (some (aL x), M)
    | _ => none)
  | .areturn => some (match S with
    | [.inr x] => some (some (.inr x), M)
    | _ => none)
  | _ => none
/-- a run from an instruction to the method's end; al: may it make; bnd: how much it may have made in the end -/
def brun (al : Bool) (bnd : Nat × Nat) (cs : CS) (T : Nat → Option XE) : Nat → Nat → LV → List AV → Mem → Option Out
  | 0, _, _, _, _ => none
  | n + 1, pc, L, S, M => bif al && !(Nat.ble M.1.2.2.2.1 bnd.1 && Nat.ble M.1.2.2.2.2 bnd.2) then none else match T pc with
    | none => none
    | some xe => match retv xe.1 S M with
      | some r => r
      | none => astep al cs xe pc L S M (brun al bnd cs T n)

section RUN
variable {p : Program} {l : Launch} {e : Env} {R : Room} {s : State} {m : MethodId} {args : Array Value} {below : List Frame} {meth : Method} {c : Code} {Q : State → Prop}
variable {D : va_G} {cA : Nat → ClassId} {ov : Value} {aR0 : Nat → Nat → Nat} {B nS : Nat} {xs : Nat → Int32} {cc : ByteArray} {nL own a0 b0 : Nat}
variable {al : Bool} {cs : CS} {pc : Nat} {L : LV} {S : List AV} {M : Mem} {k : Nat → LV → List AV → Mem → Option Out} {out : Out}
variable {dir : List (Nat × Nat)} {ad : Nat → Nat → Nat} {H : Heap} {locs : List Loc} {ls : Array Slot} {len a b d : Nat} {v : Int32} {w : Int64} {brs : List (Int32 × Nat)}

/-- what a call needs -/
def CallOK (l : Launch) (D : va_G) (cA : Nat → ClassId) (ov : Value) (aR0 : Nat → Nat → Nat) (B nS : Nat) (xs : Nat → Int32) (R : Room) (al : Bool) (cs : CS) (b : Nat) (M : Mem) : Prop :=
  ∀ as kx ox, cs b as M kx = some ox → as.length = (npj b).1 ∧ ((npj b).2 = 1 → ∃ i As, as = aR (rtag b) i :: As) ∧ ∃ v M' d', kx v M' = some ox ∧ (al = false → M'.1 = M.1) ∧ d' + 1 ≤ R.frames ∧ 64 * (d' + 1) ≤ R.locals ∧ MetC l D cA ov aR0 B nS xs d' b as M v M'
set_option maxHeartbeats 4000000 in
theorem astep_ok {xe : XE} (C : Cx p s m args c cc nL own D cA ov aR0 B nS xs) (I : Inv s nL D cA ov aR0 B nS xs a0 b0 dir ad M H locs ls L S) (K : KK p l e R s m args below meth c Q nL D cA ov aR0 B nS xs a0 b0 dir ad al M k out)
    (hok : okF own nL cc pc xe = true) (A : KA R a0 b0 al M k out) (hfr : 1 ≤ R.frames) (hlo : 64 ≤ R.locals) (hinit : al = true → own < 8 → meth.name = "<init>") (hcs : (∃ z, xe.1 = .invokevirtual z) → CallOK l D cA ov aR0 B nS xs R al cs xe.2.2.1.2.1 M)
    (h : astep al cs xe pc L S M k = some out) : W p l e R s m args below meth c H locs (M.1.2.2.2.1 - a0) (M.1.2.2.2.2 - b0) Q (F0 m pc ls (S.map (cv ad ov))) := by
  obtain ⟨i, len, ⟨a, b, d⟩, v, w, brs⟩ := xe
  cases i with
  | iadd => exact s_iadd C I K hok h
  | isub => exact s_isub C I K hok h
  | imul => exact s_imul C I K hok h
  | idiv => exact s_idiv C I K hok h
  | irem => exact s_irem C I K hok h
  | ineg => exact s_ineg C I K hok h
  | iand => exact s_iand C I K hok h
  | ior => exact s_ior C I K hok h
  | ishl => exact s_ishl C I K hok h
  | ishr => exact s_ishr C I K hok h
  | iushr => exact s_iushr C I K hok h
  | ladd => exact s_ladd C I K hok h
  | land => exact s_land C I K hok h
  | lor => exact s_lor C I K hok h
  | lshl => exact s_lshl C I K hok h
  | lcmp => exact s_lcmp C I K hok h
  | i2l => exact s_i2l C I K hok h
  | l2i => exact s_l2i C I K hok h
  | i2b => exact s_i2b C I K hok h
  | i2s => exact s_i2s C I K hok h
  | i2c => exact s_i2c C I K hok h
  | dup => exact s_dup C I K hok h
  | pop => exact s_pop C I K hok h
  | dup_x1 => exact s_dup_x1 C I K hok h
  | dup2 => exact s_dup2 C I K hok h
  | iaload => exact s_iaload C I K hok h
  | baload => exact s_baload C I K hok h
  | laload => exact s_laload C I K hok h
  | aaload => exact s_aaload C I K hok h
  | iastore => exact s_iastore C I K hok h
  | lastore => exact s_lastore C I K hok h
  | arraylength => exact s_arraylength C I K hok h
  | aconst_null => exact s_aconst_null C I K hok h
  | iload z => exact s_iload C I K hok h
  | lload z => exact s_lload C I K hok h
  | aload z => exact s_aload C I K hok h
  | istore z => exact s_istore C I K hok h
  | lstore z => exact s_lstore C I K hok h
  | astore z => exact s_astore C I K hok h
  | ifnull z => exact s_ifnull C I K hok h
  | ifnonnull z => exact s_ifnonnull C I K hok h
  | goto z => exact s_goto C I K hok h
  | iconst z => exact s_iconst C I K hok h
  | lconst z => exact s_lconst C I K hok h
  | getfield z => exact s_getfield C I K hok h
  | getstatic z => exact s_getstatic C I K hok h
  | ldc z => exact s_ldc C I K hok h
  | iinc z y => exact s_iinc C I K hok h
  | ifCond f z => exact s_ifCond C I K hok h
  | if_icmp f z => exact s_if_icmp C I K hok h
  | tableswitch z1 z2 z3 z4 => exact s_tableswitch C I K hok h
  | putfield z => exact s_putfield hinit C I K hok h
  | dneg => exact s_dneg A hfr hlo C I K hok h
  | dadd => exact s_dadd A hfr hlo C I K hok h
  | dsub => exact s_dsub A hfr hlo C I K hok h
  | dmul => exact s_dmul hfr hlo C I K hok h
  | nop => exact s_nop hfr hlo C I K hok h
  | new z => exact s_new A C I K hok h
  | anewarray z => exact s_anewarray A C I K hok h
  | multianewarray z y => exact s_multianewarray A C I K hok h
  | aastore => exact s_aastore C I K hok h
  | newarray ty =>
    have hty : (ty = .int ∧ isIA a = true) ∨ (ty = .long ∧ isLA a = true) := by
      simp only [okF, nOK, okE, Bool.and_eq_true, Bool.or_eq_true, decide_eq_true_eq, Bool.true_and] at hok
      exact hok.2
    rcases hty with ⟨rfl, hna⟩ | ⟨rfl, hna⟩
    · exact s_newarray0 A hna C I K hok h
    · exact s_newarray1 A hna C I K hok h
  | invokevirtual z => exact s_call A (hcs ⟨z, rfl⟩) C I K hok h
  | _ => exact ons h

/-- a run: at its end 'hret' takes over -/
theorem brun_ok {T : Nat → Option XE} {bnd : Nat × Nat} {dir0 : List (Nat × Nat)} {ad0 : Nat → Nat → Nat} {PM : Mem → Prop} (C : Cx p s m args c cc nL own D cA ov aR0 B nS xs) (hok : ∀ pc xe, T pc = some xe → okF own nL cc pc xe = true)
    (hbnd : bnd.1 - a0 ≤ R.cells ∧ bnd.2 - b0 ≤ R.slots) (hbal : al = false → ∀ M, PM M → M.1.2.2.2.1 ≤ bnd.1 ∧ M.1.2.2.2.2 ≤ bnd.2) (hPM : ∀ M M', PM M → Rel al M M' → PM M') (hfr : 1 ≤ R.frames) (hlo : 64 ≤ R.locals) (hinit : al = true → own < 8 → meth.name = "<init>")
    (hcs : ∀ pc xe M, T pc = some xe → (∃ z, xe.1 = .invokevirtual z) → PM M → CallOK l D cA ov aR0 B nS xs R al cs xe.2.2.1.2.1 M)
    (hret : ∀ pc xe L S M dir ad H locs ls, T pc = some xe → okE own cc pc xe = true → Ext dir0 dir ad0 ad → Inv s nL D cA ov aR0 B nS xs a0 b0 dir ad M H locs ls L S → PM M → retv xe.1 S M = some (some out) → W p l e R s m args below meth c H locs (M.1.2.2.2.1 - a0) (M.1.2.2.2.2 - b0) Q (F0 m pc ls (S.map (cv ad ov)))) :
    ∀ (n pc : Nat) (L : LV) (S : List AV) (M : Mem) (dir : List (Nat × Nat)) (ad : Nat → Nat → Nat) (H : Heap) (locs : List Loc) (ls : Array Slot), PM M → Ext dir0 dir ad0 ad → Inv s nL D cA ov aR0 B nS xs a0 b0 dir ad M H locs ls L S → brun al bnd cs T n pc L S M = some out → W p l e R s m args below meth c H locs (M.1.2.2.2.1 - a0) (M.1.2.2.2.2 - b0) Q (F0 m pc ls (S.map (cv ad ov))) := by
  have hA0 : ∀ n pc L S M, PM M → brun al bnd cs T n pc L S M = some out → M.1.2.2.2.1 ≤ bnd.1 ∧ M.1.2.2.2.2 ≤ bnd.2 := by
    intro n pc L S M hP h
    cases hal : al with
    | false => exact hbal hal M hP
    | true =>
      cases n with
      | zero => cases h
      | succ n =>
        have h : (bif al && !(Nat.ble M.1.2.2.2.1 bnd.1 && Nat.ble M.1.2.2.2.2 bnd.2) then none else match T pc with
          | none => none
          | some xe => match retv xe.1 S M with
            | some r => r
            | none => astep al cs xe pc L S M (brun al bnd cs T n)) = some out := h
        cases hc : al && !(Nat.ble M.1.2.2.2.1 bnd.1 && Nat.ble M.1.2.2.2.2 bnd.2) with
        | true => rw [hc] at h; cases h
        | false =>
          rw [hal] at hc
          simp only [Bool.true_and, Bool.not_eq_false', Bool.and_eq_true, Nat.ble_eq] at hc
          exact hc
  intro n
  induction n with
  | zero => intro pc L S M dir ad H locs ls _ _ _ h; cases h
  | succ n ih =>
    intro pc L S M dir ad H locs ls hP E I h
    have h : (bif al && !(Nat.ble M.1.2.2.2.1 bnd.1 && Nat.ble M.1.2.2.2.2 bnd.2) then none else match T pc with
      | none => none
      | some xe => match retv xe.1 S M with
        | some r => r
        | none => astep al cs xe pc L S M (brun al bnd cs T n)) = some out := h
    cases hc : al && !(Nat.ble M.1.2.2.2.1 bnd.1 && Nat.ble M.1.2.2.2.2 bnd.2) with
    | true => rw [hc] at h; cases h
    | false =>
    rw [hc] at h
    cases hT : T pc with
    | none => rw [hT] at h; cases h
    | some xe =>
      rw [hT] at h
      cases hr : retv xe.1 S M with
      | some r =>
        have h : (match retv xe.1 S M with
          | some r => r
          | none => astep al cs xe pc L S M (brun al bnd cs T n)) = some out := h
        rw [hr] at h
        have h : r = some out := h
        have hokE := hok pc xe hT
        unfold okF at hokE
        rw [Bool.and_eq_true] at hokE
        exact hret pc xe L S M dir ad H locs ls hT hokE.2 E I hP (by rw [hr, h])
      | none =>
        have h : (match retv xe.1 S M with
          | some r => r
          | none => astep al cs xe pc L S M (brun al bnd cs T n)) = some out := h
        rw [hr] at h
        have h : astep al cs xe pc L S M (brun al bnd cs T n) = some out := h
        -- the run behind is cut to what keeps the memory's property
        refine astep_ok (k := brun al bnd cs T n) (out := out) C I (fun pc' L' S' M' h' hrel dir' ad' H' locs' ls' E' I' => ih pc' L' S' M' dir' ad' H' locs' ls' (hPM M M' hP hrel) (E.trans E') I' h') (hok pc xe hT) (fun pc' L' S' M' h' hrel => ?_) hfr hlo hinit (fun hz => hcs pc xe M hT hz hP) h
        have := hA0 n pc' L' S' M' (hPM M M' hP hrel) h'
        omega
/-- what an answer must be, by the method's type -/
def rtOK (rt : Option FieldType) (v : Option AV) : Prop := match rt, v with
  | none, none => True
  | some ty, some (.inl (.inl x)) => narrow ty (.int x) = .int x
  | some .long, some (.inl (.inr _)) => True
  | some (.object _), some (.inr _) => True
  | some (.array _), some (.inr _) => True
  | _, _ => False
def entA : List AV → LV
  | [] => []
  | v :: vs => match v with
    | .inl (.inr x) => some (aL x) :: none :: entA vs
    | .inl (.inl x) => some (aI x) :: entA vs
    | .inr x => some (.inr x) :: entA vs
def repN : Nat → LV
  | 0 => []
  | n + 1 => none :: repN n
/-- the locals at a method's entry -/
def entL (n : Nat) (as : List AV) : LV := entA as ++ repN (n - (entA as).length)
theorem repN_len (n : Nat) : (repN n).length = n := by
  induction n with
  | zero => rfl
  | succ n ih => simp [repN, ih]
theorem gL_repN (n i : Nat) : gL (repN n) i = none := by
  induction n generalizing i with
  | zero => cases i <;> rfl
  | succ n ih => cases i with
    | zero => rfl
    | succ i => exact ih i
theorem gL_app (A B : LV) (i : Nat) : gL (A ++ B) i = if i < A.length then gL A i else gL B (i - A.length) := by
  induction A generalizing i with
  | nil => simp
  | cons x A ih =>
    cases i with
    | zero => simp [gL]
    | succ i =>
      simp only [List.cons_append, gL, List.length_cons, Nat.add_lt_add_iff_right, Nat.add_sub_add_right]
      exact ih i
theorem entA_get {ad : Nat → Nat → Nat} {ov : Value} (ho : ov = .null ∨ ∃ a, ov = .ref a) : ∀ (as : List AV) (k i : Nat) (v : AV), gL (entA as) i = some v → (k + i, cv ad ov v) ∈ lv_args k (as.map (cv ad ov)) ∧ v ∈ as := by
  intro as
  induction as with
  | nil => intro k i v h; cases i <;> cases h
  | cons x as ih =>
    intro k i v h
    rcases x with (x | x) | x
    · cases i with
      | zero =>
        have : v = .inl (.inl x) := (Option.some.inj h).symm
        subst this
        exact ⟨List.mem_cons_self, List.mem_cons_self⟩
      | succ i =>
        have := ih (k + 1) i v h
        refine ⟨List.mem_cons_of_mem _ ?_, List.mem_cons_of_mem _ this.2⟩
        show (k + (i + 1), _) ∈ lv_args (if (Value.int x).category = 2 then k + 2 else k + 1) _
        rw [if_neg (show ¬ (Value.int x).category = 2 from (show ¬ (1 : Nat) = 2 by decide)), show k + (i + 1) = k + 1 + i by omega]
        exact this.1
    · cases i with
      | zero =>
        have : v = .inl (.inr x) := (Option.some.inj h).symm
        subst this
        exact ⟨List.mem_cons_self, List.mem_cons_self⟩
      | succ i =>
        cases i with
        | zero => cases h
        | succ i =>
          have := ih (k + 2) i v h
          refine ⟨List.mem_cons_of_mem _ ?_, List.mem_cons_of_mem _ this.2⟩
          show (k + (i + 1 + 1), _) ∈ lv_args (if (Value.long x).category = 2 then k + 2 else k + 1) _
          rw [if_pos (show (Value.long x).category = 2 from rfl), show k + (i + 1 + 1) = k + 2 + i by omega]
          exact this.1
    · cases i with
      | zero =>
        have : v = .inr x := (Option.some.inj h).symm
        subst this
        exact ⟨List.mem_cons_self, List.mem_cons_self⟩
      | succ i =>
        have := ih (k + 1) i v h
        refine ⟨List.mem_cons_of_mem _ ?_, List.mem_cons_of_mem _ this.2⟩
        show (k + (i + 1), _) ∈ lv_args (if (cv ad ov (.inr x)).category = 2 then k + 2 else k + 1) _
        rw [if_neg (by rw [cv_cat ho]; exact (show ¬ (1 : Nat) = 2 by decide)), show k + (i + 1) = k + 1 + i by omega]
        exact this.1
theorem entA_len {ad : Nat → Nat → Nat} {ov : Value} (ho : ov = .null ∨ ∃ a, ov = .ref a) : ∀ as : List AV, (lg_sl (as.map (cv ad ov))).length = (entA as).length := by
  intro as
  induction as with
  | nil => rfl
  | cons x as ih =>
    have e : lg_sl ((x :: as).map (cv ad ov)) = (if (cv ad ov x).category = 2 then [Slot.val (cv ad ov x), .second] else [.val (cv ad ov x)]) ++ lg_sl (as.map (cv ad ov)) := rfl
    rw [e, List.length_append, ih, cv_cat ho]
    rcases x with (x | x) | x
    · show 1 + _ = (entA as).length + 1
      omega
    · show 2 + _ = (entA as).length + 1 + 1
      omega
    · show 1 + _ = (entA as).length + 1
      omega
theorem entL_LR {ad : Nat → Nat → Nat} {ov : Value} (ho : ov = .null ∨ ∃ a, ov = .ref a) {n : Nat} {as : List AV} (h : (entA as).length ≤ n) : LR ad ov ((lg_sl (as.map (cv ad ov)) ++ List.replicate (n - (lg_sl (as.map (cv ad ov))).length) Slot.unset).toArray) n (entL n as) ∧ ∀ i v, gL (entL n as) i = some v → v ∈ as := by
  have hl := lv_entry (as.map (cv ad ov)) (n := n) (by rw [entA_len ho]; exact h)
  have key : ∀ i v, gL (entL n as) i = some v → gL (entA as) i = some v := fun i v hg => by
    unfold entL at hg
    rw [gL_app] at hg
    split at hg
    · exact hg
    · rw [gL_repN] at hg; cases hg
  refine ⟨⟨hl.1, hl.2.1, ?_, fun i v hg => ?_⟩, fun i v hg => (entA_get (ad := fun _ _ => 0) ho as 0 i v (key i v hg)).2⟩
  · unfold entL
    rw [List.length_append, repN_len]
    omega
  · have := (entA_get (ad := ad) ho as 0 i v (key i v hg)).1
    rw [Nat.zero_add] at this
    exact hl.2.2 _ this
/-- what the code's table must be -/
def tabOK (own nL : Nat) (cc : ByteArray) (t : List (List (Nat × XE))) : Bool := okT own cc t && t.all (fun l => l.all (fun q => nOK own nL q.2))
theorem lk_mem : ∀ (l : List (Nat × XE)) (pc : Nat) (x : XE), lk l pc = some x → (pc, x) ∈ l := by
  intro l
  induction l with
  | nil => intro pc x h; cases h
  | cons y l ih =>
    intro pc x h
    obtain ⟨q, z⟩ := y
    have h : (bif Nat.beq q pc then some z else lk l pc) = some x := h
    cases hc : Nat.beq q pc with
    | true =>
      rw [hc] at h
      have e := Nat.eq_of_beq_eq_true hc
      rw [e, Option.some.inj h]
      exact List.mem_cons_self
    | false => rw [hc] at h; exact List.mem_cons_of_mem _ (ih pc x h)
theorem gB_mem : ∀ (t : List (List (Nat × XE))) (i : Nat), gB t i = [] ∨ gB t i ∈ t := by
  intro t
  induction t with
  | nil => intro i; exact Or.inl (by cases i <;> rfl)
  | cons y t ih =>
    intro i
    cases i with
    | zero => exact Or.inr List.mem_cons_self
    | succ i => exact (ih i).imp id (List.mem_cons_of_mem _)
theorem tabOK_at {own nL : Nat} {cc : ByteArray} {t : List (List (Nat × XE))} (h : tabOK own nL cc t = true) {pc : Nat} {x : XE} (hx : lkb t pc = some x) : okF own nL cc pc x = true := by
  unfold tabOK okT at h
  rw [Bool.and_eq_true] at h
  have hm := lk_mem _ _ _ hx
  rcases gB_mem t (pc / 32) with e | e
  · rw [e] at hm; cases hm
  · have h1 := List.all_eq_true.mp (List.all_eq_true.mp h.1 _ e) _ hm
    have h2 := List.all_eq_true.mp (List.all_eq_true.mp h.2 _ e) _ hm
    unfold okF
    rw [h1, h2]
    rfl
/-- A METHOD'S CONTRACT, out of a run of its code -/
theorem met_of_run {l : Launch} {D : va_G} {cA : Nat → ClassId} {ov : Value} {aR0 : Nat → Nat → Nat} {B nS : Nat} {xs : Nat → Int32} {al : Bool} {cs : CS} {t : List (List (Nat × XE))} {d j n : Nat} {as : List AV} {M M' : Mem} {v : Option AV} {PM : Mem → Prop} (hj : j < 245) (hT : tabOK (owM j) (mlM j) (cM j) t = true) (hd : 1 ≤ d)
    (hini : al = true → (yM j).name = "<init>") (hent : (entA as).length ≤ mlM j) (hrt : rtOK (rtM j) v) (hROM : ROm nS xs M → ROm nS xs M') (hm1 : M.1.2.2.2.1 ≤ M'.1.2.2.2.1) (hm2 : M.1.2.2.2.2 ≤ M'.1.2.2.2.2) (hP : PM M)
    (hbal : al = false → ∀ M, PM M → M.1.2.2.2.1 ≤ M'.1.2.2.2.1 ∧ M.1.2.2.2.2 ≤ M'.1.2.2.2.2) (hPM : ∀ M M', PM M → Rel al M M' → PM M')
    (hcs : ∀ R : Room, R.frames = d → R.locals = 64 * d → ∀ pc xe M, lkb t pc = some xe → (∃ z, xe.1 = .invokevirtual z) → PM M → CallOK l D cA ov aR0 B nS xs R al cs xe.2.2.1.2.1 M)
    (hrun : brun al (M'.1.2.2.2.1, M'.1.2.2.2.2) cs (lkb t) n 0 (entL (mlM j) as) [] M = some (v, M')) : MetC l D cA ov aR0 B nS xs d j as M v M' := by
  intro hRO
  refine ⟨hROM hRO, hm1, hm2, fun dir ad hro hvas => ?_⟩
  obtain ⟨mcls, mml, mpn, mh1, mh2⟩ := miD_of hj
  refine Met.ofW (cc := cM j) (maxL := mlM j) (ret := rtM j) mpn rfl ?_
  intro p e s m args below meth c s₁ B0 hml hv
  obtain ⟨rfl, hSF, hB, hR⟩ := hv
  have hx := B0.exec
  have hb := B0.bytes
  have hr := B0.returns
  have hts : ∀ w ∈ WSg, w.before (as.map (cv ad ov)).toArray s = true := fun w hw => atoms_spec (ws := wM j) B0.pre w (List.mem_cons_of_mem _ hw)
  have hown : s.vm.findClass (cn (owM j)) = some m.cls := by rw [← mcls]; exact findClass_of_methodNamed B0.named
  have hlocks := B0.notSynchronized
  have hname : meth.name = (yM j).name := (name_of_methodNamed B0.named B0.method).1
  have ho := hSF.2.2.2.2.2.2.2.2.2.2
  obtain ⟨hL, hLv⟩ := entL_LR (ad := ad) ho hent
  rw [lg_entry_eq]
  have C : Cx p s m (as.map (cv ad ov)).toArray c (cM j) (mlM j) (owM j) D cA ov aR0 B nS xs := ⟨hx, hb, hml, hown, hts, hSF, hB⟩
  have I : Inv s (mlM j) D cA ov aR0 B nS xs M.1.2.2.2.1 M.1.2.2.2.2 dir ad M s.heap [] _ (entL (mlM j) as) [] := ⟨hR, hRO, va_S.rf, hL, fun x hx => absurd hx List.not_mem_nil, fun i x hx => hvas x (hLv i x hx), hro, Nat.le_refl _, Nat.le_refl _⟩
  have key := brun_ok (l := l) (e := e) (R := (headSpec (wM j) (rmM d M M')).room) (below := below) (meth := meth) (Q := MQ below (QcM D cA ov B dir ad v M') (as.map (cv ad ov)).toArray s (M'.1.2.2.2.1 - M.1.2.2.2.1) (M'.1.2.2.2.2 - M.1.2.2.2.2) (fun q => B ≤ q)) (cs := cs) (al := al) (out := (v, M')) (T := lkb t) (bnd := (M'.1.2.2.2.1, M'.1.2.2.2.2)) (dir0 := dir) (ad0 := ad) (PM := PM) C (fun pc xe hq => tabOK_at hT hq) ⟨Nat.le_refl _, Nat.le_refl _⟩ hbal hPM hd (by show 64 ≤ 64 * d; omega) (fun e1 _ => hname.trans (hini e1)) (fun pc xe M1 => hcs _ rfl rfl pc xe M1) ?_ n 0 (entL (mlM j) as) [] M dir ad s.heap [] _ hP Ext.rf I hrun
  · have e1 : M.1.2.2.2.1 - M.1.2.2.2.1 = 0 := Nat.sub_self _
    have e2 : M.1.2.2.2.2 - M.1.2.2.2.2 = 0 := Nat.sub_self _
    rw [e1, e2] at key
    exact key
  · intro pc xe L S M1 dir1 ad1 H locs ls hTx hokE E I1 hP1 hrv
    obtain ⟨hR1, hRO1, hS1, hL1, hvS, hvL, hro1, hac, has⟩ := I1
    obtain ⟨i, len, ⟨a, b, d0⟩, vv, w, brs⟩ := xe
    have Qc : ∀ {o : Option Value}, v.map (cv ad1 ov) = o → (∀ x, v = some x → vok dir1 x) → M1 = M' → ∀ t : State, t.heap = H → s.WarmedH t.vm → QcM D cA ov B dir ad v M' (as.map (cv ad ov)).toArray s (.returned o) t := fun ho2 hvk hM1 t ht hW => ⟨dir1, ad1, by rw [ho2], E, hvk, by rw [ht, ← hM1]; exact hR1, hS1.F ht⟩
    cases i with
    | return_ =>
      rcases S with _ | ⟨z, S⟩
      · have e1 : ((none : Option AV), M1) = (v, M') := Option.some.inj (Option.some.inj hrv)
        obtain ⟨rfl, rfl⟩ := Prod.mk.inj e1
        obtain ⟨hdg, -⟩ : decode (cM j) pc = .ok (.return_, 1) ∧ len = 1 := by simpa [okE, okD] using hokE
        have hrn : rtM j = none := by
          cases hq : rtM j with
          | none => rfl
          | some ty => rw [hq] at hrt; cases ty <;> exact absurd hrt (by simp [rtOK])
        exact W.vret hx hb (by rw [hr, hrn]) (Qc rfl (fun x hx => by cases hx) rfl) hS1.2.2 hdg
      · cases Option.some.inj hrv
    | ireturn =>
      rcases S with _ | ⟨(z | z) | z, _ | ⟨z2, S⟩⟩ <;> try (cases Option.some.inj hrv)
      obtain ⟨hdg, -⟩ : decode (cM j) pc = .ok (.ireturn, 1) ∧ len = 1 := by simpa [okE, okD] using hokE
      have hrn : ∃ ty, rtM j = some ty ∧ narrow ty (.int z) = .int z := by
        cases hq : rtM j with
        | none => rw [hq] at hrt; exact absurd hrt (by simp [rtOK])
        | some ty => rw [hq] at hrt; exact ⟨ty, rfl, by cases ty <;> exact hrt⟩
      obtain ⟨ty, hty, hn⟩ := hrn
      exact W.zret hx hb (by rw [hr, hty]) hn (Qc rfl (fun x hx => by cases hx; exact vH1 hvS) rfl) hS1.2.2 hdg
    | lreturn =>
      rcases S with _ | ⟨(z | z) | z, _ | ⟨z2, S⟩⟩ <;> try (cases Option.some.inj hrv)
      obtain ⟨hdg, -⟩ : decode (cM j) pc = .ok (.lreturn, 1) ∧ len = 1 := by simpa [okE, okD] using hokE
      have hrn : rtM j = some .long := by
        cases hq : rtM j with
        | none => rw [hq] at hrt; exact absurd hrt (by simp [rtOK])
        | some ty => rw [hq] at hrt; cases ty <;> first | rfl | exact absurd hrt (by simp [rtOK])
      exact W.lret hx hb (by rw [hr, hrn]) (Qc rfl (fun x hx => by cases hx; exact vH1 hvS) rfl) hS1.2.2 hdg
    | areturn =>
      rcases S with _ | ⟨(z | z) | z, _ | ⟨z2, S⟩⟩ <;> try (cases Option.some.inj hrv)
      obtain ⟨hdg, -⟩ : decode (cM j) pc = .ok (.areturn, 1) ∧ len = 1 := by simpa [okE, okD] using hokE
      have hrn : ∃ ty, rtM j = some ty ∧ ((∃ n, ty = .object n) ∨ ∃ t, ty = .array t) := by
        cases hq : rtM j with
        | none => rw [hq] at hrt; exact absurd hrt (by simp [rtOK])
        | some ty =>
          rw [hq] at hrt
          cases ty with
          | object n => exact ⟨_, rfl, Or.inl ⟨n, rfl⟩⟩
          | array n => exact ⟨_, rfl, Or.inr ⟨n, rfl⟩⟩
          | _ => exact absurd hrt (by simp [rtOK])
      obtain ⟨ty, hty, hn⟩ := hrn
      exact W.aret hx hb (by rw [hr, hty]) hn (cv_ref ho z) (Qc rfl (fun x hx => by cases hx; exact vH1 hvS) rfl) hS1.2.2 hdg
    | _ => cases hrv

end RUN
end
section
/-! FUNCTIONS AND RUNS: what the printed functions are made of; when a run of the code is a function -/
def usr (x y : Int32) : Int32 := (x.toUInt32 >>> (y.toUInt32 &&& Int32.toUInt32 31)).toInt32
def abI (x : Int32) : Int32 := if 0 ≤ x then x else 0 - x
def mxI (x y : Int32) : Int32 := if x < y then y else x
def mnI (x y : Int32) : Int32 := if y < x then y else x
def bI (b : Bool) : Int32 := bif b then 1 else 0
/-- a loop: its body goes on (inl) or leaves (inr) -/
def loopF {σ τ : Type} : Nat → (σ → MM → Option ((σ ⊕ τ) × MM)) → σ → MM → Option (τ × MM)
  | 0, _, _, _ => none
  | n + 1, f, s, m => (f s m).bind fun o => match o.1 with
    | .inl s' => loopF n f s' o.2
    | .inr t => some (t, o.2)
/-- what a call does grows with what comes behind it -/
def CSm (cs : CS) : Prop := ∀ j as M (κ κ' : Option AV → Mem → Option Out) out, (∀ v M', κ v M' = some out → κ' v M' = some out) → cs j as M κ = some out → cs j as M κ' = some out
theorem bif_mono {b : Bool} {A A' : Option Out} {out : Out} (h : (bif b then A else none) = some out) (f : A = some out → A' = some out) : (bif b then A' else none) = some out := by
  cases b
  · cases h
  · exact f h
theorem ite_mono {c : Prop} [Decidable c] {A B A' B' : Option Out} {out : Out} (h : (if c then A else B) = some out) (f : A = some out → A' = some out) (g : B = some out → B' = some out) : (if c then A' else B') = some out := by
  by_cases e : c
  · rw [if_pos e] at h ⊢; exact f h
  · rw [if_neg e] at h ⊢; exact g h
theorem fold_mono {k k' : Nat → LV → List AV → Mem → Option Out} {L L' : LV} {S : List AV} {M : Mem} {x : Int32} {out : Out} (hk : ∀ pc, k pc L S M = some out → k' pc L' S M = some out) {r r' : Option Out} (hr : r = some out → r' = some out) : ∀ l : List (Int32 × Nat), l.foldr (fun q r => if x = q.1 then k q.2 L S M else r) r = some out → l.foldr (fun q r => if x = q.1 then k' q.2 L' S M else r) r' = some out := by
  intro l
  induction l with
  | nil => exact hr
  | cons y l ih => intro h; exact ite_mono h (hk _) ih
/-- less is known of the locals -/
def LeL : LV → LV → Prop
  | [], l' => l' = []
  | x :: l, l' => match l' with
    | [] => False
    | y :: l' => (x = none ∨ x = y) ∧ LeL l l'
theorem LeL.nil : LeL [] [] := Eq.refl _
theorem LeL.n {l l' : LV} (x : Option AV) (h : LeL l l') : LeL (none :: l) (x :: l') := ⟨Or.inl (Eq.refl _), h⟩
theorem LeL.s {l l' : LV} (x : Option AV) (h : LeL l l') : LeL (x :: l) (x :: l') := ⟨Or.inr (Eq.refl _), h⟩
theorem LeL.ind {P : LV → LV → Prop} (h0 : P [] []) (hn : ∀ l l' x, LeL l l' → P l l' → P (none :: l) (x :: l')) (hs : ∀ l l' x, LeL l l' → P l l' → P (x :: l) (x :: l')) : ∀ L L', LeL L L' → P L L' := by
  intro L
  induction L with
  | nil => intro L' h; have h : L' = [] := h; subst h; exact h0
  | cons x l ih =>
    intro L' h
    cases L' with
    | nil => exact h.elim
    | cons y l' =>
      obtain ⟨h1, h2⟩ : (x = none ∨ x = y) ∧ LeL l l' := h
      rcases h1 with h1 | h1
      · subst h1; exact hn _ _ _ h2 (ih _ h2)
      · subst h1; exact hs _ _ _ h2 (ih _ h2)
theorem LeL.rfl : ∀ {L : LV}, LeL L L
  | [] => .nil
  | x :: _ => .s x LeL.rfl
theorem LeL.get {L L' : LV} (h : LeL L L') : ∀ (i : Nat) {v : AV}, gL L i = some v → gL L' i = some v := by
  refine LeL.ind (P := fun L L' => ∀ (i : Nat) {v : AV}, gL L i = some v → gL L' i = some v) ?_ ?_ ?_ L L' h
  · intro i v e; cases e
  · intro l l' x _ ih i v e; cases i with
    | zero => cases e
    | succ i => exact ih i e
  · intro l l' x _ ih i v e; cases i with
    | zero => exact e
    | succ i => exact ih i e
theorem LeL.onS {L L' : LV} (h : LeL L L') : ∀ (i : Nat) (v : Option AV), LeL (sL L i v) (sL L' i v) := by
  refine LeL.ind (P := fun L L' => ∀ (i : Nat) (v : Option AV), LeL (sL L i v) (sL L' i v)) ?_ ?_ ?_ L L' h
  · intro i v; exact .nil
  · intro l l' x h ih i v; cases i with
    | zero => exact .s v h
    | succ i => exact .n x (ih i v)
  · intro l l' x h ih i v; cases i with
    | zero => exact .s v h
    | succ i => exact .s x (ih i v)
theorem LeL.clob {L L' : LV} (h : LeL L L') : ∀ (i : Nat), gL L i = none → LeL L (sL L' i none) := by
  refine LeL.ind (P := fun L L' => ∀ (i : Nat), gL L i = none → LeL L (sL L' i none)) ?_ ?_ ?_ L L' h
  · intro i _; exact .nil
  · intro l l' x h ih i e; cases i with
    | zero => exact .s none h
    | succ i => exact .n x (ih i e)
  · intro l l' x h ih i e; cases i with
    | zero =>
      have : x = none := e
      subst this
      exact .s none h
    | succ i => exact .s x (ih i e)
theorem LeL.on1 {L L' : LV} (h : LeL L L') (i : Nat) (v : AV) : LeL (st1 L i v) (st1 L' i v) := by
  cases i with
  | zero => exact h.onS 0 _
  | succ j =>
    cases hg : gL L j with
    | none =>
      have e1 : st1 L (j + 1) v = sL L (j + 1) (some v) := by simp only [st1, hg]
      rw [e1]
      cases hg' : gL L' j with
      | none =>
        have e2 : st1 L' (j + 1) v = sL L' (j + 1) (some v) := by simp only [st1, hg']
        rw [e2]; exact h.onS _ _
      | some x =>
        rcases x with (x | x) | x
        · have e2 : st1 L' (j + 1) v = sL L' (j + 1) (some v) := by simp only [st1, hg']
          rw [e2]; exact h.onS _ _
        · have e2 : st1 L' (j + 1) v = sL (sL L' j none) (j + 1) (some v) := by simp only [st1, hg']
          rw [e2]; exact (h.clob j hg).onS _ _
        · have e2 : st1 L' (j + 1) v = sL L' (j + 1) (some v) := by simp only [st1, hg']
          rw [e2]; exact h.onS _ _
    | some x =>
      have hg' := h.get j hg
      rcases x with (x | x) | x
      · have e1 : st1 L (j + 1) v = sL L (j + 1) (some v) := by simp only [st1, hg]
        have e2 : st1 L' (j + 1) v = sL L' (j + 1) (some v) := by simp only [st1, hg']
        rw [e1, e2]; exact h.onS _ _
      · have e1 : st1 L (j + 1) v = sL (sL L j none) (j + 1) (some v) := by simp only [st1, hg]
        have e2 : st1 L' (j + 1) v = sL (sL L' j none) (j + 1) (some v) := by simp only [st1, hg']
        rw [e1, e2]; exact (h.onS _ _).onS _ _
      · have e1 : st1 L (j + 1) v = sL L (j + 1) (some v) := by simp only [st1, hg]
        have e2 : st1 L' (j + 1) v = sL L' (j + 1) (some v) := by simp only [st1, hg']
        rw [e1, e2]; exact h.onS _ _
theorem LeL.on2 {L L' : LV} (h : LeL L L') (i : Nat) (v : AV) : LeL (st2 L i v) (st2 L' i v) := (h.on1 i v).onS _ _
section SIMA
variable {cs : CS} {pc : Nat} {L L' : LV} {S : List AV} {M : Mem} {k k' : Nat → LV → List AV → Mem → Option Out} {out : Out}
set_option maxHeartbeats 4000000 in
theorem astep_mono {xe : XE} (hcs : CSm cs) (hL : LeL L L') (hk : ∀ pc L L' S M, LeL L L' → k pc L S M = some out → k' pc L' S M = some out) (h : astep false cs xe pc L S M k = some out) : astep false cs xe pc L' S M k' = some out := by
  obtain ⟨i, len, ⟨a, b, d⟩, v, w, brs⟩ := xe
  cases i with
  | iadd =>
    rcases S with _ | ⟨(y | y) | y, _ | ⟨(x | x) | x, S⟩⟩ <;> try exact ons h
    exact hk _ _ _ _ _ hL h
  | isub =>
    rcases S with _ | ⟨(y | y) | y, _ | ⟨(x | x) | x, S⟩⟩ <;> try exact ons h
    exact hk _ _ _ _ _ hL h
  | imul =>
    rcases S with _ | ⟨(y | y) | y, _ | ⟨(x | x) | x, S⟩⟩ <;> try exact ons h
    exact hk _ _ _ _ _ hL h
  | iand =>
    rcases S with _ | ⟨(y | y) | y, _ | ⟨(x | x) | x, S⟩⟩ <;> try exact ons h
    exact hk _ _ _ _ _ hL h
  | ior =>
    rcases S with _ | ⟨(y | y) | y, _ | ⟨(x | x) | x, S⟩⟩ <;> try exact ons h
    exact hk _ _ _ _ _ hL h
  | ishl =>
    rcases S with _ | ⟨(y | y) | y, _ | ⟨(x | x) | x, S⟩⟩ <;> try exact ons h
    exact hk _ _ _ _ _ hL h
  | ishr =>
    rcases S with _ | ⟨(y | y) | y, _ | ⟨(x | x) | x, S⟩⟩ <;> try exact ons h
    exact hk _ _ _ _ _ hL h
  | iushr =>
    rcases S with _ | ⟨(y | y) | y, _ | ⟨(x | x) | x, S⟩⟩ <;> try exact ons h
    exact hk _ _ _ _ _ hL h
  | ladd =>
    rcases S with _ | ⟨(y | y) | y, _ | ⟨(x | x) | x, S⟩⟩ <;> try exact ons h
    exact hk _ _ _ _ _ hL h
  | land =>
    rcases S with _ | ⟨(y | y) | y, _ | ⟨(x | x) | x, S⟩⟩ <;> try exact ons h
    exact hk _ _ _ _ _ hL h
  | lor =>
    rcases S with _ | ⟨(y | y) | y, _ | ⟨(x | x) | x, S⟩⟩ <;> try exact ons h
    exact hk _ _ _ _ _ hL h
  | lshl =>
    rcases S with _ | ⟨(y | y) | y, _ | ⟨(x | x) | x, S⟩⟩ <;> try exact ons h
    exact hk _ _ _ _ _ hL h
  | lcmp =>
    rcases S with _ | ⟨(y | y) | y, _ | ⟨(x | x) | x, S⟩⟩ <;> try exact ons h
    exact hk _ _ _ _ _ hL h
  | idiv =>
    rcases S with _ | ⟨(y | y) | y, _ | ⟨(x | x) | x, S⟩⟩ <;> try exact ons h
    exact ite_mono h (fun h => (by cases h)) (fun h => hk _ _ _ _ _ hL h)
  | irem =>
    rcases S with _ | ⟨(y | y) | y, _ | ⟨(x | x) | x, S⟩⟩ <;> try exact ons h
    exact ite_mono h (fun h => (by cases h)) (fun h => hk _ _ _ _ _ hL h)
  | ineg =>
    rcases S with _ | ⟨(x | x) | x, S⟩ <;> try exact ons h
    exact hk _ _ _ _ _ hL h
  | i2l =>
    rcases S with _ | ⟨(x | x) | x, S⟩ <;> try exact ons h
    exact hk _ _ _ _ _ hL h
  | l2i =>
    rcases S with _ | ⟨(x | x) | x, S⟩ <;> try exact ons h
    exact hk _ _ _ _ _ hL h
  | i2b =>
    rcases S with _ | ⟨(x | x) | x, S⟩ <;> try exact ons h
    exact hk _ _ _ _ _ hL h
  | i2s =>
    rcases S with _ | ⟨(x | x) | x, S⟩ <;> try exact ons h
    exact hk _ _ _ _ _ hL h
  | i2c =>
    rcases S with _ | ⟨(x | x) | x, S⟩ <;> try exact ons h
    exact hk _ _ _ _ _ hL h
  | iconst z =>
    exact hk _ _ _ _ _ hL h
  | lconst z =>
    exact hk _ _ _ _ _ hL h
  | aconst_null =>
    exact hk _ _ _ _ _ hL h
  | goto z =>
    exact hk _ _ _ _ _ hL h
  | ldc z =>
    exact hk _ _ _ _ _ hL h
  | iload z =>
    cases hg : gL L a with
    | none => simp only [astep, hg] at h; exact ons h
    | some x => rcases x with (x | x) | x <;> (simp only [astep, hg] at h; simp only [astep, hL.get _ hg]; first | exact ons h | exact hk _ _ _ _ _ hL h)
  | lload z =>
    cases hg : gL L a with
    | none => simp only [astep, hg] at h; exact ons h
    | some x => rcases x with (x | x) | x <;> (simp only [astep, hg] at h; simp only [astep, hL.get _ hg]; first | exact ons h | exact hk _ _ _ _ _ hL h)
  | aload z =>
    cases hg : gL L a with
    | none => simp only [astep, hg] at h; exact ons h
    | some x => rcases x with (x | x) | x <;> (simp only [astep, hg] at h; simp only [astep, hL.get _ hg]; first | exact ons h | exact hk _ _ _ _ _ hL h)
  | iinc z y =>
    cases hg : gL L a with
    | none => simp only [astep, hg] at h; exact ons h
    | some x => rcases x with (x | x) | x <;> (simp only [astep, hg] at h; simp only [astep, hL.get _ hg]; first | exact ons h | exact hk _ _ _ _ _ (hL.on1 _ _) h)
  | istore z =>
    rcases S with _ | ⟨(x | x) | x, S⟩ <;> try exact ons h
    exact hk _ _ _ _ _ (hL.on1 _ _) h
  | lstore z =>
    rcases S with _ | ⟨(x | x) | x, S⟩ <;> try exact ons h
    exact hk _ _ _ _ _ (hL.on2 _ _) h
  | astore z =>
    rcases S with _ | ⟨(x | x) | x, S⟩ <;> try exact ons h
    exact hk _ _ _ _ _ (hL.on1 _ _) h
  | dup =>
    rcases S with _ | ⟨(x | x) | x, S⟩ <;> (first | exact ons h | exact hk _ _ _ _ _ hL h)
  | pop =>
    rcases S with _ | ⟨(x | x) | x, S⟩ <;> (first | exact ons h | exact hk _ _ _ _ _ hL h)
  | dup_x1 =>
    rcases S with _ | ⟨(x | x) | x, _ | ⟨(y | y) | y, S⟩⟩ <;> try exact ons h
    exact hk _ _ _ _ _ hL h
  | dup2 =>
    rcases S with _ | ⟨(x | x) | x, _ | ⟨(y | y) | y, S⟩⟩ <;> try exact ons h
    exact hk _ _ _ _ _ hL h
  | ifCond f z =>
    rcases S with _ | ⟨(x | x) | x, S⟩ <;> try exact ons h
    cases f <;> exact ite_mono h (fun h => hk _ _ _ _ _ hL h) (fun h => hk _ _ _ _ _ hL h)
  | if_icmp f z =>
    rcases S with _ | ⟨(y | y) | y, _ | ⟨(x | x) | x, S⟩⟩ <;> try exact ons h
    cases f <;> exact ite_mono h (fun h => hk _ _ _ _ _ hL h) (fun h => hk _ _ _ _ _ hL h)
  | ifnull z =>
    rcases S with _ | ⟨(x | x) | _ | ⟨ci, ii⟩, S⟩ <;> try exact ons h
    · exact hk _ _ _ _ _ hL h
    · cases hc : Nat.beq ci 34 <;> (simp only [astep, hc, cond_true, cond_false] at h ⊢; first | exact ons h | exact hk _ _ _ _ _ hL h)
  | ifnonnull z =>
    rcases S with _ | ⟨(x | x) | _ | ⟨ci, ii⟩, S⟩ <;> try exact ons h
    · exact hk _ _ _ _ _ hL h
    · cases hc : Nat.beq ci 34 <;> (simp only [astep, hc, cond_true, cond_false] at h ⊢; first | exact ons h | exact hk _ _ _ _ _ hL h)
  | tableswitch z1 z2 z3 z4 =>
    rcases S with _ | ⟨(x | x) | x, S⟩ <;> try exact ons h
    exact fold_mono (k := k) (k' := k') (fun pc h => hk pc _ _ _ _ hL h) (fun h => hk _ _ _ _ _ hL h) brs h
  | getfield z =>
    rcases S with _ | ⟨(x | x) | _ | ⟨ci, ii⟩, S⟩ <;> try exact ons h
    refine bif_mono h (fun h => ?_)
    by_cases hs : sk a b = 4
    · simp only [hs] at h ⊢; exact hk _ _ _ _ _ hL h
    · revert h
      split
      · rename_i e; exact absurd e hs
      · exact fun h => hk _ _ _ _ _ hL h
  | putfield z =>
    simp only [astep] at h ⊢
    split at h
    · rcases S with _ | ⟨(x | x) | x, _ | ⟨(y | y) | _ | ⟨ci, ii⟩, S⟩⟩ <;> first | exact ons h | exact bif_mono h (fun h => hk _ _ _ _ _ hL h)
    · rcases S with _ | ⟨(x | x) | x, _ | ⟨(y | y) | _ | ⟨ci, ii⟩, S⟩⟩ <;> first | exact ons h | exact bif_mono h (fun h => hk _ _ _ _ _ hL h)
    · rcases S with _ | ⟨(x | x) | _ | q, _ | ⟨(y | y) | _ | ⟨ci, ii⟩, S⟩⟩ <;> first | exact ons h | exact bif_mono h (fun h => hk _ _ _ _ _ hL h)
  | getstatic z =>
    simp only [astep] at h ⊢
    split at h <;> exact hk _ _ _ _ _ hL h
  | iaload =>
    rcases S with _ | ⟨(j | j) | j, _ | ⟨(y | y) | _ | ⟨ci, ii⟩, S⟩⟩ <;> try exact ons h
    exact bif_mono h (fun h => hk _ _ _ _ _ hL h)
  | baload =>
    rcases S with _ | ⟨(j | j) | j, _ | ⟨(y | y) | _ | ⟨ci, ii⟩, S⟩⟩ <;> try exact ons h
    exact bif_mono h (fun h => hk _ _ _ _ _ hL h)
  | laload =>
    rcases S with _ | ⟨(j | j) | j, _ | ⟨(y | y) | _ | ⟨ci, ii⟩, S⟩⟩ <;> try exact ons h
    exact bif_mono h (fun h => hk _ _ _ _ _ hL h)
  | aaload =>
    rcases S with _ | ⟨(j | j) | j, _ | ⟨(y | y) | _ | ⟨ci, ii⟩, S⟩⟩ <;> try exact ons h
    exact bif_mono h (fun h => hk _ _ _ _ _ hL h)
  | iastore =>
    rcases S with _ | ⟨(x | x) | x, _ | ⟨(j | j) | j, _ | ⟨(y | y) | _ | ⟨ci, ii⟩, S⟩⟩⟩ <;> try exact ons h
    exact bif_mono h (fun h => hk _ _ _ _ _ hL h)
  | lastore =>
    rcases S with _ | ⟨(x | x) | x, _ | ⟨(j | j) | j, _ | ⟨(y | y) | _ | ⟨ci, ii⟩, S⟩⟩⟩ <;> try exact ons h
    exact bif_mono h (fun h => hk _ _ _ _ _ hL h)
  | arraylength =>
    rcases S with _ | ⟨(x | x) | _ | ⟨ci, ii⟩, S⟩ <;> try exact ons h
    exact bif_mono h (fun h => hk _ _ _ _ _ hL h)
  | dneg =>
    rcases S with _ | ⟨(x | x) | x, S⟩ <;> try exact ons h
    exact bif_mono h (fun h => hk _ _ _ _ _ hL h)
  | dadd =>
    rcases S with _ | ⟨(y | y) | y, _ | ⟨(x | x) | x, S⟩⟩ <;> try exact ons h
    exact bif_mono h (fun h => hk _ _ _ _ _ hL h)
  | dsub =>
    rcases S with _ | ⟨(y | y) | y, _ | ⟨(x | x) | x, S⟩⟩ <;> try exact ons h
    exact bif_mono h (fun h => hk _ _ _ _ _ hL h)
  | dmul =>
    rcases S with _ | ⟨(n | n) | n, _ | ⟨(dp | dp) | dp, _ | ⟨(y1 | y1) | _ | ⟨c1, i1⟩, _ | ⟨(sp | sp) | sp, _ | ⟨(y2 | y2) | _ | ⟨c0, i0⟩, S⟩⟩⟩⟩⟩ <;> try exact ons h
    exact bif_mono h (fun h => ite_mono h (fun h => hk _ _ _ _ _ hL h) (fun h => (by cases h)))
  | invokevirtual z =>
    exact bif_mono h (fun h => hcs _ _ _ _ _ _ (fun v M' h => hk _ _ _ _ _ hL h) h)
  | nop =>
    rcases S with _ | ⟨(x | x) | _ | ⟨ci, ii⟩, S⟩ <;> exact ons h
  | new z =>
    exact ons h
  | newarray z =>
    rcases S with _ | ⟨(x | x) | x, S⟩ <;> exact ons h
  | anewarray z =>
    rcases S with _ | ⟨(x | x) | x, S⟩ <;> exact ons h
  | multianewarray z y =>
    rcases S with _ | ⟨(y | y) | y, _ | ⟨(x | x) | x, S⟩⟩ <;> exact ons h
  | aastore =>
    rcases S with _ | ⟨(x | x) | _ | q, _ | ⟨(j | j) | j, _ | ⟨(y | y) | _ | ⟨ci, ii⟩, S⟩⟩⟩ <;> exact ons h
  | _ =>
    exact ons h
end SIMA
theorem brun_s (b : Nat × Nat) (cs : CS) (T : Nat → Option XE) (n pc : Nat) (L : LV) (S : List AV) (M : Mem) : brun false b cs T (n + 1) pc L S M = match T pc with
    | none => none
    | some xe => match retv xe.1 S M with
      | some r => r
      | none => astep false cs xe pc L S M (brun false b cs T n) := rfl
theorem brun_mono {b : Nat × Nat} {cs : CS} {T : Nat → Option XE} {out : Out} (hcs : CSm cs) : ∀ (n a pc : Nat) (L L' : LV) (S : List AV) (M : Mem), LeL L L' → brun false b cs T n pc L S M = some out → brun false b cs T (n + a) pc L' S M = some out := by
  intro n
  induction n with
  | zero => intro a pc L L' S M hL h; cases h
  | succ n ih =>
    intro a pc L L' S M hL h
    rw [show n + 1 + a = (n + a) + 1 by omega]
    rw [brun_s] at h ⊢
    cases hT : T pc with
    | none => rw [hT] at h; exact ons h
    | some xe =>
      rw [hT] at h
      have h : (match retv xe.1 S M with
        | some r => r
        | none => astep false cs xe pc L S M (brun false b cs T n)) = some out := h
      show (match retv xe.1 S M with
        | some r => r
        | none => astep false cs xe pc L' S M (brun false b cs T (n + a))) = some out
      cases hr : retv xe.1 S M with
      | some r => rw [hr] at h; exact h
      | none =>
        rw [hr] at h
        exact astep_mono hcs hL (fun pc L L' S M hL h => ih a pc L L' S M hL h) h
/-- where the function answers, the run comes to what the answer stands for -/
def SimK {α : Type} (o : Option α) (g : Nat → Option Out) (k : α → Nat → Option Out) : Prop := ∀ x out, o = some x → (∃ n, k x n = some out) → ∃ n, g n = some out
theorem simk_none {α : Type} {g : Nat → Option Out} {k : α → Nat → Option Out} : SimK none g k := fun x out h => by cases h
theorem simk_leaf {α : Type} {x : α} {k : α → Nat → Option Out} : SimK (some x) (k x) k := fun y out h ⟨n, hn⟩ => ⟨n, by rw [Option.some.inj h]; exact hn⟩
theorem simk_bz {α : Type} {x : Int32} {u v : α} {M : Mem} {k : α → Nat → Option Out} (eu : k u = fun _ => some (some (aI 0), M)) (ev : k v = fun _ => some (some (aI 1), M)) : SimK (if x = 0 then some u else if x = 1 then some v else none) (fun _ => some (some (aI x), M)) k := by
  intro y out h hn
  by_cases h0 : x = 0
  · rw [if_pos h0] at h; obtain ⟨n, hn⟩ := hn; refine ⟨n, ?_⟩; rw [← Option.some.inj h, eu] at hn; rw [h0]; exact hn
  · rw [if_neg h0] at h
    by_cases h1 : x = 1
    · rw [if_pos h1] at h; obtain ⟨n, hn⟩ := hn; refine ⟨n, ?_⟩; rw [← Option.some.inj h, ev] at hn; rw [h1]; exact hn
    · rw [if_neg h1] at h; cases h
theorem simk_ite {α : Type} {c : Prop} [Decidable c] {A B : Option α} {g h : Nat → Option Out} {k : α → Nat → Option Out} (a : SimK A g k) (b : SimK B h k) : SimK (if c then A else B) (fun n => if c then g n else h n) k := by
  intro x out e hx
  by_cases hc : c
  · simp only [if_pos hc] at e ⊢; exact a x out e hx
  · simp only [if_neg hc] at e ⊢; exact b x out e hx
theorem simk_bif {α : Type} {c : Bool} {A : Option α} {g : Nat → Option Out} {k : α → Nat → Option Out} (a : SimK A g k) : SimK (bif c then A else none) (fun n => bif c then g n else none) k := by
  intro x out e hx
  cases c
  · cases e
  · exact a x out e hx
theorem simk_bind {α β : Type} {X : Option β} {A : β → Option α} {g : β → Nat → Option Out} {k : α → Nat → Option Out} (a : ∀ o, SimK (A o) (g o) k) : SimK (X.bind A) (fun n => X.bind (fun o => g o n)) k := by
  intro x out e hx
  cases hX : X with
  | none => rw [hX] at e; cases e
  | some y => rw [hX] at e; exact a y x out e hx
theorem simk_bindO {α : Type} {X : Option (Option Nat × MM)} {A : Option Nat × MM → Option α} {B : Option Nat × MM → Nat → Option α} {g : Option Nat × MM → Nat → Option Out} {h : Option Nat × MM → Nat → Nat → Option Out} {k : α → Nat → Option Out} (a : ∀ o, SimK (A o) (g o) k) (b : ∀ o i, SimK (B o i) (h o i) k) :
    SimK (X.bind (fun o => match o.1 with
      | none => A o
      | some i => B o i)) (fun n => X.bind (fun o => match o.1 with
      | none => g o n
      | some i => h o i n)) k := by
  intro x out e hx
  cases hX : X with
  | none => rw [hX] at e; cases e
  | some y =>
    rw [hX] at e
    obtain ⟨r, m⟩ := y
    cases r with
    | none => exact a _ x out e hx
    | some i => exact b _ i x out e hx
theorem simk_loop {α β : Type} {X : Option β} {A : β → Option α} {g : Nat → Option Out} {kx : β → Nat → Option Out} {k : α → Nat → Option Out} (a : SimK X g kx) (b : ∀ y, SimK (A y) (kx y) k) : SimK (X.bind A) g k := by
  intro x out e hx
  cases hX : X with
  | none => rw [hX] at e; cases e
  | some y =>
    rw [hX] at e
    exact a y out hX (b y x out e hx)
theorem simk_sh {α : Type} {o : Option α} {b : Nat × Nat} {cs : CS} {T : Nat → Option XE} {pc : Nat} {L L' : LV} {S : List AV} {M : Mem} {k : α → Nat → Option Out} (a : Nat) (hcs : CSm cs) (hL : LeL L L') (h : SimK o (fun n => brun false b cs T n pc L S M) k) : SimK o (fun n => brun false b cs T (n + a) pc L' S M) k := by
  intro x out e hx
  obtain ⟨n, hn⟩ := h x out e hx
  exact ⟨n, brun_mono hcs n a pc L L' S M hL hn⟩
theorem simk_step {α : Type} {o : Option α} {g g' : Nat → Option Out} {k : α → Nat → Option Out} (K : Nat) (h : SimK o g' k) (e : ∀ n, g (n + K) = g' n) : SimK o g k := by
  intro x out ex hx
  obtain ⟨n, hn⟩ := h x out ex hx
  exact ⟨n + K, by rw [e]; exact hn⟩
/-- behind a loop's body: at the head again, or out -/
def lpK {σ τ : Type} (head : σ → MM → Nat → Option Out) (kx : τ × MM → Nat → Option Out) (y : (σ ⊕ τ) × MM) (n : Nat) : Option Out := match y.1 with
  | .inl s => head s y.2 n
  | .inr t => kx (t, y.2) n
theorem simk_loopF {σ τ : Type} {f : σ → MM → Option ((σ ⊕ τ) × MM)} {head : σ → MM → Nat → Option Out} {kx : τ × MM → Nat → Option Out} (h : ∀ s m, SimK (f s m) (head s m) (lpK head kx)) : ∀ (N : Nat) (s : σ) (m : MM), SimK (loopF N f s m) (head s m) kx := by
  intro N
  induction N with
  | zero => intro s m x out e; cases e
  | succ N ih =>
    intro s m x out e hx
    have e : (f s m).bind (fun o => match o.1 with
      | .inl s' => loopF N f s' o.2
      | .inr t => some (t, o.2)) = some x := e
    cases hf : f s m with
    | none => rw [hf] at e; cases e
    | some y =>
      rw [hf] at e
      obtain ⟨r, m'⟩ := y
      refine h s m (r, m') out hf ?_
      cases r with
      | inl s' => exact ih s' m' x out e hx
      | inr t =>
        have e : some (t, m') = some x := e
        rw [← Option.some.inj e] at hx
        exact hx
end
