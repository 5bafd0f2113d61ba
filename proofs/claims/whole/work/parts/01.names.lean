-- ===== PART A: goes FIRST, ahead of the names: the tables' words, and 'selects' of the private methods out of them =====
/-- a private method of a class that the tables say can be made, by its rows of tables_1 -/
def lw_okq (q : MethodName × Nat) : Prop := (q.1.cls ≠ "java/lang/invoke/MethodHandle" ∧ q.1.cls ≠ "java/lang/invoke/VarHandle") ∧ Cond.instantiable q.1.cls q.2 ∈ tables_1 ∧ Cond.privateMethod q.1 ∈ tables_1 ∧ Cond.instanceMethod q.1 ∈ tables_1
theorem lw_p0 : lw_okq (⟨"SlidingFlaws$Reader", "skipBlanks", "()V"⟩, 5) := ⟨⟨by decide +kernel, by decide +kernel⟩, List.mem_of_getElem? (i := 29) (by decide +kernel), List.mem_of_getElem? (i := 506) (by decide +kernel), List.mem_of_getElem? (i := 507) (by decide +kernel)⟩
theorem lw_p1 : lw_okq (⟨"SlidingFlaws$Reader", "byteAt", "(I)I"⟩, 5) := ⟨⟨by decide +kernel, by decide +kernel⟩, List.mem_of_getElem? (i := 29) (by decide +kernel), List.mem_of_getElem? (i := 510) (by decide +kernel), List.mem_of_getElem? (i := 511) (by decide +kernel)⟩
theorem lw_p2 : lw_okq (⟨"SlidingFlaws$Reader", "readStatement", "(LSlidingFlaws$Crystal;I)V"⟩, 5) := ⟨⟨by decide +kernel, by decide +kernel⟩, List.mem_of_getElem? (i := 29) (by decide +kernel), List.mem_of_getElem? (i := 514) (by decide +kernel), List.mem_of_getElem? (i := 515) (by decide +kernel)⟩
theorem lw_p3 : lw_okq (⟨"SlidingFlaws$Reader", "lettersAhead", "()I"⟩, 5) := ⟨⟨by decide +kernel, by decide +kernel⟩, List.mem_of_getElem? (i := 29) (by decide +kernel), List.mem_of_getElem? (i := 518) (by decide +kernel), List.mem_of_getElem? (i := 519) (by decide +kernel)⟩
theorem lw_p4 : lw_okq (⟨"SlidingFlaws$Reader", "sortAhead", "(I)I"⟩, 5) := ⟨⟨by decide +kernel, by decide +kernel⟩, List.mem_of_getElem? (i := 29) (by decide +kernel), List.mem_of_getElem? (i := 525) (by decide +kernel), List.mem_of_getElem? (i := 526) (by decide +kernel)⟩
theorem lw_p5 : lw_okq (⟨"SlidingFlaws$Reader", "isWord", "(Ljava/lang/String;I)Z"⟩, 5) := ⟨⟨by decide +kernel, by decide +kernel⟩, List.mem_of_getElem? (i := 29) (by decide +kernel), List.mem_of_getElem? (i := 530) (by decide +kernel), List.mem_of_getElem? (i := 531) (by decide +kernel)⟩
theorem lw_p6 : lw_okq (⟨"SlidingFlaws$Reader", "refuse", "(II)V"⟩, 5) := ⟨⟨by decide +kernel, by decide +kernel⟩, List.mem_of_getElem? (i := 29) (by decide +kernel), List.mem_of_getElem? (i := 588) (by decide +kernel), List.mem_of_getElem? (i := 589) (by decide +kernel)⟩
theorem lw_p7 : lw_okq (⟨"SlidingFlaws$Reader", "readNumbers", "(LSlidingFlaws$Crystal;I)V"⟩, 5) := ⟨⟨by decide +kernel, by decide +kernel⟩, List.mem_of_getElem? (i := 29) (by decide +kernel), List.mem_of_getElem? (i := 599) (by decide +kernel), List.mem_of_getElem? (i := 600) (by decide +kernel)⟩
theorem lw_p8 : lw_okq (⟨"SlidingFlaws$Reader", "readWay", "(LSlidingFlaws$Ways;)V"⟩, 5) := ⟨⟨by decide +kernel, by decide +kernel⟩, List.mem_of_getElem? (i := 29) (by decide +kernel), List.mem_of_getElem? (i := 603) (by decide +kernel), List.mem_of_getElem? (i := 604) (by decide +kernel)⟩
theorem lw_p9 : lw_okq (⟨"SlidingFlaws$Reader", "number", "(II)I"⟩, 5) := ⟨⟨by decide +kernel, by decide +kernel⟩, List.mem_of_getElem? (i := 29) (by decide +kernel), List.mem_of_getElem? (i := 607) (by decide +kernel), List.mem_of_getElem? (i := 608) (by decide +kernel)⟩
theorem lw_p10 : lw_okq (⟨"SlidingFlaws$Reader", "readPush", "(LSlidingFlaws$Ground;)V"⟩, 5) := ⟨⟨by decide +kernel, by decide +kernel⟩, List.mem_of_getElem? (i := 29) (by decide +kernel), List.mem_of_getElem? (i := 619) (by decide +kernel), List.mem_of_getElem? (i := 620) (by decide +kernel)⟩
theorem lw_p11 : lw_okq (⟨"SlidingFlaws$Reader", "readSpeck", "(LSlidingFlaws$Ground;)V"⟩, 5) := ⟨⟨by decide +kernel, by decide +kernel⟩, List.mem_of_getElem? (i := 29) (by decide +kernel), List.mem_of_getElem? (i := 634) (by decide +kernel), List.mem_of_getElem? (i := 635) (by decide +kernel)⟩
theorem lw_p12 : lw_okq (⟨"SlidingFlaws$Reader", "readSource", "(LSlidingFlaws$Ground;)V"⟩, 5) := ⟨⟨by decide +kernel, by decide +kernel⟩, List.mem_of_getElem? (i := 29) (by decide +kernel), List.mem_of_getElem? (i := 649) (by decide +kernel), List.mem_of_getElem? (i := 650) (by decide +kernel)⟩
theorem lw_p13 : lw_okq (⟨"SlidingFlaws$Reader", "readBase", "(LSlidingFlaws$Ground;)V"⟩, 5) := ⟨⟨by decide +kernel, by decide +kernel⟩, List.mem_of_getElem? (i := 29) (by decide +kernel), List.mem_of_getElem? (i := 661) (by decide +kernel), List.mem_of_getElem? (i := 662) (by decide +kernel)⟩
theorem lw_p14 : lw_okq (⟨"SlidingFlaws", "waysOf", "(I)LSlidingFlaws$Ways;"⟩, 10) := ⟨⟨by decide +kernel, by decide +kernel⟩, List.mem_of_getElem? (i := 21) (by decide +kernel), List.mem_of_getElem? (i := 682) (by decide +kernel), List.mem_of_getElem? (i := 683) (by decide +kernel)⟩
theorem lw_p15 : lw_okq (⟨"SlidingFlaws$Web", "remove", "(I)V"⟩, 14) := ⟨⟨by decide +kernel, by decide +kernel⟩, List.mem_of_getElem? (i := 52) (by decide +kernel), List.mem_of_getElem? (i := 794) (by decide +kernel), List.mem_of_getElem? (i := 795) (by decide +kernel)⟩
def lw_privs_1 : List (MethodName × Nat) := [(⟨"SlidingFlaws$Reader", "skipBlanks", "()V"⟩, 5), (⟨"SlidingFlaws$Reader", "byteAt", "(I)I"⟩, 5), (⟨"SlidingFlaws$Reader", "readStatement", "(LSlidingFlaws$Crystal;I)V"⟩, 5), (⟨"SlidingFlaws$Reader", "lettersAhead", "()I"⟩, 5), (⟨"SlidingFlaws$Reader", "sortAhead", "(I)I"⟩, 5), (⟨"SlidingFlaws$Reader", "isWord", "(Ljava/lang/String;I)Z"⟩, 5), (⟨"SlidingFlaws$Reader", "refuse", "(II)V"⟩, 5), (⟨"SlidingFlaws$Reader", "readNumbers", "(LSlidingFlaws$Crystal;I)V"⟩, 5), (⟨"SlidingFlaws$Reader", "readWay", "(LSlidingFlaws$Ways;)V"⟩, 5), (⟨"SlidingFlaws$Reader", "number", "(II)I"⟩, 5), (⟨"SlidingFlaws$Reader", "readPush", "(LSlidingFlaws$Ground;)V"⟩, 5), (⟨"SlidingFlaws$Reader", "readSpeck", "(LSlidingFlaws$Ground;)V"⟩, 5), (⟨"SlidingFlaws$Reader", "readSource", "(LSlidingFlaws$Ground;)V"⟩, 5), (⟨"SlidingFlaws$Reader", "readBase", "(LSlidingFlaws$Ground;)V"⟩, 5), (⟨"SlidingFlaws", "waysOf", "(I)LSlidingFlaws$Ways;"⟩, 10), (⟨"SlidingFlaws$Web", "remove", "(I)V"⟩, 14)]
theorem lw_r1 : ∀ q ∈ lw_privs_1, lw_okq q := List.forall_mem_cons.mpr ⟨lw_p0, List.forall_mem_cons.mpr ⟨lw_p1, List.forall_mem_cons.mpr ⟨lw_p2, List.forall_mem_cons.mpr ⟨lw_p3, List.forall_mem_cons.mpr ⟨lw_p4, List.forall_mem_cons.mpr ⟨lw_p5, List.forall_mem_cons.mpr ⟨lw_p6, List.forall_mem_cons.mpr ⟨lw_p7, List.forall_mem_cons.mpr ⟨lw_p8, List.forall_mem_cons.mpr ⟨lw_p9, List.forall_mem_cons.mpr ⟨lw_p10, List.forall_mem_cons.mpr ⟨lw_p11, List.forall_mem_cons.mpr ⟨lw_p12, List.forall_mem_cons.mpr ⟨lw_p13, List.forall_mem_cons.mpr ⟨lw_p14, List.forall_mem_cons.mpr ⟨lw_p15, fun _ h => absurd h List.not_mem_nil⟩⟩⟩⟩⟩⟩⟩⟩⟩⟩⟩⟩⟩⟩⟩⟩
theorem lw_p16 : lw_okq (⟨"SlidingFlaws$Web", "choose", "(IJ)I"⟩, 14) := ⟨⟨by decide +kernel, by decide +kernel⟩, List.mem_of_getElem? (i := 52) (by decide +kernel), List.mem_of_getElem? (i := 819) (by decide +kernel), List.mem_of_getElem? (i := 820) (by decide +kernel)⟩
theorem lw_p17 : lw_okq (⟨"SlidingFlaws$Web", "addUp", "(III)V"⟩, 14) := ⟨⟨by decide +kernel, by decide +kernel⟩, List.mem_of_getElem? (i := 52) (by decide +kernel), List.mem_of_getElem? (i := 823) (by decide +kernel), List.mem_of_getElem? (i := 824) (by decide +kernel)⟩
theorem lw_p18 : lw_okq (⟨"SlidingFlaws$Web", "worthAsOne", "(LSlidingFlaws$Ways;I)I"⟩, 14) := ⟨⟨by decide +kernel, by decide +kernel⟩, List.mem_of_getElem? (i := 52) (by decide +kernel), List.mem_of_getElem? (i := 831) (by decide +kernel), List.mem_of_getElem? (i := 832) (by decide +kernel)⟩
theorem lw_p19 : lw_okq (⟨"SlidingFlaws$Web", "findLeast", "(I)V"⟩, 14) := ⟨⟨by decide +kernel, by decide +kernel⟩, List.mem_of_getElem? (i := 52) (by decide +kernel), List.mem_of_getElem? (i := 835) (by decide +kernel), List.mem_of_getElem? (i := 836) (by decide +kernel)⟩
theorem lw_p20 : lw_okq (⟨"SlidingFlaws$Web", "nameGroups", "(II)V"⟩, 14) := ⟨⟨by decide +kernel, by decide +kernel⟩, List.mem_of_getElem? (i := 52) (by decide +kernel), List.mem_of_getElem? (i := 840) (by decide +kernel), List.mem_of_getElem? (i := 841) (by decide +kernel)⟩
theorem lw_p21 : lw_okq (⟨"SlidingFlaws", "shareIsTold", "(IIIII)Z"⟩, 10) := ⟨⟨by decide +kernel, by decide +kernel⟩, List.mem_of_getElem? (i := 21) (by decide +kernel), List.mem_of_getElem? (i := 856) (by decide +kernel), List.mem_of_getElem? (i := 857) (by decide +kernel)⟩
theorem lw_p22 : lw_okq (⟨"SlidingFlaws$Acts", "forgetOldest", "()V"⟩, 3) := ⟨⟨by decide +kernel, by decide +kernel⟩, List.mem_of_getElem? (i := 208) (by decide +kernel), List.mem_of_getElem? (i := 929) (by decide +kernel), List.mem_of_getElem? (i := 930) (by decide +kernel)⟩
theorem lw_p23 : lw_okq (⟨"SlidingFlaws$Row", "feelAll", "(LSlidingFlaws$Ground;I)I"⟩, 10) := ⟨⟨by decide +kernel, by decide +kernel⟩, List.mem_of_getElem? (i := 158) (by decide +kernel), List.mem_of_getElem? (i := 997) (by decide +kernel), List.mem_of_getElem? (i := 998) (by decide +kernel)⟩
theorem lw_p24 : lw_okq (⟨"SlidingFlaws$Row", "go", "(IJ)Z"⟩, 10) := ⟨⟨by decide +kernel, by decide +kernel⟩, List.mem_of_getElem? (i := 158) (by decide +kernel), List.mem_of_getElem? (i := 1003) (by decide +kernel), List.mem_of_getElem? (i := 1004) (by decide +kernel)⟩
theorem lw_p25 : lw_okq (⟨"SlidingFlaws$Row", "give", "(LSlidingFlaws$Ground;II)V"⟩, 10) := ⟨⟨by decide +kernel, by decide +kernel⟩, List.mem_of_getElem? (i := 158) (by decide +kernel), List.mem_of_getElem? (i := 1009) (by decide +kernel), List.mem_of_getElem? (i := 1010) (by decide +kernel)⟩
theorem lw_p26 : lw_okq (⟨"SlidingFlaws$Trials", "searchOfLength", "(LSlidingFlaws$Ground;III)Z"⟩, 12) := ⟨⟨by decide +kernel, by decide +kernel⟩, List.mem_of_getElem? (i := 228) (by decide +kernel), List.mem_of_getElem? (i := 1049) (by decide +kernel), List.mem_of_getElem? (i := 1050) (by decide +kernel)⟩
theorem lw_p27 : lw_okq (⟨"SlidingFlaws$Trials", "waysToPull", "(I)I"⟩, 12) := ⟨⟨by decide +kernel, by decide +kernel⟩, List.mem_of_getElem? (i := 228) (by decide +kernel), List.mem_of_getElem? (i := 1055) (by decide +kernel), List.mem_of_getElem? (i := 1056) (by decide +kernel)⟩
theorem lw_p28 : lw_okq (⟨"SlidingFlaws$Trials", "sumOfTried", "(I)I"⟩, 12) := ⟨⟨by decide +kernel, by decide +kernel⟩, List.mem_of_getElem? (i := 228) (by decide +kernel), List.mem_of_getElem? (i := 1059) (by decide +kernel), List.mem_of_getElem? (i := 1060) (by decide +kernel)⟩
theorem lw_p29 : lw_okq (⟨"SlidingFlaws$Trials", "nextTried", "(I)I"⟩, 12) := ⟨⟨by decide +kernel, by decide +kernel⟩, List.mem_of_getElem? (i := 228) (by decide +kernel), List.mem_of_getElem? (i := 1070) (by decide +kernel), List.mem_of_getElem? (i := 1071) (by decide +kernel)⟩
theorem lw_p30 : lw_okq (⟨"SlidingFlaws$Trials", "pushOf", "(II)I"⟩, 12) := ⟨⟨by decide +kernel, by decide +kernel⟩, List.mem_of_getElem? (i := 228) (by decide +kernel), List.mem_of_getElem? (i := 1101) (by decide +kernel), List.mem_of_getElem? (i := 1102) (by decide +kernel)⟩
theorem lw_p31 : lw_okq (⟨"SlidingFlaws$Crystal", "fittingSeenBy", "(I)I"⟩, 7) := ⟨⟨by decide +kernel, by decide +kernel⟩, List.mem_of_getElem? (i := 380) (by decide +kernel), List.mem_of_getElem? (i := 1164) (by decide +kernel), List.mem_of_getElem? (i := 1165) (by decide +kernel)⟩
def lw_privs_2 : List (MethodName × Nat) := [(⟨"SlidingFlaws$Web", "choose", "(IJ)I"⟩, 14), (⟨"SlidingFlaws$Web", "addUp", "(III)V"⟩, 14), (⟨"SlidingFlaws$Web", "worthAsOne", "(LSlidingFlaws$Ways;I)I"⟩, 14), (⟨"SlidingFlaws$Web", "findLeast", "(I)V"⟩, 14), (⟨"SlidingFlaws$Web", "nameGroups", "(II)V"⟩, 14), (⟨"SlidingFlaws", "shareIsTold", "(IIIII)Z"⟩, 10), (⟨"SlidingFlaws$Acts", "forgetOldest", "()V"⟩, 3), (⟨"SlidingFlaws$Row", "feelAll", "(LSlidingFlaws$Ground;I)I"⟩, 10), (⟨"SlidingFlaws$Row", "go", "(IJ)Z"⟩, 10), (⟨"SlidingFlaws$Row", "give", "(LSlidingFlaws$Ground;II)V"⟩, 10), (⟨"SlidingFlaws$Trials", "searchOfLength", "(LSlidingFlaws$Ground;III)Z"⟩, 12), (⟨"SlidingFlaws$Trials", "waysToPull", "(I)I"⟩, 12), (⟨"SlidingFlaws$Trials", "sumOfTried", "(I)I"⟩, 12), (⟨"SlidingFlaws$Trials", "nextTried", "(I)I"⟩, 12), (⟨"SlidingFlaws$Trials", "pushOf", "(II)I"⟩, 12), (⟨"SlidingFlaws$Crystal", "fittingSeenBy", "(I)I"⟩, 7)]
theorem lw_r2 : ∀ q ∈ lw_privs_2, lw_okq q := List.forall_mem_cons.mpr ⟨lw_p16, List.forall_mem_cons.mpr ⟨lw_p17, List.forall_mem_cons.mpr ⟨lw_p18, List.forall_mem_cons.mpr ⟨lw_p19, List.forall_mem_cons.mpr ⟨lw_p20, List.forall_mem_cons.mpr ⟨lw_p21, List.forall_mem_cons.mpr ⟨lw_p22, List.forall_mem_cons.mpr ⟨lw_p23, List.forall_mem_cons.mpr ⟨lw_p24, List.forall_mem_cons.mpr ⟨lw_p25, List.forall_mem_cons.mpr ⟨lw_p26, List.forall_mem_cons.mpr ⟨lw_p27, List.forall_mem_cons.mpr ⟨lw_p28, List.forall_mem_cons.mpr ⟨lw_p29, List.forall_mem_cons.mpr ⟨lw_p30, List.forall_mem_cons.mpr ⟨lw_p31, fun _ h => absurd h List.not_mem_nil⟩⟩⟩⟩⟩⟩⟩⟩⟩⟩⟩⟩⟩⟩⟩⟩
theorem lw_p32 : lw_okq (⟨"SlidingFlaws$Grain", "hardnessOf", "(I)J"⟩, 12) := ⟨⟨by decide +kernel, by decide +kernel⟩, List.mem_of_getElem? (i := 330) (by decide +kernel), List.mem_of_getElem? (i := 1210) (by decide +kernel), List.mem_of_getElem? (i := 1211) (by decide +kernel)⟩
theorem lw_p33 : lw_okq (⟨"SlidingFlaws$Grain", "tickAll", "(LSlidingFlaws$Ground;I)Z"⟩, 12) := ⟨⟨by decide +kernel, by decide +kernel⟩, List.mem_of_getElem? (i := 330) (by decide +kernel), List.mem_of_getElem? (i := 1241) (by decide +kernel), List.mem_of_getElem? (i := 1242) (by decide +kernel)⟩
theorem lw_p34 : lw_okq (⟨"SlidingFlaws$Grain", "goesOn", "(II)Z"⟩, 12) := ⟨⟨by decide +kernel, by decide +kernel⟩, List.mem_of_getElem? (i := 330) (by decide +kernel), List.mem_of_getElem? (i := 1294) (by decide +kernel), List.mem_of_getElem? (i := 1295) (by decide +kernel)⟩
theorem lw_p35 : lw_okq (⟨"SlidingFlawsModel", "put", "(I)V"⟩, 71) := ⟨⟨by decide +kernel, by decide +kernel⟩, List.mem_of_getElem? (i := 1355) (by decide +kernel), List.mem_of_getElem? (i := 1578) (by decide +kernel), List.mem_of_getElem? (i := 1579) (by decide +kernel)⟩
theorem lw_p36 : lw_okq (⟨"SlidingFlawsModel", "blanks", "()V"⟩, 71) := ⟨⟨by decide +kernel, by decide +kernel⟩, List.mem_of_getElem? (i := 1355) (by decide +kernel), List.mem_of_getElem? (i := 1590) (by decide +kernel), List.mem_of_getElem? (i := 1591) (by decide +kernel)⟩
theorem lw_p37 : lw_okq (⟨"SlidingFlawsModel", "sign", "()I"⟩, 71) := ⟨⟨by decide +kernel, by decide +kernel⟩, List.mem_of_getElem? (i := 1355) (by decide +kernel), List.mem_of_getElem? (i := 1594) (by decide +kernel), List.mem_of_getElem? (i := 1595) (by decide +kernel)⟩
theorem lw_p38 : lw_okq (⟨"SlidingFlawsModel", "word", "(I)I"⟩, 71) := ⟨⟨by decide +kernel, by decide +kernel⟩, List.mem_of_getElem? (i := 1355) (by decide +kernel), List.mem_of_getElem? (i := 1598) (by decide +kernel), List.mem_of_getElem? (i := 1599) (by decide +kernel)⟩
theorem lw_p39 : lw_okq (⟨"SlidingFlawsModel", "is", "(Ljava/lang/String;I)Z"⟩, 71) := ⟨⟨by decide +kernel, by decide +kernel⟩, List.mem_of_getElem? (i := 1355) (by decide +kernel), List.mem_of_getElem? (i := 1612) (by decide +kernel), List.mem_of_getElem? (i := 1613) (by decide +kernel)⟩
theorem lw_p40 : lw_okq (⟨"SlidingFlawsModel", "fails", "(II)V"⟩, 71) := ⟨⟨by decide +kernel, by decide +kernel⟩, List.mem_of_getElem? (i := 1355) (by decide +kernel), List.mem_of_getElem? (i := 1618) (by decide +kernel), List.mem_of_getElem? (i := 1619) (by decide +kernel)⟩
theorem lw_p41 : lw_okq (⟨"SlidingFlawsModel", "statement", "(I)V"⟩, 71) := ⟨⟨by decide +kernel, by decide +kernel⟩, List.mem_of_getElem? (i := 1355) (by decide +kernel), List.mem_of_getElem? (i := 1625) (by decide +kernel), List.mem_of_getElem? (i := 1626) (by decide +kernel)⟩
theorem lw_p42 : lw_okq (⟨"SlidingFlawsModel", "wayIn", "(I)V"⟩, 71) := ⟨⟨by decide +kernel, by decide +kernel⟩, List.mem_of_getElem? (i := 1355) (by decide +kernel), List.mem_of_getElem? (i := 1629) (by decide +kernel), List.mem_of_getElem? (i := 1630) (by decide +kernel)⟩
theorem lw_p43 : lw_okq (⟨"SlidingFlawsModel", "number", "(II)I"⟩, 71) := ⟨⟨by decide +kernel, by decide +kernel⟩, List.mem_of_getElem? (i := 1355) (by decide +kernel), List.mem_of_getElem? (i := 1633) (by decide +kernel), List.mem_of_getElem? (i := 1634) (by decide +kernel)⟩
theorem lw_p44 : lw_okq (⟨"SlidingFlawsModel", "comes", "()V"⟩, 71) := ⟨⟨by decide +kernel, by decide +kernel⟩, List.mem_of_getElem? (i := 1355) (by decide +kernel), List.mem_of_getElem? (i := 1643) (by decide +kernel), List.mem_of_getElem? (i := 1644) (by decide +kernel)⟩
theorem lw_p45 : lw_okq (⟨"SlidingFlawsModel", "isTold", "(II)Z"⟩, 71) := ⟨⟨by decide +kernel, by decide +kernel⟩, List.mem_of_getElem? (i := 1355) (by decide +kernel), List.mem_of_getElem? (i := 1651) (by decide +kernel), List.mem_of_getElem? (i := 1652) (by decide +kernel)⟩
theorem lw_p46 : lw_okq (⟨"SlidingFlawsModel", "holdAt", "(II)I"⟩, 71) := ⟨⟨by decide +kernel, by decide +kernel⟩, List.mem_of_getElem? (i := 1355) (by decide +kernel), List.mem_of_getElem? (i := 1663) (by decide +kernel), List.mem_of_getElem? (i := 1664) (by decide +kernel)⟩
theorem lw_p47 : lw_okq (⟨"SlidingFlawsModel", "isKnot", "(I)Z"⟩, 71) := ⟨⟨by decide +kernel, by decide +kernel⟩, List.mem_of_getElem? (i := 1355) (by decide +kernel), List.mem_of_getElem? (i := 1675) (by decide +kernel), List.mem_of_getElem? (i := 1676) (by decide +kernel)⟩
def lw_privs_3 : List (MethodName × Nat) := [(⟨"SlidingFlaws$Grain", "hardnessOf", "(I)J"⟩, 12), (⟨"SlidingFlaws$Grain", "tickAll", "(LSlidingFlaws$Ground;I)Z"⟩, 12), (⟨"SlidingFlaws$Grain", "goesOn", "(II)Z"⟩, 12), (⟨"SlidingFlawsModel", "put", "(I)V"⟩, 71), (⟨"SlidingFlawsModel", "blanks", "()V"⟩, 71), (⟨"SlidingFlawsModel", "sign", "()I"⟩, 71), (⟨"SlidingFlawsModel", "word", "(I)I"⟩, 71), (⟨"SlidingFlawsModel", "is", "(Ljava/lang/String;I)Z"⟩, 71), (⟨"SlidingFlawsModel", "fails", "(II)V"⟩, 71), (⟨"SlidingFlawsModel", "statement", "(I)V"⟩, 71), (⟨"SlidingFlawsModel", "wayIn", "(I)V"⟩, 71), (⟨"SlidingFlawsModel", "number", "(II)I"⟩, 71), (⟨"SlidingFlawsModel", "comes", "()V"⟩, 71), (⟨"SlidingFlawsModel", "isTold", "(II)Z"⟩, 71), (⟨"SlidingFlawsModel", "holdAt", "(II)I"⟩, 71), (⟨"SlidingFlawsModel", "isKnot", "(I)Z"⟩, 71)]
theorem lw_r3 : ∀ q ∈ lw_privs_3, lw_okq q := List.forall_mem_cons.mpr ⟨lw_p32, List.forall_mem_cons.mpr ⟨lw_p33, List.forall_mem_cons.mpr ⟨lw_p34, List.forall_mem_cons.mpr ⟨lw_p35, List.forall_mem_cons.mpr ⟨lw_p36, List.forall_mem_cons.mpr ⟨lw_p37, List.forall_mem_cons.mpr ⟨lw_p38, List.forall_mem_cons.mpr ⟨lw_p39, List.forall_mem_cons.mpr ⟨lw_p40, List.forall_mem_cons.mpr ⟨lw_p41, List.forall_mem_cons.mpr ⟨lw_p42, List.forall_mem_cons.mpr ⟨lw_p43, List.forall_mem_cons.mpr ⟨lw_p44, List.forall_mem_cons.mpr ⟨lw_p45, List.forall_mem_cons.mpr ⟨lw_p46, List.forall_mem_cons.mpr ⟨lw_p47, fun _ h => absurd h List.not_mem_nil⟩⟩⟩⟩⟩⟩⟩⟩⟩⟩⟩⟩⟩⟩⟩⟩
theorem lw_p48 : lw_okq (⟨"SlidingFlawsModel", "lineIn", "(IIIII)I"⟩, 71) := ⟨⟨by decide +kernel, by decide +kernel⟩, List.mem_of_getElem? (i := 1355) (by decide +kernel), List.mem_of_getElem? (i := 1679) (by decide +kernel), List.mem_of_getElem? (i := 1680) (by decide +kernel)⟩
theorem lw_p49 : lw_okq (⟨"SlidingFlawsModel", "isLine", "(I)Z"⟩, 71) := ⟨⟨by decide +kernel, by decide +kernel⟩, List.mem_of_getElem? (i := 1355) (by decide +kernel), List.mem_of_getElem? (i := 1687) (by decide +kernel), List.mem_of_getElem? (i := 1688) (by decide +kernel)⟩
theorem lw_p50 : lw_okq (⟨"SlidingFlawsModel", "worth", "(I)I"⟩, 71) := ⟨⟨by decide +kernel, by decide +kernel⟩, List.mem_of_getElem? (i := 1355) (by decide +kernel), List.mem_of_getElem? (i := 1691) (by decide +kernel), List.mem_of_getElem? (i := 1692) (by decide +kernel)⟩
theorem lw_p51 : lw_okq (⟨"SlidingFlawsModel", "sumAt", "(II)I"⟩, 71) := ⟨⟨by decide +kernel, by decide +kernel⟩, List.mem_of_getElem? (i := 1355) (by decide +kernel), List.mem_of_getElem? (i := 1702) (by decide +kernel), List.mem_of_getElem? (i := 1703) (by decide +kernel)⟩
theorem lw_p52 : lw_okq (⟨"SlidingFlawsModel", "isStep", "(III)Z"⟩, 71) := ⟨⟨by decide +kernel, by decide +kernel⟩, List.mem_of_getElem? (i := 1355) (by decide +kernel), List.mem_of_getElem? (i := 1719) (by decide +kernel), List.mem_of_getElem? (i := 1720) (by decide +kernel)⟩
theorem lw_p53 : lw_okq (⟨"SlidingFlawsModel", "costOf", "(III)I"⟩, 71) := ⟨⟨by decide +kernel, by decide +kernel⟩, List.mem_of_getElem? (i := 1355) (by decide +kernel), List.mem_of_getElem? (i := 1727) (by decide +kernel), List.mem_of_getElem? (i := 1728) (by decide +kernel)⟩
theorem lw_p54 : lw_okq (⟨"SlidingFlawsModel", "isIn", "(II)Z"⟩, 71) := ⟨⟨by decide +kernel, by decide +kernel⟩, List.mem_of_getElem? (i := 1355) (by decide +kernel), List.mem_of_getElem? (i := 1743) (by decide +kernel), List.mem_of_getElem? (i := 1744) (by decide +kernel)⟩
theorem lw_p55 : lw_okq (⟨"SlidingFlawsModel", "along", "(IIIII)I"⟩, 71) := ⟨⟨by decide +kernel, by decide +kernel⟩, List.mem_of_getElem? (i := 1355) (by decide +kernel), List.mem_of_getElem? (i := 1747) (by decide +kernel), List.mem_of_getElem? (i := 1748) (by decide +kernel)⟩
theorem lw_p56 : lw_okq (⟨"SlidingFlawsModel", "above", "(IIIII)J"⟩, 71) := ⟨⟨by decide +kernel, by decide +kernel⟩, List.mem_of_getElem? (i := 1355) (by decide +kernel), List.mem_of_getElem? (i := 1752) (by decide +kernel), List.mem_of_getElem? (i := 1753) (by decide +kernel)⟩
theorem lw_p57 : lw_okq (⟨"SlidingFlawsModel", "below", "(IIIII)J"⟩, 71) := ⟨⟨by decide +kernel, by decide +kernel⟩, List.mem_of_getElem? (i := 1355) (by decide +kernel), List.mem_of_getElem? (i := 1756) (by decide +kernel), List.mem_of_getElem? (i := 1757) (by decide +kernel)⟩
theorem lw_p58 : lw_okq (⟨"SlidingFlawsModel", "squareOf", "(II)I"⟩, 71) := ⟨⟨by decide +kernel, by decide +kernel⟩, List.mem_of_getElem? (i := 1355) (by decide +kernel), List.mem_of_getElem? (i := 1760) (by decide +kernel), List.mem_of_getElem? (i := 1761) (by decide +kernel)⟩
theorem lw_p59 : lw_okq (⟨"SlidingFlawsModel", "compares", "(IIIII)I"⟩, 71) := ⟨⟨by decide +kernel, by decide +kernel⟩, List.mem_of_getElem? (i := 1355) (by decide +kernel), List.mem_of_getElem? (i := 1772) (by decide +kernel), List.mem_of_getElem? (i := 1773) (by decide +kernel)⟩
theorem lw_p60 : lw_okq (⟨"SlidingFlawsModel", "takes", "([II[JI)V"⟩, 71) := ⟨⟨by decide +kernel, by decide +kernel⟩, List.mem_of_getElem? (i := 1355) (by decide +kernel), List.mem_of_getElem? (i := 1780) (by decide +kernel), List.mem_of_getElem? (i := 1781) (by decide +kernel)⟩
theorem lw_p61 : lw_okq (⟨"SlidingFlawsModel", "keeps", "([II[JI)V"⟩, 71) := ⟨⟨by decide +kernel, by decide +kernel⟩, List.mem_of_getElem? (i := 1355) (by decide +kernel), List.mem_of_getElem? (i := 1784) (by decide +kernel), List.mem_of_getElem? (i := 1785) (by decide +kernel)⟩
theorem lw_p62 : lw_okq (⟨"SlidingFlawsModel", "remembers", "()V"⟩, 71) := ⟨⟨by decide +kernel, by decide +kernel⟩, List.mem_of_getElem? (i := 1355) (by decide +kernel), List.mem_of_getElem? (i := 1792) (by decide +kernel), List.mem_of_getElem? (i := 1793) (by decide +kernel)⟩
theorem lw_p63 : lw_okq (⟨"SlidingFlawsModel", "atHand", "()V"⟩, 71) := ⟨⟨by decide +kernel, by decide +kernel⟩, List.mem_of_getElem? (i := 1355) (by decide +kernel), List.mem_of_getElem? (i := 1800) (by decide +kernel), List.mem_of_getElem? (i := 1801) (by decide +kernel)⟩
def lw_privs_4 : List (MethodName × Nat) := [(⟨"SlidingFlawsModel", "lineIn", "(IIIII)I"⟩, 71), (⟨"SlidingFlawsModel", "isLine", "(I)Z"⟩, 71), (⟨"SlidingFlawsModel", "worth", "(I)I"⟩, 71), (⟨"SlidingFlawsModel", "sumAt", "(II)I"⟩, 71), (⟨"SlidingFlawsModel", "isStep", "(III)Z"⟩, 71), (⟨"SlidingFlawsModel", "costOf", "(III)I"⟩, 71), (⟨"SlidingFlawsModel", "isIn", "(II)Z"⟩, 71), (⟨"SlidingFlawsModel", "along", "(IIIII)I"⟩, 71), (⟨"SlidingFlawsModel", "above", "(IIIII)J"⟩, 71), (⟨"SlidingFlawsModel", "below", "(IIIII)J"⟩, 71), (⟨"SlidingFlawsModel", "squareOf", "(II)I"⟩, 71), (⟨"SlidingFlawsModel", "compares", "(IIIII)I"⟩, 71), (⟨"SlidingFlawsModel", "takes", "([II[JI)V"⟩, 71), (⟨"SlidingFlawsModel", "keeps", "([II[JI)V"⟩, 71), (⟨"SlidingFlawsModel", "remembers", "()V"⟩, 71), (⟨"SlidingFlawsModel", "atHand", "()V"⟩, 71)]
theorem lw_r4 : ∀ q ∈ lw_privs_4, lw_okq q := List.forall_mem_cons.mpr ⟨lw_p48, List.forall_mem_cons.mpr ⟨lw_p49, List.forall_mem_cons.mpr ⟨lw_p50, List.forall_mem_cons.mpr ⟨lw_p51, List.forall_mem_cons.mpr ⟨lw_p52, List.forall_mem_cons.mpr ⟨lw_p53, List.forall_mem_cons.mpr ⟨lw_p54, List.forall_mem_cons.mpr ⟨lw_p55, List.forall_mem_cons.mpr ⟨lw_p56, List.forall_mem_cons.mpr ⟨lw_p57, List.forall_mem_cons.mpr ⟨lw_p58, List.forall_mem_cons.mpr ⟨lw_p59, List.forall_mem_cons.mpr ⟨lw_p60, List.forall_mem_cons.mpr ⟨lw_p61, List.forall_mem_cons.mpr ⟨lw_p62, List.forall_mem_cons.mpr ⟨lw_p63, fun _ h => absurd h List.not_mem_nil⟩⟩⟩⟩⟩⟩⟩⟩⟩⟩⟩⟩⟩⟩⟩⟩
theorem lw_p64 : lw_okq (⟨"SlidingFlawsModel", "pushesAsRead", "()V"⟩, 71) := ⟨⟨by decide +kernel, by decide +kernel⟩, List.mem_of_getElem? (i := 1355) (by decide +kernel), List.mem_of_getElem? (i := 1804) (by decide +kernel), List.mem_of_getElem? (i := 1805) (by decide +kernel)⟩
theorem lw_p65 : lw_okq (⟨"SlidingFlawsModel", "flaws", "()I"⟩, 71) := ⟨⟨by decide +kernel, by decide +kernel⟩, List.mem_of_getElem? (i := 1355) (by decide +kernel), List.mem_of_getElem? (i := 1808) (by decide +kernel), List.mem_of_getElem? (i := 1809) (by decide +kernel)⟩
theorem lw_p66 : lw_okq (⟨"SlidingFlawsModel", "act", "()V"⟩, 71) := ⟨⟨by decide +kernel, by decide +kernel⟩, List.mem_of_getElem? (i := 1355) (by decide +kernel), List.mem_of_getElem? (i := 1812) (by decide +kernel), List.mem_of_getElem? (i := 1813) (by decide +kernel)⟩
theorem lw_p67 : lw_okq (⟨"SlidingFlawsModel", "feels", "(III)I"⟩, 71) := ⟨⟨by decide +kernel, by decide +kernel⟩, List.mem_of_getElem? (i := 1355) (by decide +kernel), List.mem_of_getElem? (i := 1824) (by decide +kernel), List.mem_of_getElem? (i := 1825) (by decide +kernel)⟩
theorem lw_p68 : lw_okq (⟨"SlidingFlawsModel", "runs", "(III)I"⟩, 71) := ⟨⟨by decide +kernel, by decide +kernel⟩, List.mem_of_getElem? (i := 1355) (by decide +kernel), List.mem_of_getElem? (i := 1844) (by decide +kernel), List.mem_of_getElem? (i := 1845) (by decide +kernel)⟩
theorem lw_p69 : lw_okq (⟨"SlidingFlawsModel", "tick", "(III)Z"⟩, 71) := ⟨⟨by decide +kernel, by decide +kernel⟩, List.mem_of_getElem? (i := 1355) (by decide +kernel), List.mem_of_getElem? (i := 1848) (by decide +kernel), List.mem_of_getElem? (i := 1849) (by decide +kernel)⟩
theorem lw_p70 : lw_okq (⟨"SlidingFlawsModel", "goes", "(II)Z"⟩, 71) := ⟨⟨by decide +kernel, by decide +kernel⟩, List.mem_of_getElem? (i := 1355) (by decide +kernel), List.mem_of_getElem? (i := 1852) (by decide +kernel), List.mem_of_getElem? (i := 1853) (by decide +kernel)⟩
theorem lw_p71 : lw_okq (⟨"SlidingFlawsModel", "isAs", "([I)Z"⟩, 71) := ⟨⟨by decide +kernel, by decide +kernel⟩, List.mem_of_getElem? (i := 1355) (by decide +kernel), List.mem_of_getElem? (i := 1861) (by decide +kernel), List.mem_of_getElem? (i := 1862) (by decide +kernel)⟩
theorem lw_p72 : lw_okq (⟨"SlidingFlawsModel", "fitsSights", "(I)Z"⟩, 71) := ⟨⟨by decide +kernel, by decide +kernel⟩, List.mem_of_getElem? (i := 1355) (by decide +kernel), List.mem_of_getElem? (i := 1905) (by decide +kernel), List.mem_of_getElem? (i := 1906) (by decide +kernel)⟩
theorem lw_p73 : lw_okq (⟨"SlidingFlawsModel", "isSeen", "(II)Z"⟩, 71) := ⟨⟨by decide +kernel, by decide +kernel⟩, List.mem_of_getElem? (i := 1355) (by decide +kernel), List.mem_of_getElem? (i := 1909) (by decide +kernel), List.mem_of_getElem? (i := 1910) (by decide +kernel)⟩
theorem lw_p74 : lw_okq (⟨"SlidingFlawsModel", "isSystem", "(I)Z"⟩, 71) := ⟨⟨by decide +kernel, by decide +kernel⟩, List.mem_of_getElem? (i := 1355) (by decide +kernel), List.mem_of_getElem? (i := 1930) (by decide +kernel), List.mem_of_getElem? (i := 1931) (by decide +kernel)⟩
theorem lw_p75 : lw_okq (⟨"SlidingFlawsModel", "harderOf", "(I)I"⟩, 71) := ⟨⟨by decide +kernel, by decide +kernel⟩, List.mem_of_getElem? (i := 1355) (by decide +kernel), List.mem_of_getElem? (i := 1939) (by decide +kernel), List.mem_of_getElem? (i := 1940) (by decide +kernel)⟩
theorem lw_p76 : lw_okq (⟨"SlidingFlawsModel", "pulledOn", "(IIIII)I"⟩, 71) := ⟨⟨by decide +kernel, by decide +kernel⟩, List.mem_of_getElem? (i := 1355) (by decide +kernel), List.mem_of_getElem? (i := 1948) (by decide +kernel), List.mem_of_getElem? (i := 1949) (by decide +kernel)⟩
theorem lw_p77 : lw_okq (⟨"SlidingFlawsModel", "alongOf", "(IIII)J"⟩, 71) := ⟨⟨by decide +kernel, by decide +kernel⟩, List.mem_of_getElem? (i := 1355) (by decide +kernel), List.mem_of_getElem? (i := 1952) (by decide +kernel), List.mem_of_getElem? (i := 1953) (by decide +kernel)⟩
theorem lw_p78 : lw_okq (⟨"SlidingFlawsModel", "loads", "(IIIIII)I"⟩, 71) := ⟨⟨by decide +kernel, by decide +kernel⟩, List.mem_of_getElem? (i := 1355) (by decide +kernel), List.mem_of_getElem? (i := 1961) (by decide +kernel), List.mem_of_getElem? (i := 1962) (by decide +kernel)⟩
theorem lw_p79 : lw_okq (⟨"SlidingFlawsModel", "steps", "(IIIII)Z"⟩, 71) := ⟨⟨by decide +kernel, by decide +kernel⟩, List.mem_of_getElem? (i := 1355) (by decide +kernel), List.mem_of_getElem? (i := 1965) (by decide +kernel), List.mem_of_getElem? (i := 1966) (by decide +kernel)⟩
def lw_privs_5 : List (MethodName × Nat) := [(⟨"SlidingFlawsModel", "pushesAsRead", "()V"⟩, 71), (⟨"SlidingFlawsModel", "flaws", "()I"⟩, 71), (⟨"SlidingFlawsModel", "act", "()V"⟩, 71), (⟨"SlidingFlawsModel", "feels", "(III)I"⟩, 71), (⟨"SlidingFlawsModel", "runs", "(III)I"⟩, 71), (⟨"SlidingFlawsModel", "tick", "(III)Z"⟩, 71), (⟨"SlidingFlawsModel", "goes", "(II)Z"⟩, 71), (⟨"SlidingFlawsModel", "isAs", "([I)Z"⟩, 71), (⟨"SlidingFlawsModel", "fitsSights", "(I)Z"⟩, 71), (⟨"SlidingFlawsModel", "isSeen", "(II)Z"⟩, 71), (⟨"SlidingFlawsModel", "isSystem", "(I)Z"⟩, 71), (⟨"SlidingFlawsModel", "harderOf", "(I)I"⟩, 71), (⟨"SlidingFlawsModel", "pulledOn", "(IIIII)I"⟩, 71), (⟨"SlidingFlawsModel", "alongOf", "(IIII)J"⟩, 71), (⟨"SlidingFlawsModel", "loads", "(IIIIII)I"⟩, 71), (⟨"SlidingFlawsModel", "steps", "(IIIII)Z"⟩, 71)]
theorem lw_r5 : ∀ q ∈ lw_privs_5, lw_okq q := List.forall_mem_cons.mpr ⟨lw_p64, List.forall_mem_cons.mpr ⟨lw_p65, List.forall_mem_cons.mpr ⟨lw_p66, List.forall_mem_cons.mpr ⟨lw_p67, List.forall_mem_cons.mpr ⟨lw_p68, List.forall_mem_cons.mpr ⟨lw_p69, List.forall_mem_cons.mpr ⟨lw_p70, List.forall_mem_cons.mpr ⟨lw_p71, List.forall_mem_cons.mpr ⟨lw_p72, List.forall_mem_cons.mpr ⟨lw_p73, List.forall_mem_cons.mpr ⟨lw_p74, List.forall_mem_cons.mpr ⟨lw_p75, List.forall_mem_cons.mpr ⟨lw_p76, List.forall_mem_cons.mpr ⟨lw_p77, List.forall_mem_cons.mpr ⟨lw_p78, List.forall_mem_cons.mpr ⟨lw_p79, fun _ h => absurd h List.not_mem_nil⟩⟩⟩⟩⟩⟩⟩⟩⟩⟩⟩⟩⟩⟩⟩⟩
theorem lw_p80 : lw_okq (⟨"SlidingFlawsModel", "strainOf", "(III)J"⟩, 71) := ⟨⟨by decide +kernel, by decide +kernel⟩, List.mem_of_getElem? (i := 1355) (by decide +kernel), List.mem_of_getElem? (i := 1973) (by decide +kernel), List.mem_of_getElem? (i := 1974) (by decide +kernel)⟩
theorem lw_p81 : lw_okq (⟨"SlidingFlawsModel", "wallFrom", "(II)I"⟩, 71) := ⟨⟨by decide +kernel, by decide +kernel⟩, List.mem_of_getElem? (i := 1355) (by decide +kernel), List.mem_of_getElem? (i := 1994) (by decide +kernel), List.mem_of_getElem? (i := 1995) (by decide +kernel)⟩
theorem lw_p82 : lw_okq (⟨"SlidingFlawsModel", "shieldAt", "(I)I"⟩, 71) := ⟨⟨by decide +kernel, by decide +kernel⟩, List.mem_of_getElem? (i := 1355) (by decide +kernel), List.mem_of_getElem? (i := 2007) (by decide +kernel), List.mem_of_getElem? (i := 2008) (by decide +kernel)⟩
def lw_privs_6 : List (MethodName × Nat) := [(⟨"SlidingFlawsModel", "strainOf", "(III)J"⟩, 71), (⟨"SlidingFlawsModel", "wallFrom", "(II)I"⟩, 71), (⟨"SlidingFlawsModel", "shieldAt", "(I)I"⟩, 71)]
theorem lw_r6 : ∀ q ∈ lw_privs_6, lw_okq q := List.forall_mem_cons.mpr ⟨lw_p80, List.forall_mem_cons.mpr ⟨lw_p81, List.forall_mem_cons.mpr ⟨lw_p82, fun _ h => absurd h List.not_mem_nil⟩⟩⟩
def lw_privs : List (MethodName × Nat) := lw_privs_1 ++ (lw_privs_2 ++ (lw_privs_3 ++ (lw_privs_4 ++ (lw_privs_5 ++ (lw_privs_6)))))
def lw_tbl : List Cond := k2_sels lw_privs ++ tables_1
theorem lw_privs_ok : ∀ q ∈ lw_privs, lw_okq q := by
  show ∀ q ∈ lw_privs_1 ++ (lw_privs_2 ++ (lw_privs_3 ++ (lw_privs_4 ++ (lw_privs_5 ++ (lw_privs_6))))), lw_okq q
  exact List.forall_mem_append.mpr ⟨lw_r1, List.forall_mem_append.mpr ⟨lw_r2, List.forall_mem_append.mpr ⟨lw_r3, List.forall_mem_append.mpr ⟨lw_r4, List.forall_mem_append.mpr ⟨lw_r5, lw_r6⟩⟩⟩⟩⟩

/-! ===== BEGIN printed: names, fields, word lists, decode rows ===== -/
def RX0 : String := "SlidingFlaws$Acts"
def TX0 : u_T := fun k => match k with
  | 0 => ("SlidingFlaws$Acts", "kept", "[LSlidingFlaws$Row;", true)
  | 1 => ("SlidingFlaws$Acts", "now", "I", false)
  | _ => ("SlidingFlaws$Acts", "last", "I", false)
def tyX0 : Nat → FieldType := fun k => match k with
  | 0 => .array (.object "SlidingFlaws$Row")
  | 1 => .int
  | _ => .int
abbrev wsX00 : List Cond := u_ws RX0 TX0 3
theorem nmX0 : ∀ a, a < 3 → ∀ b, b < 3 → a ≠ b → (TX0 a).2.1 ≠ (TX0 b).2.1 := by decide +kernel
theorem tyX0_ok : ∀ k, k < 3 → parseFieldDescriptor (TX0 k).2.2.1 = some (tyX0 k) := by decide +kernel
abbrev cX0_init : ByteArray := prog_2_method_1_code
def yX0_init : MethodName := ⟨RX0, "<init>", "()V"⟩
abbrev cX0_keep : ByteArray := prog_2_method_2_code
def yX0_keep : MethodName := ⟨RX0, "keep", "(LSlidingFlaws$Row;)V"⟩
abbrev cX0_forgetOldest : ByteArray := prog_2_method_3_code
def yX0_forgetOldest : MethodName := ⟨RX0, "forgetOldest", "()V"⟩
abbrev cX0_goBack : ByteArray := prog_2_method_4_code
def yX0_goBack : MethodName := ⟨RX0, "goBack", "(LSlidingFlaws$Row;)Z"⟩
abbrev cX0_goOn : ByteArray := prog_2_method_5_code
def yX0_goOn : MethodName := ⟨RX0, "goOn", "(LSlidingFlaws$Row;)Z"⟩
def RX1 : String := "SlidingFlaws$Crystal"
def TX1 : u_T := fun k => match k with
  | 0 => ("SlidingFlaws$Crystal", "steps", "LSlidingFlaws$Ways;", true)
  | 1 => ("SlidingFlaws$Crystal", "planes", "LSlidingFlaws$Ways;", true)
  | 2 => ("SlidingFlaws$Crystal", "eyes", "LSlidingFlaws$Ways;", true)
  | 3 => ("SlidingFlaws$Crystal", "ground", "LSlidingFlaws$Ground;", true)
  | 4 => ("SlidingFlaws$Crystal", "sightEyes", "[I", true)
  | 5 => ("SlidingFlaws$Crystal", "sightSeen", "[Z", true)
  | _ => ("SlidingFlaws$Crystal", "sightMany", "I", false)
def tyX1 : Nat → FieldType := fun k => match k with
  | 0 => .object "SlidingFlaws$Ways"
  | 1 => .object "SlidingFlaws$Ways"
  | 2 => .object "SlidingFlaws$Ways"
  | 3 => .object "SlidingFlaws$Ground"
  | 4 => .array .int
  | 5 => .array .boolean
  | _ => .int
abbrev wsX10 : List Cond := u_ws RX1 TX1 7
theorem nmX1 : ∀ a, a < 7 → ∀ b, b < 7 → a ≠ b → (TX1 a).2.1 ≠ (TX1 b).2.1 := by decide +kernel
theorem tyX1_ok : ∀ k, k < 7 → parseFieldDescriptor (TX1 k).2.2.1 = some (tyX1 k) := by decide +kernel
abbrev cX1_init : ByteArray := prog_3_method_1_code
def yX1_init : MethodName := ⟨RX1, "<init>", "()V"⟩
abbrev cX1_drop : ByteArray := prog_3_method_2_code
def yX1_drop : MethodName := ⟨RX1, "drop", "()V"⟩
abbrev cX1_addSight : ByteArray := prog_3_method_3_code
def yX1_addSight : MethodName := ⟨RX1, "addSight", "(IZ)I"⟩
abbrev cX1_dropSights : ByteArray := prog_3_method_4_code
def yX1_dropSights : MethodName := ⟨RX1, "dropSights", "()I"⟩
abbrev cX1_isSeenBy : ByteArray := prog_3_method_5_code
def yX1_isSeenBy : MethodName := ⟨RX1, "isSeenBy", "(II)Z"⟩
abbrev cX1_fitsSights : ByteArray := prog_3_method_6_code
def yX1_fitsSights : MethodName := ⟨RX1, "fitsSights", "(I)Z"⟩
abbrev cX1_fitting : ByteArray := prog_3_method_7_code
def yX1_fitting : MethodName := ⟨RX1, "fitting", "(I)I"⟩
abbrev cX1_bestEye : ByteArray := prog_3_method_8_code
def yX1_bestEye : MethodName := ⟨RX1, "bestEye", "()I"⟩
abbrev cX1_fittingSeenBy : ByteArray := prog_3_method_9_code
def yX1_fittingSeenBy : MethodName := ⟨RX1, "fittingSeenBy", "(I)I"⟩
def RX2 : String := "SlidingFlaws$Grain"
def TX2 : u_T := fun k => match k with
  | 0 => ("SlidingFlaws$Grain", "rows", "[LSlidingFlaws$Row;", true)
  | 1 => ("SlidingFlaws$Grain", "planes", "LSlidingFlaws$Ways;", true)
  | 2 => ("SlidingFlaws$Grain", "steps", "LSlidingFlaws$Ways;", true)
  | 3 => ("SlidingFlaws$Grain", "hardnesses", "[J", true)
  | 4 => ("SlidingFlaws$Grain", "forces", "[I", true)
  | 5 => ("SlidingFlaws$Grain", "points", "[J", true)
  | 6 => ("SlidingFlaws$Grain", "many", "I", false)
  | 7 => ("SlidingFlaws$Grain", "ownPart", "I", false)
  | 8 => ("SlidingFlaws$Grain", "crossPart", "I", false)
  | 9 => ("SlidingFlaws$Grain", "pointMany", "I", false)
  | 10 => ("SlidingFlaws$Grain", "wallFirst", "I", false)
  | _ => ("SlidingFlaws$Grain", "wallSize", "I", false)
def tyX2 : Nat → FieldType := fun k => match k with
  | 0 => .array (.object "SlidingFlaws$Row")
  | 1 => .object "SlidingFlaws$Ways"
  | 2 => .object "SlidingFlaws$Ways"
  | 3 => .array .long
  | 4 => .array .int
  | 5 => .array .long
  | 6 => .int
  | 7 => .int
  | 8 => .int
  | 9 => .int
  | 10 => .int
  | _ => .int
abbrev wsX20 : List Cond := u_ws RX2 TX2 12
theorem nmX2 : ∀ a, a < 12 → ∀ b, b < 12 → a ≠ b → (TX2 a).2.1 ≠ (TX2 b).2.1 := by decide +kernel
theorem tyX2_ok : ∀ k, k < 12 → parseFieldDescriptor (TX2 k).2.2.1 = some (tyX2 k) := by decide +kernel
abbrev cX2_init : ByteArray := prog_4_method_1_code
def yX2_init : MethodName := ⟨RX2, "<init>", "()V"⟩
abbrev cX2_has : ByteArray := prog_4_method_2_code
def yX2_has : MethodName := ⟨RX2, "has", "(I)Z"⟩
abbrev cX2_newSystem : ByteArray := prog_4_method_3_code
def yX2_newSystem : MethodName := ⟨RX2, "newSystem", "(LSlidingFlaws$Crystal;II)I"⟩
abbrev cX2_tellHardening : ByteArray := prog_4_method_4_code
def yX2_tellHardening : MethodName := ⟨RX2, "tellHardening", "(II)Z"⟩
abbrev cX2_bring : ByteArray := prog_4_method_5_code
def yX2_bring : MethodName := ⟨RX2, "bring", "(III)Z"⟩
abbrev cX2_tellSystem : ByteArray := prog_4_method_6_code
def yX2_tellSystem : MethodName := ⟨RX2, "tellSystem", "(II)J"⟩
abbrev cX2_hardnessOf : ByteArray := prog_4_method_7_code
def yX2_hardnessOf : MethodName := ⟨RX2, "hardnessOf", "(I)J"⟩
abbrev cX2_forceOn : ByteArray := prog_4_method_8_code
def yX2_forceOn : MethodName := ⟨RX2, "forceOn", "(LSlidingFlaws$Pull;II)I"⟩
abbrev cX2_loadBy : ByteArray := prog_4_method_9_code
def yX2_loadBy : MethodName := ⟨RX2, "loadBy", "(LSlidingFlaws$Ground;LSlidingFlaws$Pull;III)I"⟩
abbrev cX2_tickAll : ByteArray := prog_4_method_10_code
def yX2_tickAll : MethodName := ⟨RX2, "tickAll", "(LSlidingFlaws$Ground;I)Z"⟩
abbrev cX2_strainAlong : ByteArray := prog_4_method_11_code
def yX2_strainAlong : MethodName := ⟨RX2, "strainAlong", "(LSlidingFlaws$Pull;)J"⟩
abbrev cX2_curveBy : ByteArray := prog_4_method_12_code
def yX2_curveBy : MethodName := ⟨RX2, "curveBy", "(LSlidingFlaws$Ground;LSlidingFlaws$Pull;IIII)J"⟩
abbrev cX2_curvePoint : ByteArray := prog_4_method_13_code
def yX2_curvePoint : MethodName := ⟨RX2, "curvePoint", "(I)J"⟩
abbrev cX2_shapeOf : ByteArray := prog_4_method_14_code
def yX2_shapeOf : MethodName := ⟨RX2, "shapeOf", "(II)J"⟩
abbrev cX2_findWall : ByteArray := prog_4_method_15_code
def yX2_findWall : MethodName := ⟨RX2, "findWall", "(I)V"⟩
abbrev cX2_goesOn : ByteArray := prog_4_method_16_code
def yX2_goesOn : MethodName := ⟨RX2, "goesOn", "(II)Z"⟩
abbrev cX2_wallTilt : ByteArray := prog_4_method_17_code
def yX2_wallTilt : MethodName := ⟨RX2, "wallTilt", "(II)I"⟩
def RX3 : String := "SlidingFlaws$Ground"
def TX3 : u_T := fun k => match k with
  | 0 => ("SlidingFlaws$Ground", "pushes", "[I", true)
  | 1 => ("SlidingFlaws$Ground", "pushTold", "[Z", true)
  | 2 => ("SlidingFlaws$Ground", "lows", "[I", true)
  | 3 => ("SlidingFlaws$Ground", "highs", "[I", true)
  | 4 => ("SlidingFlaws$Ground", "speckTold", "[Z", true)
  | 5 => ("SlidingFlaws$Ground", "sourceHolds", "[I", true)
  | 6 => ("SlidingFlaws$Ground", "sourceTold", "[Z", true)
  | 7 => ("SlidingFlaws$Ground", "sources", "[I", true)
  | 8 => ("SlidingFlaws$Ground", "speckMany", "I", false)
  | 9 => ("SlidingFlaws$Ground", "sourceMany", "I", false)
  | 10 => ("SlidingFlaws$Ground", "baseTold", "Z", false)
  | 11 => ("SlidingFlaws$Ground", "baseLow", "I", false)
  | 12 => ("SlidingFlaws$Ground", "baseHigh", "I", false)
  | _ => ("SlidingFlaws$Ground", "reach", "I", false)
def tyX3 : Nat → FieldType := fun k => match k with
  | 0 => .array .int
  | 1 => .array .boolean
  | 2 => .array .int
  | 3 => .array .int
  | 4 => .array .boolean
  | 5 => .array .int
  | 6 => .array .boolean
  | 7 => .array .int
  | 8 => .int
  | 9 => .int
  | 10 => .boolean
  | 11 => .int
  | 12 => .int
  | _ => .int
abbrev wsX30 : List Cond := u_ws RX3 TX3 14
theorem nmX3 : ∀ a, a < 14 → ∀ b, b < 14 → a ≠ b → (TX3 a).2.1 ≠ (TX3 b).2.1 := by decide +kernel
theorem tyX3_ok : ∀ k, k < 14 → parseFieldDescriptor (TX3 k).2.2.1 = some (tyX3 k) := by decide +kernel
abbrev cX3_init : ByteArray := prog_5_method_1_code
def yX3_init : MethodName := ⟨RX3, "<init>", "()V"⟩
abbrev cX3_drop : ByteArray := prog_5_method_2_code
def yX3_drop : MethodName := ⟨RX3, "drop", "()V"⟩
abbrev cX3_becomes : ByteArray := prog_5_method_3_code
def yX3_becomes : MethodName := ⟨RX3, "becomes", "(LSlidingFlaws$Ground;)V"⟩
abbrev cX3_tellPush : ByteArray := prog_5_method_4_code
def yX3_tellPush : MethodName := ⟨RX3, "tellPush", "(II)V"⟩
abbrev cX3_tellSpeck : ByteArray := prog_5_method_5_code
def yX3_tellSpeck : MethodName := ⟨RX3, "tellSpeck", "(III)V"⟩
abbrev cX3_tellSource : ByteArray := prog_5_method_6_code
def yX3_tellSource : MethodName := ⟨RX3, "tellSource", "(II)V"⟩
abbrev cX3_tellBase : ByteArray := prog_5_method_7_code
def yX3_tellBase : MethodName := ⟨RX3, "tellBase", "(II)V"⟩
abbrev cX3_settle : ByteArray := prog_5_method_8_code
def yX3_settle : MethodName := ⟨RX3, "settle", "()V"⟩
abbrev cX3_findReach : ByteArray := prog_5_method_9_code
def yX3_findReach : MethodName := ⟨RX3, "findReach", "()V"⟩
abbrev cX3_pushAt : ByteArray := prog_5_method_10_code
def yX3_pushAt : MethodName := ⟨RX3, "pushAt", "(I)I"⟩
abbrev cX3_holdAt : ByteArray := prog_5_method_11_code
def yX3_holdAt : MethodName := ⟨RX3, "holdAt", "(II)I"⟩
abbrev cX3_isPushTold : ByteArray := prog_5_method_12_code
def yX3_isPushTold : MethodName := ⟨RX3, "isPushTold", "(I)Z"⟩
abbrev cX3_isSpeckTold : ByteArray := prog_5_method_13_code
def yX3_isSpeckTold : MethodName := ⟨RX3, "isSpeckTold", "(I)Z"⟩
abbrev cX3_isSourceTold : ByteArray := prog_5_method_14_code
def yX3_isSourceTold : MethodName := ⟨RX3, "isSourceTold", "(I)Z"⟩
def RX4 : String := "SlidingFlaws$Pull"
def TX4 : u_T := fun k => match k with
  | 0 => ("SlidingFlaws$Pull", "x", "I", false)
  | 1 => ("SlidingFlaws$Pull", "y", "I", false)
  | 2 => ("SlidingFlaws$Pull", "z", "I", false)
  | 3 => ("SlidingFlaws$Pull", "product", "J", false)
  | 4 => ("SlidingFlaws$Pull", "above", "J", false)
  | _ => ("SlidingFlaws$Pull", "below", "J", false)
def tyX4 : Nat → FieldType := fun k => match k with
  | 0 => .int
  | 1 => .int
  | 2 => .int
  | 3 => .long
  | 4 => .long
  | _ => .long
abbrev wsX40 : List Cond := u_ws RX4 TX4 6
theorem nmX4 : ∀ a, a < 6 → ∀ b, b < 6 → a ≠ b → (TX4 a).2.1 ≠ (TX4 b).2.1 := by decide +kernel
theorem tyX4_ok : ∀ k, k < 6 → parseFieldDescriptor (TX4 k).2.2.1 = some (tyX4 k) := by decide +kernel
abbrev cX4_init : ByteArray := prog_6_method_1_code
def yX4_init : MethodName := ⟨RX4, "<init>", "()V"⟩
abbrev cX4_tell : ByteArray := prog_6_method_2_code
def yX4_tell : MethodName := ⟨RX4, "tell", "(III)Z"⟩
abbrev cX4_isWayPart : ByteArray := prog_6_method_3_code
def yX4_isWayPart : MethodName := ⟨RX4, "isWayPart", "(I)Z"⟩
abbrev cX4_productOn : ByteArray := prog_6_method_4_code
def yX4_productOn : MethodName := ⟨RX4, "productOn", "(LSlidingFlaws$Ways;ILSlidingFlaws$Ways;I)J"⟩
abbrev cX4_shareOn : ByteArray := prog_6_method_5_code
def yX4_shareOn : MethodName := ⟨RX4, "shareOn", "(LSlidingFlaws$Ways;ILSlidingFlaws$Ways;I)Z"⟩
abbrev cX4_commonOf : ByteArray := prog_6_method_6_code
def yX4_commonOf : MethodName := ⟨RX4, "commonOf", "(JJ)J"⟩
abbrev cX4_overcomes : ByteArray := prog_6_method_7_code
def yX4_overcomes : MethodName := ⟨RX4, "overcomes", "(II)Z"⟩
abbrev cX4_greatestShares : ByteArray := prog_6_method_8_code
def yX4_greatestShares : MethodName := ⟨RX4, "greatestShares", "(LSlidingFlaws$Crystal;I)I"⟩
abbrev cX4_forceOf : ByteArray := prog_6_method_9_code
def yX4_forceOf : MethodName := ⟨RX4, "forceOf", "(I)I"⟩
def RX5 : String := "SlidingFlaws$Reader"
def TX5 : u_T := fun k => match k with
  | 0 => ("SlidingFlaws$Reader", "bytes", "[I", true)
  | 1 => ("SlidingFlaws$Reader", "many", "I", false)
  | 2 => ("SlidingFlaws$Reader", "place", "I", false)
  | 3 => ("SlidingFlaws$Reader", "fault", "I", false)
  | _ => ("SlidingFlaws$Reader", "numberPlace", "I", false)
def tyX5 : Nat → FieldType := fun k => match k with
  | 0 => .array .int
  | 1 => .int
  | 2 => .int
  | 3 => .int
  | _ => .int
abbrev wsX50 : List Cond := u_ws RX5 TX5 5
theorem nmX5 : ∀ a, a < 5 → ∀ b, b < 5 → a ≠ b → (TX5 a).2.1 ≠ (TX5 b).2.1 := by decide +kernel
theorem tyX5_ok : ∀ k, k < 5 → parseFieldDescriptor (TX5 k).2.2.1 = some (tyX5 k) := by decide +kernel
abbrev cX5_init : ByteArray := prog_7_method_1_code
def yX5_init : MethodName := ⟨RX5, "<init>", "()V"⟩
abbrev cX5_size : ByteArray := prog_7_method_2_code
def yX5_size : MethodName := ⟨RX5, "size", "()I"⟩
abbrev cX5_hasRoom : ByteArray := prog_7_method_3_code
def yX5_hasRoom : MethodName := ⟨RX5, "hasRoom", "(I)Z"⟩
abbrev cX5_take : ByteArray := prog_7_method_4_code
def yX5_take : MethodName := ⟨RX5, "take", "(I)V"⟩
abbrev cX5_cut : ByteArray := prog_7_method_5_code
def yX5_cut : MethodName := ⟨RX5, "cut", "(I)Z"⟩
abbrev cX5_readInto : ByteArray := prog_7_method_6_code
def yX5_readInto : MethodName := ⟨RX5, "readInto", "(LSlidingFlaws$Crystal;)I"⟩
abbrev cX5_readStatement : ByteArray := prog_7_method_7_code
def yX5_readStatement : MethodName := ⟨RX5, "readStatement", "(LSlidingFlaws$Crystal;I)V"⟩
abbrev cX5_lettersAhead : ByteArray := prog_7_method_8_code
def yX5_lettersAhead : MethodName := ⟨RX5, "lettersAhead", "()I"⟩
abbrev cX5_sortAhead : ByteArray := prog_7_method_9_code
def yX5_sortAhead : MethodName := ⟨RX5, "sortAhead", "(I)I"⟩
abbrev cX5_isWord : ByteArray := prog_7_method_10_code
def yX5_isWord : MethodName := ⟨RX5, "isWord", "(Ljava/lang/String;I)Z"⟩
abbrev cX5_isFull : ByteArray := prog_7_method_11_code
def yX5_isFull : MethodName := ⟨RX5, "isFull", "(LSlidingFlaws$Crystal;I)Z"⟩
abbrev cX5_readNumbers : ByteArray := prog_7_method_12_code
def yX5_readNumbers : MethodName := ⟨RX5, "readNumbers", "(LSlidingFlaws$Crystal;I)V"⟩
abbrev cX5_readWay : ByteArray := prog_7_method_13_code
def yX5_readWay : MethodName := ⟨RX5, "readWay", "(LSlidingFlaws$Ways;)V"⟩
abbrev cX5_readPush : ByteArray := prog_7_method_14_code
def yX5_readPush : MethodName := ⟨RX5, "readPush", "(LSlidingFlaws$Ground;)V"⟩
abbrev cX5_readSpeck : ByteArray := prog_7_method_15_code
def yX5_readSpeck : MethodName := ⟨RX5, "readSpeck", "(LSlidingFlaws$Ground;)V"⟩
abbrev cX5_readSource : ByteArray := prog_7_method_16_code
def yX5_readSource : MethodName := ⟨RX5, "readSource", "(LSlidingFlaws$Ground;)V"⟩
abbrev cX5_readBase : ByteArray := prog_7_method_17_code
def yX5_readBase : MethodName := ⟨RX5, "readBase", "(LSlidingFlaws$Ground;)V"⟩
abbrev cX5_number : ByteArray := prog_7_method_18_code
def yX5_number : MethodName := ⟨RX5, "number", "(II)I"⟩
abbrev cX5_skipBlanks : ByteArray := prog_7_method_19_code
def yX5_skipBlanks : MethodName := ⟨RX5, "skipBlanks", "()V"⟩
abbrev cX5_refuse : ByteArray := prog_7_method_20_code
def yX5_refuse : MethodName := ⟨RX5, "refuse", "(II)V"⟩
abbrev cX5_byteAt : ByteArray := prog_7_method_21_code
def yX5_byteAt : MethodName := ⟨RX5, "byteAt", "(I)I"⟩
abbrev cX5_isLetter : ByteArray := prog_7_method_22_code
def yX5_isLetter : MethodName := ⟨RX5, "isLetter", "(I)Z"⟩
abbrev cX5_isDigit : ByteArray := prog_7_method_23_code
def yX5_isDigit : MethodName := ⟨RX5, "isDigit", "(I)Z"⟩
def RX6 : String := "SlidingFlaws$Row"
def TX6 : u_T := fun k => match k with
  | 0 => ("SlidingFlaws$Row", "signs", "[I", true)
  | 1 => ("SlidingFlaws$Row", "stood", "[I", true)
  | 2 => ("SlidingFlaws$Row", "felt", "[I", true)
  | 3 => ("SlidingFlaws$Row", "flaws", "I", false)
  | 4 => ("SlidingFlaws$Row", "slipped", "I", false)
  | 5 => ("SlidingFlaws$Row", "gone", "I", false)
  | 6 => ("SlidingFlaws$Row", "work", "J", false)
  | 7 => ("SlidingFlaws$Row", "out", "I", false)
  | 8 => ("SlidingFlaws$Row", "lost", "I", false)
  | _ => ("SlidingFlaws$Row", "came", "I", false)
def tyX6 : Nat → FieldType := fun k => match k with
  | 0 => .array .int
  | 1 => .array .int
  | 2 => .array .int
  | 3 => .int
  | 4 => .int
  | 5 => .int
  | 6 => .long
  | 7 => .int
  | 8 => .int
  | _ => .int
abbrev wsX60 : List Cond := u_ws RX6 TX6 10
theorem nmX6 : ∀ a, a < 10 → ∀ b, b < 10 → a ≠ b → (TX6 a).2.1 ≠ (TX6 b).2.1 := by decide +kernel
theorem tyX6_ok : ∀ k, k < 10 → parseFieldDescriptor (TX6 k).2.2.1 = some (tyX6 k) := by decide +kernel
abbrev cX6_init : ByteArray := prog_8_method_1_code
def yX6_init : MethodName := ⟨RX6, "<init>", "()V"⟩
abbrev cX6_drop : ByteArray := prog_8_method_2_code
def yX6_drop : MethodName := ⟨RX6, "drop", "()V"⟩
abbrev cX6_standAs : ByteArray := prog_8_method_3_code
def yX6_standAs : MethodName := ⟨RX6, "standAs", "(LSlidingFlaws$Row;)V"⟩
abbrev cX6_becomes : ByteArray := prog_8_method_4_code
def yX6_becomes : MethodName := ⟨RX6, "becomes", "(LSlidingFlaws$Row;)V"⟩
abbrev cX6_standsAs : ByteArray := prog_8_method_5_code
def yX6_standsAs : MethodName := ⟨RX6, "standsAs", "(LSlidingFlaws$Row;)Z"⟩
abbrev cX6_signAt : ByteArray := prog_8_method_6_code
def yX6_signAt : MethodName := ⟨RX6, "signAt", "(I)I"⟩
abbrev cX6_isFree : ByteArray := prog_8_method_7_code
def yX6_isFree : MethodName := ⟨RX6, "isFree", "(I)Z"⟩
abbrev cX6_bring : ByteArray := prog_8_method_8_code
def yX6_bring : MethodName := ⟨RX6, "bring", "(II)Z"⟩
abbrev cX6_forceAt : ByteArray := prog_8_method_9_code
def yX6_forceAt : MethodName := ⟨RX6, "forceAt", "(LSlidingFlaws$Ground;II)I"⟩
abbrev cX6_runOn : ByteArray := prog_8_method_10_code
def yX6_runOn : MethodName := ⟨RX6, "runOn", "(LSlidingFlaws$Ground;III)I"⟩
abbrev cX6_tick : ByteArray := prog_8_method_11_code
def yX6_tick : MethodName := ⟨RX6, "tick", "(LSlidingFlaws$Ground;IIJ)Z"⟩
abbrev cX6_feelAll : ByteArray := prog_8_method_12_code
def yX6_feelAll : MethodName := ⟨RX6, "feelAll", "(LSlidingFlaws$Ground;I)I"⟩
abbrev cX6_go : ByteArray := prog_8_method_13_code
def yX6_go : MethodName := ⟨RX6, "go", "(IJ)Z"⟩
abbrev cX6_give : ByteArray := prog_8_method_14_code
def yX6_give : MethodName := ⟨RX6, "give", "(LSlidingFlaws$Ground;II)V"⟩
abbrev cX6_shieldOf : ByteArray := prog_8_method_15_code
def yX6_shieldOf : MethodName := ⟨RX6, "shieldOf", "(LSlidingFlaws$Ground;I)I"⟩
abbrev cX6_crackEnd : ByteArray := prog_8_method_16_code
def yX6_crackEnd : MethodName := ⟨RX6, "crackEnd", "(LSlidingFlaws$Ground;IIII)I"⟩
def RX7 : String := "SlidingFlaws$Trials"
def TX7 : u_T := fun k => match k with
  | 0 => ("SlidingFlaws$Trials", "rows", "[LSlidingFlaws$Row;", true)
  | 1 => ("SlidingFlaws$Trials", "ground", "LSlidingFlaws$Ground;", true)
  | 2 => ("SlidingFlaws$Trials", "pulls", "[I", true)
  | 3 => ("SlidingFlaws$Trials", "tried", "[I", true)
  | 4 => ("SlidingFlaws$Trials", "best", "[I", true)
  | 5 => ("SlidingFlaws$Trials", "pullMany", "I", false)
  | 6 => ("SlidingFlaws$Trials", "bestMany", "I", false)
  | 7 => ("SlidingFlaws$Trials", "distances", "[I", true)
  | 8 => ("SlidingFlaws$Trials", "found", "[I", true)
  | 9 => ("SlidingFlaws$Trials", "distanceMany", "I", false)
  | 10 => ("SlidingFlaws$Trials", "pushStep", "I", false)
  | _ => ("SlidingFlaws$Trials", "foundMany", "I", false)
def tyX7 : Nat → FieldType := fun k => match k with
  | 0 => .array (.object "SlidingFlaws$Row")
  | 1 => .object "SlidingFlaws$Ground"
  | 2 => .array .int
  | 3 => .array .int
  | 4 => .array .int
  | 5 => .int
  | 6 => .int
  | 7 => .array .int
  | 8 => .array .int
  | 9 => .int
  | 10 => .int
  | _ => .int
abbrev wsX70 : List Cond := u_ws RX7 TX7 12
theorem nmX7 : ∀ a, a < 12 → ∀ b, b < 12 → a ≠ b → (TX7 a).2.1 ≠ (TX7 b).2.1 := by decide +kernel
theorem tyX7_ok : ∀ k, k < 12 → parseFieldDescriptor (TX7 k).2.2.1 = some (tyX7 k) := by decide +kernel
abbrev cX7_init : ByteArray := prog_9_method_1_code
def yX7_init : MethodName := ⟨RX7, "<init>", "()V"⟩
abbrev cX7_sameByBoth : ByteArray := prog_9_method_2_code
def yX7_sameByBoth : MethodName := ⟨RX7, "sameByBoth", "(LSlidingFlaws$Ground;LSlidingFlaws$Row;II)Z"⟩
abbrev cX7_tellPulls : ByteArray := prog_9_method_3_code
def yX7_tellPulls : MethodName := ⟨RX7, "tellPulls", "(IIIII)V"⟩
abbrev cX7_searchPulls : ByteArray := prog_9_method_4_code
def yX7_searchPulls : MethodName := ⟨RX7, "searchPulls", "(LSlidingFlaws$Ground;LSlidingFlaws$Row;II)I"⟩
abbrev cX7_searchOfLength : ByteArray := prog_9_method_5_code
def yX7_searchOfLength : MethodName := ⟨RX7, "searchOfLength", "(LSlidingFlaws$Ground;III)Z"⟩
abbrev cX7_waysToPull : ByteArray := prog_9_method_6_code
def yX7_waysToPull : MethodName := ⟨RX7, "waysToPull", "(I)I"⟩
abbrev cX7_reaches : ByteArray := prog_9_method_7_code
def yX7_reaches : MethodName := ⟨RX7, "reaches", "(II)Z"⟩
abbrev cX7_sumOfTried : ByteArray := prog_9_method_8_code
def yX7_sumOfTried : MethodName := ⟨RX7, "sumOfTried", "(I)I"⟩
abbrev cX7_nextTried : ByteArray := prog_9_method_9_code
def yX7_nextTried : MethodName := ⟨RX7, "nextTried", "(I)I"⟩
abbrev cX7_pullFound : ByteArray := prog_9_method_10_code
def yX7_pullFound : MethodName := ⟨RX7, "pullFound", "(I)I"⟩
abbrev cX7_tellDistances : ByteArray := prog_9_method_11_code
def yX7_tellDistances : MethodName := ⟨RX7, "tellDistances", "(IIIII)V"⟩
abbrev cX7_searchPushes : ByteArray := prog_9_method_12_code
def yX7_searchPushes : MethodName := ⟨RX7, "searchPushes", "(LSlidingFlaws$Ground;LSlidingFlaws$Row;LSlidingFlaws$Row;II)I"⟩
abbrev cX7_pushOf : ByteArray := prog_9_method_13_code
def yX7_pushOf : MethodName := ⟨RX7, "pushOf", "(II)I"⟩
abbrev cX7_pushFound : ByteArray := prog_9_method_14_code
def yX7_pushFound : MethodName := ⟨RX7, "pushFound", "(II)I"⟩
def RX8 : String := "SlidingFlaws$Ways"
def TX8 : u_T := fun k => match k with
  | 0 => ("SlidingFlaws$Ways", "xs", "[I", true)
  | 1 => ("SlidingFlaws$Ways", "ys", "[I", true)
  | 2 => ("SlidingFlaws$Ways", "zs", "[I", true)
  | _ => ("SlidingFlaws$Ways", "many", "I", false)
def tyX8 : Nat → FieldType := fun k => match k with
  | 0 => .array .int
  | 1 => .array .int
  | 2 => .array .int
  | _ => .int
abbrev wsX80 : List Cond := u_ws RX8 TX8 4
theorem nmX8 : ∀ a, a < 4 → ∀ b, b < 4 → a ≠ b → (TX8 a).2.1 ≠ (TX8 b).2.1 := by decide +kernel
theorem tyX8_ok : ∀ k, k < 4 → parseFieldDescriptor (TX8 k).2.2.1 = some (tyX8 k) := by decide +kernel
abbrev cX8_init : ByteArray := prog_10_method_1_code
def yX8_init : MethodName := ⟨RX8, "<init>", "(I)V"⟩
abbrev cX8_drop : ByteArray := prog_10_method_2_code
def yX8_drop : MethodName := ⟨RX8, "drop", "()V"⟩
abbrev cX8_has : ByteArray := prog_10_method_3_code
def yX8_has : MethodName := ⟨RX8, "has", "(I)Z"⟩
abbrev cX8_isFull : ByteArray := prog_10_method_4_code
def yX8_isFull : MethodName := ⟨RX8, "isFull", "()Z"⟩
abbrev cX8_append : ByteArray := prog_10_method_5_code
def yX8_append : MethodName := ⟨RX8, "append", "(III)V"⟩
abbrev cX8_change : ByteArray := prog_10_method_6_code
def yX8_change : MethodName := ⟨RX8, "change", "(IIII)V"⟩
abbrev cX8_partOf : ByteArray := prog_10_method_7_code
def yX8_partOf : MethodName := ⟨RX8, "partOf", "(II)I"⟩
abbrev cX8_productWith : ByteArray := prog_10_method_8_code
def yX8_productWith : MethodName := ⟨RX8, "productWith", "(IIII)I"⟩
abbrev cX8_product : ByteArray := prog_10_method_9_code
def yX8_product : MethodName := ⟨RX8, "product", "(ILSlidingFlaws$Ways;I)I"⟩
abbrev cX8_worthOf : ByteArray := prog_10_method_10_code
def yX8_worthOf : MethodName := ⟨RX8, "worthOf", "(I)I"⟩
abbrev cX8_areAlike : ByteArray := prog_10_method_11_code
def yX8_areAlike : MethodName := ⟨RX8, "areAlike", "(II)Z"⟩
abbrev cX8_haveEitherWay : ByteArray := prog_10_method_12_code
def yX8_haveEitherWay : MethodName := ⟨RX8, "haveEitherWay", "(III)Z"⟩
def RX9 : String := "SlidingFlaws$Web"
def TX9 : u_T := fun k => match k with
  | 0 => ("SlidingFlaws$Web", "rims", "[Z", true)
  | 1 => ("SlidingFlaws$Web", "froms", "[I", true)
  | 2 => ("SlidingFlaws$Web", "tos", "[I", true)
  | 3 => ("SlidingFlaws$Web", "steps", "LSlidingFlaws$Ways;", true)
  | 4 => ("SlidingFlaws$Web", "there", "[Z", true)
  | 5 => ("SlidingFlaws$Web", "knotMany", "I", false)
  | 6 => ("SlidingFlaws$Web", "thereMany", "I", false)
  | 7 => ("SlidingFlaws$Web", "chosen", "[I", true)
  | 8 => ("SlidingFlaws$Web", "groups", "[I", true)
  | 9 => ("SlidingFlaws$Web", "sums", "LSlidingFlaws$Ways;", true)
  | 10 => ("SlidingFlaws$Web", "worths", "[I", true)
  | 11 => ("SlidingFlaws$Web", "leasts", "[I", true)
  | 12 => ("SlidingFlaws$Web", "firsts", "[I", true)
  | _ => ("SlidingFlaws$Web", "groupMany", "I", false)
def tyX9 : Nat → FieldType := fun k => match k with
  | 0 => .array .boolean
  | 1 => .array .int
  | 2 => .array .int
  | 3 => .object "SlidingFlaws$Ways"
  | 4 => .array .boolean
  | 5 => .int
  | 6 => .int
  | 7 => .array .int
  | 8 => .array .int
  | 9 => .object "SlidingFlaws$Ways"
  | 10 => .array .int
  | 11 => .array .int
  | 12 => .array .int
  | _ => .int
abbrev wsX90 : List Cond := u_ws RX9 TX9 14
theorem nmX9 : ∀ a, a < 14 → ∀ b, b < 14 → a ≠ b → (TX9 a).2.1 ≠ (TX9 b).2.1 := by decide +kernel
theorem tyX9_ok : ∀ k, k < 14 → parseFieldDescriptor (TX9 k).2.2.1 = some (tyX9 k) := by decide +kernel
abbrev cX9_init : ByteArray := prog_11_method_1_code
def yX9_init : MethodName := ⟨RX9, "<init>", "()V"⟩
abbrev cX9_isKnot : ByteArray := prog_11_method_2_code
def yX9_isKnot : MethodName := ⟨RX9, "isKnot", "(I)Z"⟩
abbrev cX9_isThere : ByteArray := prog_11_method_3_code
def yX9_isThere : MethodName := ⟨RX9, "isThere", "(I)Z"⟩
abbrev cX9_newKnot : ByteArray := prog_11_method_4_code
def yX9_newKnot : MethodName := ⟨RX9, "newKnot", "(Z)I"⟩
abbrev cX9_newLine : ByteArray := prog_11_method_5_code
def yX9_newLine : MethodName := ⟨RX9, "newLine", "(IIIII)I"⟩
abbrev cX9_tellLine : ByteArray := prog_11_method_6_code
def yX9_tellLine : MethodName := ⟨RX9, "tellLine", "(II)I"⟩
abbrev cX9_sumAt : ByteArray := prog_11_method_7_code
def yX9_sumAt : MethodName := ⟨RX9, "sumAt", "(II)I"⟩
abbrev cX9_firstUnsound : ByteArray := prog_11_method_8_code
def yX9_firstUnsound : MethodName := ⟨RX9, "firstUnsound", "()I"⟩
abbrev cX9_joinLines : ByteArray := prog_11_method_9_code
def yX9_joinLines : MethodName := ⟨RX9, "joinLines", "(II)I"⟩
abbrev cX9_remove : ByteArray := prog_11_method_10_code
def yX9_remove : MethodName := ⟨RX9, "remove", "(I)V"⟩
abbrev cX9_splitLine : ByteArray := prog_11_method_11_code
def yX9_splitLine : MethodName := ⟨RX9, "splitLine", "(LSlidingFlaws$Ways;IIZ)I"⟩
abbrev cX9_leastWorth : ByteArray := prog_11_method_12_code
def yX9_leastWorth : MethodName := ⟨RX9, "leastWorth", "(LSlidingFlaws$Ways;IJ)I"⟩
abbrev cX9_choose : ByteArray := prog_11_method_13_code
def yX9_choose : MethodName := ⟨RX9, "choose", "(IJ)I"⟩
abbrev cX9_addUp : ByteArray := prog_11_method_14_code
def yX9_addUp : MethodName := ⟨RX9, "addUp", "(III)V"⟩
abbrev cX9_lowestOf : ByteArray := prog_11_method_15_code
def yX9_lowestOf : MethodName := ⟨RX9, "lowestOf", "(II)I"⟩
abbrev cX9_worthAsOne : ByteArray := prog_11_method_16_code
def yX9_worthAsOne : MethodName := ⟨RX9, "worthAsOne", "(LSlidingFlaws$Ways;I)I"⟩
abbrev cX9_findLeast : ByteArray := prog_11_method_17_code
def yX9_findLeast : MethodName := ⟨RX9, "findLeast", "(I)V"⟩
abbrev cX9_nameGroups : ByteArray := prog_11_method_18_code
def yX9_nameGroups : MethodName := ⟨RX9, "nameGroups", "(II)V"⟩
abbrev cX9_groupOf : ByteArray := prog_11_method_19_code
def yX9_groupOf : MethodName := ⟨RX9, "groupOf", "(I)I"⟩
abbrev cX9_isStepPart : ByteArray := prog_11_method_20_code
def yX9_isStepPart : MethodName := ⟨RX9, "isStepPart", "(I)Z"⟩
def RX10 : String := "SlidingFlaws"
def TX10 : u_T := fun k => match k with
  | 0 => ("SlidingFlaws", "reader", "LSlidingFlaws$Reader;", true)
  | 1 => ("SlidingFlaws", "web", "LSlidingFlaws$Web;", true)
  | 2 => ("SlidingFlaws", "pull", "LSlidingFlaws$Pull;", true)
  | 3 => ("SlidingFlaws", "row", "LSlidingFlaws$Row;", true)
  | 4 => ("SlidingFlaws", "marked", "LSlidingFlaws$Row;", true)
  | 5 => ("SlidingFlaws", "acts", "LSlidingFlaws$Acts;", true)
  | 6 => ("SlidingFlaws", "trials", "LSlidingFlaws$Trials;", true)
  | 7 => ("SlidingFlaws", "grain", "LSlidingFlaws$Grain;", true)
  | 8 => ("SlidingFlaws", "crystal", "LSlidingFlaws$Crystal;", false)
  | _ => ("SlidingFlaws", "spare", "LSlidingFlaws$Crystal;", false)
def tyX10 : Nat → FieldType := fun k => match k with
  | 0 => .object "SlidingFlaws$Reader"
  | 1 => .object "SlidingFlaws$Web"
  | 2 => .object "SlidingFlaws$Pull"
  | 3 => .object "SlidingFlaws$Row"
  | 4 => .object "SlidingFlaws$Row"
  | 5 => .object "SlidingFlaws$Acts"
  | 6 => .object "SlidingFlaws$Trials"
  | 7 => .object "SlidingFlaws$Grain"
  | 8 => .object "SlidingFlaws$Crystal"
  | _ => .object "SlidingFlaws$Crystal"
abbrev wsX100 : List Cond := u_ws RX10 TX10 10
theorem nmX10 : ∀ a, a < 10 → ∀ b, b < 10 → a ≠ b → (TX10 a).2.1 ≠ (TX10 b).2.1 := by decide +kernel
theorem tyX10_ok : ∀ k, k < 10 → parseFieldDescriptor (TX10 k).2.2.1 = some (tyX10 k) := by decide +kernel
abbrev cX10_init : ByteArray := prog_1_method_1_code
def yX10_init : MethodName := ⟨RX10, "<init>", "()V"⟩
abbrev cX10_feed : ByteArray := prog_1_method_2_code
def yX10_feed : MethodName := ⟨RX10, "feed", "(IIIII)I"⟩
abbrev cX10_end : ByteArray := prog_1_method_3_code
def yX10_end : MethodName := ⟨RX10, "end", "(I)I"⟩
abbrev cX10_read : ByteArray := prog_1_method_4_code
def yX10_read : MethodName := ⟨RX10, "read", "()I"⟩
abbrev cX10_told : ByteArray := prog_1_method_5_code
def yX10_told : MethodName := ⟨RX10, "told", "(III)I"⟩
abbrev cX10_push : ByteArray := prog_1_method_6_code
def yX10_push : MethodName := ⟨RX10, "push", "(I)I"⟩
abbrev cX10_hold : ByteArray := prog_1_method_7_code
def yX10_hold : MethodName := ⟨RX10, "hold", "(II)I"⟩
abbrev cX10_knot : ByteArray := prog_1_method_8_code
def yX10_knot : MethodName := ⟨RX10, "knot", "(Z)I"⟩
abbrev cX10_line : ByteArray := prog_1_method_9_code
def yX10_line : MethodName := ⟨RX10, "line", "(IIIII)I"⟩
abbrev cX10_lines : ByteArray := prog_1_method_10_code
def yX10_lines : MethodName := ⟨RX10, "lines", "(II)I"⟩
abbrev cX10_sum : ByteArray := prog_1_method_11_code
def yX10_sum : MethodName := ⟨RX10, "sum", "(II)I"⟩
abbrev cX10_unsound : ByteArray := prog_1_method_12_code
def yX10_unsound : MethodName := ⟨RX10, "unsound", "()I"⟩
abbrev cX10_meet : ByteArray := prog_1_method_13_code
def yX10_meet : MethodName := ⟨RX10, "meet", "(II)I"⟩
abbrev cX10_part : ByteArray := prog_1_method_14_code
def yX10_part : MethodName := ⟨RX10, "part", "(IIZ)I"⟩
abbrev cX10_least : ByteArray := prog_1_method_15_code
def yX10_least : MethodName := ⟨RX10, "least", "(IJ)I"⟩
abbrev cX10_group : ByteArray := prog_1_method_16_code
def yX10_group : MethodName := ⟨RX10, "group", "(I)I"⟩
abbrev cX10_share : ByteArray := prog_1_method_17_code
def yX10_share : MethodName := ⟨RX10, "share", "(IIIIII)J"⟩
abbrev cX10_slides : ByteArray := prog_1_method_18_code
def yX10_slides : MethodName := ⟨RX10, "slides", "(IIIIIII)I"⟩
abbrev cX10_first : ByteArray := prog_1_method_19_code
def yX10_first : MethodName := ⟨RX10, "first", "(IIII)I"⟩
abbrev cX10_put : ByteArray := prog_1_method_20_code
def yX10_put : MethodName := ⟨RX10, "put", "(II)Z"⟩
abbrev cX10_at : ByteArray := prog_1_method_21_code
def yX10_at : MethodName := ⟨RX10, "at", "(I)I"⟩
abbrev cX10_feels : ByteArray := prog_1_method_22_code
def yX10_feels : MethodName := ⟨RX10, "feels", "(II)I"⟩
abbrev cX10_clear : ByteArray := prog_1_method_23_code
def yX10_clear : MethodName := ⟨RX10, "clear", "()I"⟩
abbrev cX10_mark : ByteArray := prog_1_method_24_code
def yX10_mark : MethodName := ⟨RX10, "mark", "()V"⟩
abbrev cX10_back : ByteArray := prog_1_method_25_code
def yX10_back : MethodName := ⟨RX10, "back", "()I"⟩
abbrev cX10_run : ByteArray := prog_1_method_26_code
def yX10_run : MethodName := ⟨RX10, "run", "(III)I"⟩
abbrev cX10_sure : ByteArray := prog_1_method_27_code
def yX10_sure : MethodName := ⟨RX10, "sure", "(II)I"⟩
abbrev cX10_shape : ByteArray := prog_1_method_28_code
def yX10_shape : MethodName := ⟨RX10, "shape", "(IIII)J"⟩
abbrev cX10_aim : ByteArray := prog_1_method_29_code
def yX10_aim : MethodName := ⟨RX10, "aim", "(IIIIIII)I"⟩
abbrev cX10_aimed : ByteArray := prog_1_method_30_code
def yX10_aimed : MethodName := ⟨RX10, "aimed", "(I)I"⟩
abbrev cX10_fit : ByteArray := prog_1_method_31_code
def yX10_fit : MethodName := ⟨RX10, "fit", "(IIIIIII)I"⟩
abbrev cX10_fitted : ByteArray := prog_1_method_32_code
def yX10_fitted : MethodName := ⟨RX10, "fitted", "(II)I"⟩
abbrev cX10_seen : ByteArray := prog_1_method_33_code
def yX10_seen : MethodName := ⟨RX10, "seen", "(II)I"⟩
abbrev cX10_sight : ByteArray := prog_1_method_34_code
def yX10_sight : MethodName := ⟨RX10, "sight", "(IZ)I"⟩
abbrev cX10_forget : ByteArray := prog_1_method_35_code
def yX10_forget : MethodName := ⟨RX10, "forget", "()I"⟩
abbrev cX10_readBack : ByteArray := prog_1_method_36_code
def yX10_readBack : MethodName := ⟨RX10, "readBack", "(I)I"⟩
abbrev cX10_nextEye : ByteArray := prog_1_method_37_code
def yX10_nextEye : MethodName := ⟨RX10, "nextEye", "()I"⟩
abbrev cX10_system : ByteArray := prog_1_method_38_code
def yX10_system : MethodName := ⟨RX10, "system", "(II)I"⟩
abbrev cX10_harder : ByteArray := prog_1_method_39_code
def yX10_harder : MethodName := ⟨RX10, "harder", "(II)Z"⟩
abbrev cX10_fill : ByteArray := prog_1_method_40_code
def yX10_fill : MethodName := ⟨RX10, "fill", "(III)Z"⟩
abbrev cX10_systems : ByteArray := prog_1_method_41_code
def yX10_systems : MethodName := ⟨RX10, "systems", "(II)J"⟩
abbrev cX10_pulled : ByteArray := prog_1_method_42_code
def yX10_pulled : MethodName := ⟨RX10, "pulled", "(IIIII)I"⟩
abbrev cX10_load : ByteArray := prog_1_method_43_code
def yX10_load : MethodName := ⟨RX10, "load", "(IIIIII)I"⟩
abbrev cX10_strain : ByteArray := prog_1_method_44_code
def yX10_strain : MethodName := ⟨RX10, "strain", "(III)J"⟩
abbrev cX10_curve : ByteArray := prog_1_method_45_code
def yX10_curve : MethodName := ⟨RX10, "curve", "(IIIIIII)J"⟩
abbrev cX10_curved : ByteArray := prog_1_method_46_code
def yX10_curved : MethodName := ⟨RX10, "curved", "(I)J"⟩
abbrev cX10_form : ByteArray := prog_1_method_47_code
def yX10_form : MethodName := ⟨RX10, "form", "(II)J"⟩
abbrev cX10_wall : ByteArray := prog_1_method_48_code
def yX10_wall : MethodName := ⟨RX10, "wall", "(I)I"⟩
abbrev cX10_tilt : ByteArray := prog_1_method_49_code
def yX10_tilt : MethodName := ⟨RX10, "tilt", "(II)I"⟩
abbrev cX10_undo : ByteArray := prog_1_method_50_code
def yX10_undo : MethodName := ⟨RX10, "undo", "()Z"⟩
abbrev cX10_redo : ByteArray := prog_1_method_51_code
def yX10_redo : MethodName := ⟨RX10, "redo", "()Z"⟩
abbrev cX10_shield : ByteArray := prog_1_method_52_code
def yX10_shield : MethodName := ⟨RX10, "shield", "(I)I"⟩
abbrev cX10_crack : ByteArray := prog_1_method_53_code
def yX10_crack : MethodName := ⟨RX10, "crack", "(IIII)I"⟩
abbrev cX10_runsTo : ByteArray := prog_1_method_54_code
def yX10_runsTo : MethodName := ⟨RX10, "runsTo", "(IIII)I"⟩
abbrev cX10_count : ByteArray := prog_1_method_55_code
def yX10_count : MethodName := ⟨RX10, "count", "(I)J"⟩
abbrev cX10_waysOf : ByteArray := prog_1_method_56_code
def yX10_waysOf : MethodName := ⟨RX10, "waysOf", "(I)LSlidingFlaws$Ways;"⟩
abbrev cX10_shareIsTold : ByteArray := prog_1_method_57_code
def yX10_shareIsTold : MethodName := ⟨RX10, "shareIsTold", "(IIIII)Z"⟩
abbrev cX10_within : ByteArray := prog_1_method_58_code
def yX10_within : MethodName := ⟨RX10, "within", "(III)Z"⟩
abbrev cX10_isPart : ByteArray := prog_1_method_59_code
def yX10_isPart : MethodName := ⟨RX10, "isPart", "(I)Z"⟩
abbrev cX10_isPlace : ByteArray := prog_1_method_60_code
def yX10_isPlace : MethodName := ⟨RX10, "isPlace", "(I)Z"⟩
abbrev cX10_isSide : ByteArray := prog_1_method_61_code
def yX10_isSide : MethodName := ⟨RX10, "isSide", "(I)Z"⟩
abbrev cX10_isPull : ByteArray := prog_1_method_62_code
def yX10_isPull : MethodName := ⟨RX10, "isPull", "(I)Z"⟩
abbrev cX10_isForce : ByteArray := prog_1_method_63_code
def yX10_isForce : MethodName := ⟨RX10, "isForce", "(I)Z"⟩
abbrev cX10_isTicks : ByteArray := prog_1_method_64_code
def yX10_isTicks : MethodName := ⟨RX10, "isTicks", "(I)Z"⟩
abbrev cX10_isDistance : ByteArray := prog_1_method_65_code
def yX10_isDistance : MethodName := ⟨RX10, "isDistance", "(I)Z"⟩
abbrev cX10_isLength : ByteArray := prog_1_method_66_code
def yX10_isLength : MethodName := ⟨RX10, "isLength", "(I)Z"⟩
abbrev cX10_isSign : ByteArray := prog_1_method_67_code
def yX10_isSign : MethodName := ⟨RX10, "isSign", "(I)Z"⟩
def RX11 : String := "SlidingFlawsModel"
def TX11 : u_T := fun k => match k with
  | 0 => ("SlidingFlawsModel", "thrown", "I", false)
  | 1 => ("SlidingFlawsModel", "taped", "I", false)
  | 2 => ("SlidingFlawsModel", "p", "I", false)
  | 3 => ("SlidingFlawsModel", "fault", "I", false)
  | 4 => ("SlidingFlawsModel", "tape", "[B", true)
  | 5 => ("SlidingFlawsModel", "many", "[I", true)
  | 6 => ("SlidingFlawsModel", "newMany", "[I", true)
  | 7 => ("SlidingFlawsModel", "way", "[I", true)
  | 8 => ("SlidingFlawsModel", "newWay", "[I", true)
  | 9 => ("SlidingFlawsModel", "push", "[I", true)
  | 10 => ("SlidingFlawsModel", "newPush", "[I", true)
  | 11 => ("SlidingFlawsModel", "speckLow", "[I", true)
  | 12 => ("SlidingFlawsModel", "speckHigh", "[I", true)
  | 13 => ("SlidingFlawsModel", "sourceHold", "[I", true)
  | 14 => ("SlidingFlawsModel", "newLow", "[I", true)
  | 15 => ("SlidingFlawsModel", "newHigh", "[I", true)
  | 16 => ("SlidingFlawsModel", "newHold", "[I", true)
  | 17 => ("SlidingFlawsModel", "baseLow", "I", false)
  | 18 => ("SlidingFlawsModel", "baseHigh", "I", false)
  | 19 => ("SlidingFlawsModel", "newBaseLow", "I", false)
  | 20 => ("SlidingFlawsModel", "newBaseHigh", "I", false)
  | 21 => ("SlidingFlawsModel", "from", "I", false)
  | 22 => ("SlidingFlawsModel", "knots", "I", false)
  | 23 => ("SlidingFlawsModel", "lines", "I", false)
  | 24 => ("SlidingFlawsModel", "isRim", "[Z", true)
  | 25 => ("SlidingFlawsModel", "isGone", "[Z", true)
  | 26 => ("SlidingFlawsModel", "start", "[I", true)
  | 27 => ("SlidingFlawsModel", "goal", "[I", true)
  | 28 => ("SlidingFlawsModel", "line", "[I", true)
  | 29 => ("SlidingFlawsModel", "sum3", "[I", true)
  | 30 => ("SlidingFlawsModel", "chosen", "I", false)
  | 31 => ("SlidingFlawsModel", "choice", "[I", true)
  | 32 => ("SlidingFlawsModel", "cost", "[I", true)
  | 33 => ("SlidingFlawsModel", "best", "[I", true)
  | 34 => ("SlidingFlawsModel", "groupOf", "[I", true)
  | 35 => ("SlidingFlawsModel", "cur", "[I", true)
  | 36 => ("SlidingFlawsModel", "was", "[I", true)
  | 37 => ("SlidingFlawsModel", "feel", "[I", true)
  | 38 => ("SlidingFlawsModel", "pushAt", "[I", true)
  | 39 => ("SlidingFlawsModel", "curSum", "[J", true)
  | 40 => ("SlidingFlawsModel", "row", "[I", true)
  | 41 => ("SlidingFlawsModel", "marked", "[I", true)
  | 42 => ("SlidingFlawsModel", "sums", "[J", true)
  | 43 => ("SlidingFlawsModel", "undoRow", "[I", true)
  | 44 => ("SlidingFlawsModel", "redoRow", "[I", true)
  | 45 => ("SlidingFlawsModel", "undoSum", "[J", true)
  | 46 => ("SlidingFlawsModel", "redoSum", "[J", true)
  | 47 => ("SlidingFlawsModel", "undos", "I", false)
  | 48 => ("SlidingFlawsModel", "redos", "I", false)
  | 49 => ("SlidingFlawsModel", "other", "[I", true)
  | 50 => ("SlidingFlawsModel", "otherSum", "[J", true)
  | 51 => ("SlidingFlawsModel", "aimedMany", "I", false)
  | 52 => ("SlidingFlawsModel", "pull", "[I", true)
  | 53 => ("SlidingFlawsModel", "aimed", "[I", true)
  | 54 => ("SlidingFlawsModel", "fits", "I", false)
  | 55 => ("SlidingFlawsModel", "fitOf", "I", false)
  | 56 => ("SlidingFlawsModel", "distance", "[I", true)
  | 57 => ("SlidingFlawsModel", "fitted", "[I", true)
  | 58 => ("SlidingFlawsModel", "sights", "I", false)
  | 59 => ("SlidingFlawsModel", "sightEye", "[I", true)
  | 60 => ("SlidingFlawsModel", "sightSeen", "[Z", true)
  | 61 => ("SlidingFlawsModel", "systems", "I", false)
  | 62 => ("SlidingFlawsModel", "own", "I", false)
  | 63 => ("SlidingFlawsModel", "cross", "I", false)
  | 64 => ("SlidingFlawsModel", "grain", "[I", true)
  | 65 => ("SlidingFlawsModel", "ways", "[I", true)
  | 66 => ("SlidingFlawsModel", "harder", "[I", true)
  | 67 => ("SlidingFlawsModel", "grainSum", "[J", true)
  | 68 => ("SlidingFlawsModel", "curveLong", "I", false)
  | 69 => ("SlidingFlawsModel", "curve", "[J", true)
  | _ => ("SlidingFlawsModel", "wallFirst", "I", false)
def tyX11 : Nat → FieldType := fun k => match k with
  | 0 => .int
  | 1 => .int
  | 2 => .int
  | 3 => .int
  | 4 => .array .byte
  | 5 => .array .int
  | 6 => .array .int
  | 7 => .array .int
  | 8 => .array .int
  | 9 => .array .int
  | 10 => .array .int
  | 11 => .array .int
  | 12 => .array .int
  | 13 => .array .int
  | 14 => .array .int
  | 15 => .array .int
  | 16 => .array .int
  | 17 => .int
  | 18 => .int
  | 19 => .int
  | 20 => .int
  | 21 => .int
  | 22 => .int
  | 23 => .int
  | 24 => .array .boolean
  | 25 => .array .boolean
  | 26 => .array .int
  | 27 => .array .int
  | 28 => .array .int
  | 29 => .array .int
  | 30 => .int
  | 31 => .array .int
  | 32 => .array .int
  | 33 => .array .int
  | 34 => .array .int
  | 35 => .array .int
  | 36 => .array .int
  | 37 => .array .int
  | 38 => .array .int
  | 39 => .array .long
  | 40 => .array .int
  | 41 => .array .int
  | 42 => .array .long
  | 43 => .array .int
  | 44 => .array .int
  | 45 => .array .long
  | 46 => .array .long
  | 47 => .int
  | 48 => .int
  | 49 => .array .int
  | 50 => .array .long
  | 51 => .int
  | 52 => .array .int
  | 53 => .array .int
  | 54 => .int
  | 55 => .int
  | 56 => .array .int
  | 57 => .array .int
  | 58 => .int
  | 59 => .array .int
  | 60 => .array .boolean
  | 61 => .int
  | 62 => .int
  | 63 => .int
  | 64 => .array .int
  | 65 => .array .int
  | 66 => .array .int
  | 67 => .array .long
  | 68 => .int
  | 69 => .array .long
  | _ => .int
abbrev wsX110 : List Cond := u_ws RX11 TX11 71
theorem nmX11 : ∀ a, a < 71 → ∀ b, b < 71 → a ≠ b → (TX11 a).2.1 ≠ (TX11 b).2.1 := by decide +kernel
theorem tyX11_ok : ∀ k, k < 71 → parseFieldDescriptor (TX11 k).2.2.1 = some (tyX11 k) := by decide +kernel
abbrev cX11_init : ByteArray := prog_13_method_1_code
def yX11_init : MethodName := ⟨RX11, "<init>", "()V"⟩
abbrev cX11_in : ByteArray := prog_13_method_3_code
def yX11_in : MethodName := ⟨RX11, "in", "(III)Z"⟩
abbrev cX11_feed : ByteArray := prog_13_method_4_code
def yX11_feed : MethodName := ⟨RX11, "feed", "(IIIII)I"⟩
abbrev cX11_put : ByteArray := prog_13_method_5_code
def yX11_put : MethodName := ⟨RX11, "put", "(I)V"⟩
abbrev cX11_end : ByteArray := prog_13_method_6_code
def yX11_end : MethodName := ⟨RX11, "end", "(I)I"⟩
abbrev cX11_fails : ByteArray := prog_13_method_7_code
def yX11_fails : MethodName := ⟨RX11, "fails", "(II)V"⟩
abbrev cX11_sign : ByteArray := prog_13_method_8_code
def yX11_sign : MethodName := ⟨RX11, "sign", "()I"⟩
abbrev cX11_blanks : ByteArray := prog_13_method_9_code
def yX11_blanks : MethodName := ⟨RX11, "blanks", "()V"⟩
abbrev cX11_isDigit : ByteArray := prog_13_method_10_code
def yX11_isDigit : MethodName := ⟨RX11, "isDigit", "(I)Z"⟩
abbrev cX11_wordOf : ByteArray := prog_13_method_11_code
def yX11_wordOf : MethodName := ⟨RX11, "wordOf", "(I)Ljava/lang/String;"⟩
abbrev cX11_most : ByteArray := prog_13_method_12_code
def yX11_most : MethodName := ⟨RX11, "most", "(I)I"⟩
abbrev cX11_word : ByteArray := prog_13_method_13_code
def yX11_word : MethodName := ⟨RX11, "word", "(I)I"⟩
abbrev cX11_is : ByteArray := prog_13_method_14_code
def yX11_is : MethodName := ⟨RX11, "is", "(Ljava/lang/String;I)Z"⟩
abbrev cX11_number : ByteArray := prog_13_method_15_code
def yX11_number : MethodName := ⟨RX11, "number", "(II)I"⟩
abbrev cX11_wayIn : ByteArray := prog_13_method_16_code
def yX11_wayIn : MethodName := ⟨RX11, "wayIn", "(I)V"⟩
abbrev cX11_statement : ByteArray := prog_13_method_17_code
def yX11_statement : MethodName := ⟨RX11, "statement", "(I)V"⟩
abbrev cX11_read : ByteArray := prog_13_method_18_code
def yX11_read : MethodName := ⟨RX11, "read", "()I"⟩
abbrev cX11_comes : ByteArray := prog_13_method_19_code
def yX11_comes : MethodName := ⟨RX11, "comes", "()V"⟩
abbrev cX11_isTold : ByteArray := prog_13_method_20_code
def yX11_isTold : MethodName := ⟨RX11, "isTold", "(II)Z"⟩
abbrev cX11_told : ByteArray := prog_13_method_21_code
def yX11_told : MethodName := ⟨RX11, "told", "(III)I"⟩
abbrev cX11_push : ByteArray := prog_13_method_22_code
def yX11_push : MethodName := ⟨RX11, "push", "(I)I"⟩
abbrev cX11_holdAt : ByteArray := prog_13_method_23_code
def yX11_holdAt : MethodName := ⟨RX11, "holdAt", "(II)I"⟩
abbrev cX11_hold : ByteArray := prog_13_method_24_code
def yX11_hold : MethodName := ⟨RX11, "hold", "(II)I"⟩
abbrev cX11_knot : ByteArray := prog_13_method_25_code
def yX11_knot : MethodName := ⟨RX11, "knot", "(Z)I"⟩
abbrev cX11_isKnot : ByteArray := prog_13_method_26_code
def yX11_isKnot : MethodName := ⟨RX11, "isKnot", "(I)Z"⟩
abbrev cX11_isLine : ByteArray := prog_13_method_27_code
def yX11_isLine : MethodName := ⟨RX11, "isLine", "(I)Z"⟩
abbrev cX11_line : ByteArray := prog_13_method_28_code
def yX11_line : MethodName := ⟨RX11, "line", "(IIIII)I"⟩
abbrev cX11_lineIn : ByteArray := prog_13_method_29_code
def yX11_lineIn : MethodName := ⟨RX11, "lineIn", "(IIIII)I"⟩
abbrev cX11_square : ByteArray := prog_13_method_30_code
def yX11_square : MethodName := ⟨RX11, "square", "(III)I"⟩
abbrev cX11_worth : ByteArray := prog_13_method_31_code
def yX11_worth : MethodName := ⟨RX11, "worth", "(I)I"⟩
abbrev cX11_lines : ByteArray := prog_13_method_32_code
def yX11_lines : MethodName := ⟨RX11, "lines", "(II)I"⟩
abbrev cX11_sumAt : ByteArray := prog_13_method_33_code
def yX11_sumAt : MethodName := ⟨RX11, "sumAt", "(II)I"⟩
abbrev cX11_sum : ByteArray := prog_13_method_34_code
def yX11_sum : MethodName := ⟨RX11, "sum", "(II)I"⟩
abbrev cX11_unsound : ByteArray := prog_13_method_35_code
def yX11_unsound : MethodName := ⟨RX11, "unsound", "()I"⟩
abbrev cX11_meet : ByteArray := prog_13_method_36_code
def yX11_meet : MethodName := ⟨RX11, "meet", "(II)I"⟩
abbrev cX11_isStep : ByteArray := prog_13_method_37_code
def yX11_isStep : MethodName := ⟨RX11, "isStep", "(III)Z"⟩
abbrev cX11_part : ByteArray := prog_13_method_38_code
def yX11_part : MethodName := ⟨RX11, "part", "(IIZ)I"⟩
abbrev cX11_least : ByteArray := prog_13_method_39_code
def yX11_least : MethodName := ⟨RX11, "least", "(IJ)I"⟩
abbrev cX11_costOf : ByteArray := prog_13_method_40_code
def yX11_costOf : MethodName := ⟨RX11, "costOf", "(III)I"⟩
abbrev cX11_group : ByteArray := prog_13_method_41_code
def yX11_group : MethodName := ⟨RX11, "group", "(I)I"⟩
abbrev cX11_isPull : ByteArray := prog_13_method_42_code
def yX11_isPull : MethodName := ⟨RX11, "isPull", "(III)Z"⟩
abbrev cX11_along : ByteArray := prog_13_method_43_code
def yX11_along : MethodName := ⟨RX11, "along", "(IIIII)I"⟩
abbrev cX11_squareOf : ByteArray := prog_13_method_44_code
def yX11_squareOf : MethodName := ⟨RX11, "squareOf", "(II)I"⟩
abbrev cX11_isIn : ByteArray := prog_13_method_45_code
def yX11_isIn : MethodName := ⟨RX11, "isIn", "(II)Z"⟩
abbrev cX11_above : ByteArray := prog_13_method_46_code
def yX11_above : MethodName := ⟨RX11, "above", "(IIIII)J"⟩
abbrev cX11_below : ByteArray := prog_13_method_47_code
def yX11_below : MethodName := ⟨RX11, "below", "(IIIII)J"⟩
abbrev cX11_share : ByteArray := prog_13_method_48_code
def yX11_share : MethodName := ⟨RX11, "share", "(IIIIII)J"⟩
abbrev cX11_slides : ByteArray := prog_13_method_49_code
def yX11_slides : MethodName := ⟨RX11, "slides", "(IIIIIII)I"⟩
abbrev cX11_compares : ByteArray := prog_13_method_50_code
def yX11_compares : MethodName := ⟨RX11, "compares", "(IIIII)I"⟩
abbrev cX11_first : ByteArray := prog_13_method_51_code
def yX11_first : MethodName := ⟨RX11, "first", "(IIII)I"⟩
abbrev cX11_takes : ByteArray := prog_13_method_52_code
def yX11_takes : MethodName := ⟨RX11, "takes", "([II[JI)V"⟩
abbrev cX11_keeps : ByteArray := prog_13_method_53_code
def yX11_keeps : MethodName := ⟨RX11, "keeps", "([II[JI)V"⟩
abbrev cX11_pushesAsRead : ByteArray := prog_13_method_54_code
def yX11_pushesAsRead : MethodName := ⟨RX11, "pushesAsRead", "()V"⟩
abbrev cX11_flaws : ByteArray := prog_13_method_55_code
def yX11_flaws : MethodName := ⟨RX11, "flaws", "()I"⟩
abbrev cX11_feels : ByteArray := prog_13_method_56_code
def yX11_feels : MethodName := ⟨RX11, "feels", "(III)I"⟩
abbrev cX11_goes : ByteArray := prog_13_method_57_code
def yX11_goes : MethodName := ⟨RX11, "goes", "(II)Z"⟩
abbrev cX11_tick : ByteArray := prog_13_method_58_code
def yX11_tick : MethodName := ⟨RX11, "tick", "(III)Z"⟩
abbrev cX11_runs : ByteArray := prog_13_method_59_code
def yX11_runs : MethodName := ⟨RX11, "runs", "(III)I"⟩
abbrev cX11_isAs : ByteArray := prog_13_method_60_code
def yX11_isAs : MethodName := ⟨RX11, "isAs", "([I)Z"⟩
abbrev cX11_atHand : ByteArray := prog_13_method_61_code
def yX11_atHand : MethodName := ⟨RX11, "atHand", "()V"⟩
abbrev cX11_remembers : ByteArray := prog_13_method_62_code
def yX11_remembers : MethodName := ⟨RX11, "remembers", "()V"⟩
abbrev cX11_act : ByteArray := prog_13_method_63_code
def yX11_act : MethodName := ⟨RX11, "act", "()V"⟩
abbrev cX11_undo : ByteArray := prog_13_method_64_code
def yX11_undo : MethodName := ⟨RX11, "undo", "()Z"⟩
abbrev cX11_redo : ByteArray := prog_13_method_65_code
def yX11_redo : MethodName := ⟨RX11, "redo", "()Z"⟩
abbrev cX11_put_ : ByteArray := prog_13_method_66_code
def yX11_put_ : MethodName := ⟨RX11, "put", "(II)Z"⟩
abbrev cX11_at : ByteArray := prog_13_method_67_code
def yX11_at : MethodName := ⟨RX11, "at", "(I)I"⟩
abbrev cX11_feels_ : ByteArray := prog_13_method_68_code
def yX11_feels_ : MethodName := ⟨RX11, "feels", "(II)I"⟩
abbrev cX11_clear : ByteArray := prog_13_method_69_code
def yX11_clear : MethodName := ⟨RX11, "clear", "()I"⟩
abbrev cX11_mark : ByteArray := prog_13_method_70_code
def yX11_mark : MethodName := ⟨RX11, "mark", "()V"⟩
abbrev cX11_back : ByteArray := prog_13_method_71_code
def yX11_back : MethodName := ⟨RX11, "back", "()I"⟩
abbrev cX11_run : ByteArray := prog_13_method_72_code
def yX11_run : MethodName := ⟨RX11, "run", "(III)I"⟩
abbrev cX11_sure : ByteArray := prog_13_method_73_code
def yX11_sure : MethodName := ⟨RX11, "sure", "(II)I"⟩
abbrev cX11_shape : ByteArray := prog_13_method_74_code
def yX11_shape : MethodName := ⟨RX11, "shape", "(IIII)J"⟩
abbrev cX11_size : ByteArray := prog_13_method_75_code
def yX11_size : MethodName := ⟨RX11, "size", "(I)I"⟩
abbrev cX11_aim : ByteArray := prog_13_method_76_code
def yX11_aim : MethodName := ⟨RX11, "aim", "(IIIIIII)I"⟩
abbrev cX11_aimed : ByteArray := prog_13_method_77_code
def yX11_aimed : MethodName := ⟨RX11, "aimed", "(I)I"⟩
abbrev cX11_fit : ByteArray := prog_13_method_78_code
def yX11_fit : MethodName := ⟨RX11, "fit", "(IIIIIII)I"⟩
abbrev cX11_fitted : ByteArray := prog_13_method_79_code
def yX11_fitted : MethodName := ⟨RX11, "fitted", "(II)I"⟩
abbrev cX11_seen : ByteArray := prog_13_method_80_code
def yX11_seen : MethodName := ⟨RX11, "seen", "(II)I"⟩
abbrev cX11_sight : ByteArray := prog_13_method_81_code
def yX11_sight : MethodName := ⟨RX11, "sight", "(IZ)I"⟩
abbrev cX11_forget : ByteArray := prog_13_method_82_code
def yX11_forget : MethodName := ⟨RX11, "forget", "()I"⟩
abbrev cX11_isSeen : ByteArray := prog_13_method_83_code
def yX11_isSeen : MethodName := ⟨RX11, "isSeen", "(II)Z"⟩
abbrev cX11_fitsSights : ByteArray := prog_13_method_84_code
def yX11_fitsSights : MethodName := ⟨RX11, "fitsSights", "(I)Z"⟩
abbrev cX11_readBack : ByteArray := prog_13_method_85_code
def yX11_readBack : MethodName := ⟨RX11, "readBack", "(I)I"⟩
abbrev cX11_nextEye : ByteArray := prog_13_method_86_code
def yX11_nextEye : MethodName := ⟨RX11, "nextEye", "()I"⟩
abbrev cX11_system : ByteArray := prog_13_method_87_code
def yX11_system : MethodName := ⟨RX11, "system", "(II)I"⟩
abbrev cX11_isSystem : ByteArray := prog_13_method_88_code
def yX11_isSystem : MethodName := ⟨RX11, "isSystem", "(I)Z"⟩
abbrev cX11_harder : ByteArray := prog_13_method_89_code
def yX11_harder : MethodName := ⟨RX11, "harder", "(II)Z"⟩
abbrev cX11_fill : ByteArray := prog_13_method_90_code
def yX11_fill : MethodName := ⟨RX11, "fill", "(III)Z"⟩
abbrev cX11_harderOf : ByteArray := prog_13_method_91_code
def yX11_harderOf : MethodName := ⟨RX11, "harderOf", "(I)I"⟩
abbrev cX11_systems : ByteArray := prog_13_method_92_code
def yX11_systems : MethodName := ⟨RX11, "systems", "(II)J"⟩
abbrev cX11_alongOf : ByteArray := prog_13_method_93_code
def yX11_alongOf : MethodName := ⟨RX11, "alongOf", "(IIII)J"⟩
abbrev cX11_pulledOn : ByteArray := prog_13_method_94_code
def yX11_pulledOn : MethodName := ⟨RX11, "pulledOn", "(IIIII)I"⟩
abbrev cX11_pulled : ByteArray := prog_13_method_95_code
def yX11_pulled : MethodName := ⟨RX11, "pulled", "(IIIII)I"⟩
abbrev cX11_steps : ByteArray := prog_13_method_96_code
def yX11_steps : MethodName := ⟨RX11, "steps", "(IIIII)Z"⟩
abbrev cX11_loads : ByteArray := prog_13_method_97_code
def yX11_loads : MethodName := ⟨RX11, "loads", "(IIIIII)I"⟩
abbrev cX11_load : ByteArray := prog_13_method_98_code
def yX11_load : MethodName := ⟨RX11, "load", "(IIIIII)I"⟩
abbrev cX11_strainOf : ByteArray := prog_13_method_99_code
def yX11_strainOf : MethodName := ⟨RX11, "strainOf", "(III)J"⟩
abbrev cX11_strain : ByteArray := prog_13_method_100_code
def yX11_strain : MethodName := ⟨RX11, "strain", "(III)J"⟩
abbrev cX11_curve : ByteArray := prog_13_method_101_code
def yX11_curve : MethodName := ⟨RX11, "curve", "(IIIIIII)J"⟩
abbrev cX11_curved : ByteArray := prog_13_method_102_code
def yX11_curved : MethodName := ⟨RX11, "curved", "(I)J"⟩
abbrev cX11_form : ByteArray := prog_13_method_103_code
def yX11_form : MethodName := ⟨RX11, "form", "(II)J"⟩
abbrev cX11_wallFrom : ByteArray := prog_13_method_104_code
def yX11_wallFrom : MethodName := ⟨RX11, "wallFrom", "(II)I"⟩
abbrev cX11_wall : ByteArray := prog_13_method_105_code
def yX11_wall : MethodName := ⟨RX11, "wall", "(I)I"⟩
abbrev cX11_tilt : ByteArray := prog_13_method_106_code
def yX11_tilt : MethodName := ⟨RX11, "tilt", "(II)I"⟩
abbrev cX11_shieldAt : ByteArray := prog_13_method_107_code
def yX11_shieldAt : MethodName := ⟨RX11, "shieldAt", "(I)I"⟩
abbrev cX11_shield : ByteArray := prog_13_method_108_code
def yX11_shield : MethodName := ⟨RX11, "shield", "(I)I"⟩
abbrev cX11_crack : ByteArray := prog_13_method_109_code
def yX11_crack : MethodName := ⟨RX11, "crack", "(IIII)I"⟩
abbrev cX11_runsTo : ByteArray := prog_13_method_110_code
def yX11_runsTo : MethodName := ⟨RX11, "runsTo", "(IIII)I"⟩
abbrev cX11_count : ByteArray := prog_13_method_111_code
def yX11_count : MethodName := ⟨RX11, "count", "(I)J"⟩
def RJx145de : String := "java/io/Serializable"
def TJx145de : u_T := fun k => match k with
  | _ => ("", "", "", false)
def tyJx145de : Nat → FieldType := fun k => match k with
  | _ => .int
abbrev wsJx145de0 : List Cond := u_ws RJx145de TJx145de 0
theorem nmJx145de : ∀ a, a < 0 → ∀ b, b < 0 → a ≠ b → (TJx145de a).2.1 ≠ (TJx145de b).2.1 := by decide +kernel
theorem tyJx145de_ok : ∀ k, k < 0 → parseFieldDescriptor (TJx145de k).2.2.1 = some (tyJx145de k) := by decide +kernel
def RJx9f9b0 : String := "java/lang/CharSequence"
def TJx9f9b0 : u_T := fun k => match k with
  | _ => ("", "", "", false)
def tyJx9f9b0 : Nat → FieldType := fun k => match k with
  | _ => .int
abbrev wsJx9f9b00 : List Cond := u_ws RJx9f9b0 TJx9f9b0 0
theorem nmJx9f9b0 : ∀ a, a < 0 → ∀ b, b < 0 → a ≠ b → (TJx9f9b0 a).2.1 ≠ (TJx9f9b0 b).2.1 := by decide +kernel
theorem tyJx9f9b0_ok : ∀ k, k < 0 → parseFieldDescriptor (TJx9f9b0 k).2.2.1 = some (tyJx9f9b0 k) := by decide +kernel
def RJxb160c : String := "java/lang/Comparable"
def TJxb160c : u_T := fun k => match k with
  | _ => ("", "", "", false)
def tyJxb160c : Nat → FieldType := fun k => match k with
  | _ => .int
abbrev wsJxb160c0 : List Cond := u_ws RJxb160c TJxb160c 0
theorem nmJxb160c : ∀ a, a < 0 → ∀ b, b < 0 → a ≠ b → (TJxb160c a).2.1 ≠ (TJxb160c b).2.1 := by decide +kernel
theorem tyJxb160c_ok : ∀ k, k < 0 → parseFieldDescriptor (TJxb160c k).2.2.1 = some (tyJxb160c k) := by decide +kernel
def RJ9 : String := "java/lang/Math"
def TJ9 : u_T := fun k => match k with
  | _ => ("", "", "", false)
def tyJ9 : Nat → FieldType := fun k => match k with
  | _ => .int
abbrev wsJ90 : List Cond := u_ws RJ9 TJ9 0
theorem nmJ9 : ∀ a, a < 0 → ∀ b, b < 0 → a ≠ b → (TJ9 a).2.1 ≠ (TJ9 b).2.1 := by decide +kernel
theorem tyJ9_ok : ∀ k, k < 0 → parseFieldDescriptor (TJ9 k).2.2.1 = some (tyJ9 k) := by decide +kernel
abbrev cJ9_abs_0f7a4 : ByteArray := prog_14_method_59_code
def yJ9_abs_0f7a4 : MethodName := ⟨RJ9, "abs", "(I)I"⟩
abbrev cJ9_max_7cf53 : ByteArray := prog_14_method_65_code
def yJ9_max_7cf53 : MethodName := ⟨RJ9, "max", "(II)I"⟩
abbrev cJ9_min_7cf53 : ByteArray := prog_14_method_69_code
def yJ9_min_7cf53 : MethodName := ⟨RJ9, "min", "(II)I"⟩
def RJ0 : String := "java/lang/String"
def TJ0 : u_T := fun k => match k with
  | _ => ("", "", "", false)
def tyJ0 : Nat → FieldType := fun k => match k with
  | _ => .int
abbrev wsJ00 : List Cond := u_ws RJ0 TJ0 0
theorem nmJ0 : ∀ a, a < 0 → ∀ b, b < 0 → a ≠ b → (TJ0 a).2.1 ≠ (TJ0 b).2.1 := by decide +kernel
theorem tyJ0_ok : ∀ k, k < 0 → parseFieldDescriptor (TJ0 k).2.2.1 = some (tyJ0 k) := by decide +kernel
abbrev cJ0_length_8abf5 : ByteArray := prog_15_method_54_code
def yJ0_length_8abf5 : MethodName := ⟨RJ0, "length", "()I"⟩
abbrev cJ0_charAt_5068e : ByteArray := prog_15_method_56_code
def yJ0_charAt_5068e : MethodName := ⟨RJ0, "charAt", "(I)C"⟩
abbrev cJ0_coder_7d493 : ByteArray := prog_15_method_152_code
def yJ0_coder_7d493 : MethodName := ⟨RJ0, "coder", "()B"⟩
abbrev cJ0_isLatin1_aae02 : ByteArray := prog_15_method_154_code
def yJ0_isLatin1_aae02 : MethodName := ⟨RJ0, "isLatin1", "()Z"⟩
abbrev cJ0_checkIndex_df160 : ByteArray := prog_15_method_155_code
def yJ0_checkIndex_df160 : MethodName := ⟨RJ0, "checkIndex", "(II)V"⟩
def RJ1 : String := "java/lang/StringLatin1"
def TJ1 : u_T := fun k => match k with
  | _ => ("", "", "", false)
def tyJ1 : Nat → FieldType := fun k => match k with
  | _ => .int
abbrev wsJ10 : List Cond := u_ws RJ1 TJ1 0
theorem nmJ1 : ∀ a, a < 0 → ∀ b, b < 0 → a ≠ b → (TJ1 a).2.1 ≠ (TJ1 b).2.1 := by decide +kernel
theorem tyJ1_ok : ∀ k, k < 0 → parseFieldDescriptor (TJ1 k).2.2.1 = some (tyJ1 k) := by decide +kernel
abbrev cJ1_charAt_3b067 : ByteArray := prog_16_method_2_code
def yJ1_charAt_3b067 : MethodName := ⟨RJ1, "charAt", "([BI)C"⟩
def RJ2 : String := "java/lang/StringUTF16"
def TJ2 : u_T := fun k => match k with
  | _ => ("", "", "", false)
def tyJ2 : Nat → FieldType := fun k => match k with
  | _ => .int
abbrev wsJ20 : List Cond := u_ws RJ2 TJ2 0
theorem nmJ2 : ∀ a, a < 0 → ∀ b, b < 0 → a ≠ b → (TJ2 a).2.1 ≠ (TJ2 b).2.1 := by decide +kernel
theorem tyJ2_ok : ∀ k, k < 0 → parseFieldDescriptor (TJ2 k).2.2.1 = some (tyJ2 k) := by decide +kernel
abbrev cJ2_getChar_3b067 : ByteArray := prog_17_method_5_code
def yJ2_getChar_3b067 : MethodName := ⟨RJ2, "getChar", "([BI)C"⟩
abbrev cJ2_length_9d52b : ByteArray := prog_17_method_6_code
def yJ2_length_9d52b : MethodName := ⟨RJ2, "length", "([B)I"⟩
abbrev cJ2_charAt_3b067 : ByteArray := prog_17_method_83_code
def yJ2_charAt_3b067 : MethodName := ⟨RJ2, "charAt", "([BI)C"⟩
abbrev cJ2_checkIndex_2214a : ByteArray := prog_17_method_91_code
def yJ2_checkIndex_2214a : MethodName := ⟨RJ2, "checkIndex", "(I[B)V"⟩
def RJ10 : String := "java/lang/System"
def TJ10 : u_T := fun k => match k with
  | _ => ("", "", "", false)
def tyJ10 : Nat → FieldType := fun k => match k with
  | _ => .int
abbrev wsJ100 : List Cond := u_ws RJ10 TJ10 0
theorem nmJ10 : ∀ a, a < 0 → ∀ b, b < 0 → a ≠ b → (TJ10 a).2.1 ≠ (TJ10 b).2.1 := by decide +kernel
theorem tyJ10_ok : ∀ k, k < 0 → parseFieldDescriptor (TJ10 k).2.2.1 = some (tyJ10 k) := by decide +kernel
def RJxfd54e : String := "java/lang/constant/Constable"
def TJxfd54e : u_T := fun k => match k with
  | _ => ("", "", "", false)
def tyJxfd54e : Nat → FieldType := fun k => match k with
  | _ => .int
abbrev wsJxfd54e0 : List Cond := u_ws RJxfd54e TJxfd54e 0
theorem nmJxfd54e : ∀ a, a < 0 → ∀ b, b < 0 → a ≠ b → (TJxfd54e a).2.1 ≠ (TJxfd54e b).2.1 := by decide +kernel
theorem tyJxfd54e_ok : ∀ k, k < 0 → parseFieldDescriptor (TJxfd54e k).2.2.1 = some (tyJxfd54e k) := by decide +kernel
def RJx3cf43 : String := "java/lang/constant/ConstantDesc"
def TJx3cf43 : u_T := fun k => match k with
  | _ => ("", "", "", false)
def tyJx3cf43 : Nat → FieldType := fun k => match k with
  | _ => .int
abbrev wsJx3cf430 : List Cond := u_ws RJx3cf43 TJx3cf43 0
theorem nmJx3cf43 : ∀ a, a < 0 → ∀ b, b < 0 → a ≠ b → (TJx3cf43 a).2.1 ≠ (TJx3cf43 b).2.1 := by decide +kernel
theorem tyJx3cf43_ok : ∀ k, k < 0 → parseFieldDescriptor (TJx3cf43 k).2.2.1 = some (tyJx3cf43 k) := by decide +kernel
def RJ7 : String := "java/util/Arrays"
def TJ7 : u_T := fun k => match k with
  | _ => ("", "", "", false)
def tyJ7 : Nat → FieldType := fun k => match k with
  | _ => .int
abbrev wsJ70 : List Cond := u_ws RJ7 TJ7 0
theorem nmJ7 : ∀ a, a < 0 → ∀ b, b < 0 → a ≠ b → (TJ7 a).2.1 ≠ (TJ7 b).2.1 := by decide +kernel
theorem tyJ7_ok : ∀ k, k < 0 → parseFieldDescriptor (TJ7 k).2.2.1 = some (tyJ7 k) := by decide +kernel
abbrev cJ7_fill_53178 : ByteArray := prog_19_method_103_code
def yJ7_fill_53178 : MethodName := ⟨RJ7, "fill", "([II)V"⟩
def RJ3 : String := "jdk/internal/util/Preconditions"
def TJ3 : u_T := fun k => match k with
  | _ => ("", "", "", false)
def tyJ3 : Nat → FieldType := fun k => match k with
  | _ => .int
abbrev wsJ30 : List Cond := u_ws RJ3 TJ3 0
theorem nmJ3 : ∀ a, a < 0 → ∀ b, b < 0 → a ≠ b → (TJ3 a).2.1 ≠ (TJ3 b).2.1 := by decide +kernel
theorem tyJ3_ok : ∀ k, k < 0 → parseFieldDescriptor (TJ3 k).2.2.1 = some (tyJ3 k) := by decide +kernel
abbrev cJ3_checkIndex_8e157 : ByteArray := prog_20_method_11_code
def yJ3_checkIndex_8e157 : MethodName := ⟨RJ3, "checkIndex", "(IILjava/util/function/BiFunction;)I"⟩
def RL : String := "SlidingFlawsLaw"
abbrev cL_law : ByteArray := code
def yL_law : MethodName := ⟨RL, "law", "([I)Z"⟩
abbrev vwCl : List vw_C := [(RX0, TX0, 3), (RX1, TX1, 7), (RX2, TX2, 12), (RX3, TX3, 14), (RX4, TX4, 6), (RX5, TX5, 5), (RX6, TX6, 10), (RX7, TX7, 12), (RX8, TX8, 4), (RX9, TX9, 14), (RX10, TX10, 10), (RX11, TX11, 71)]

/-- the words that travel over calls -/
def GW : List Cond := lw_tbl.filter goodWord
theorem GW_of {w : Cond} (i : Nat) (h : lw_tbl[i]? = some w) (hg : goodWord w = true) : w ∈ GW := List.mem_filter.mpr ⟨List.mem_of_getElem? h, hg⟩
theorem GW_good {w : Cond} (h : w ∈ GW) : (w.onTables && w.keeps) = true ∨ ∃ ty, w = .arrayClass ty := good_of_word (List.mem_filter.mp h).2
theorem GW_code {w : Cond} (h : w ∈ GW) : GoodIn GW (w :: GW) := by
  intro x hx
  rcases List.mem_cons.mp hx with rfl | hx
  · exact ⟨h, GW_good h⟩
  · exact ⟨hx, GW_good hx⟩
