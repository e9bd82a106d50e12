section
-- ===== PART A: goes FIRST, ahead of the names: the tables' words, and 'selects' of the private methods out of them =====
/-- a private method of a class that the tables say can be made, by its rows of tables_1 -/
def lw_okq (q : MethodName × Nat) : Prop := (q.1.cls ≠ "java/lang/invoke/MethodHandle" ∧ q.1.cls ≠ "java/lang/invoke/VarHandle") ∧ Cond.instantiable q.1.cls q.2 ∈ tables_1 ∧ Cond.privateMethod q.1 ∈ tables_1 ∧ Cond.instanceMethod q.1 ∈ tables_1
theorem lw_p0 : lw_okq (⟨"BeepNet$Sheets", "hasPlaces", "(III)Z"⟩, 3) := ⟨⟨by decide +kernel, by decide +kernel⟩, List.mem_of_getElem? (i := 26) (by decide +kernel), List.mem_of_getElem? (i := 191) (by decide +kernel), List.mem_of_getElem? (i := 192) (by decide +kernel)⟩
theorem lw_p1 : lw_okq (⟨"BeepNet", "isPair", "(II)Z"⟩, 8) := ⟨⟨by decide +kernel, by decide +kernel⟩, List.mem_of_getElem? (i := 18) (by decide +kernel), List.mem_of_getElem? (i := 243) (by decide +kernel), List.mem_of_getElem? (i := 244) (by decide +kernel)⟩
theorem lw_p2 : lw_okq (⟨"BeepNet$Net", "oneStepFrom", "(I)I"⟩, 2) := ⟨⟨by decide +kernel, by decide +kernel⟩, List.mem_of_getElem? (i := 48) (by decide +kernel), List.mem_of_getElem? (i := 271) (by decide +kernel), List.mem_of_getElem? (i := 272) (by decide +kernel)⟩
theorem lw_p3 : lw_okq (⟨"BeepNet$Reader", "advance", "()V"⟩, 8) := ⟨⟨by decide +kernel, by decide +kernel⟩, List.mem_of_getElem? (i := 61) (by decide +kernel), List.mem_of_getElem? (i := 355) (by decide +kernel), List.mem_of_getElem? (i := 356) (by decide +kernel)⟩
theorem lw_p4 : lw_okq (⟨"BeepNet$Reader", "advanceName", "()V"⟩, 8) := ⟨⟨by decide +kernel, by decide +kernel⟩, List.mem_of_getElem? (i := 61) (by decide +kernel), List.mem_of_getElem? (i := 362) (by decide +kernel), List.mem_of_getElem? (i := 363) (by decide +kernel)⟩
theorem lw_p5 : lw_okq (⟨"BeepNet$Reader", "isWord", "(Ljava/lang/String;)Z"⟩, 8) := ⟨⟨by decide +kernel, by decide +kernel⟩, List.mem_of_getElem? (i := 61) (by decide +kernel), List.mem_of_getElem? (i := 367) (by decide +kernel), List.mem_of_getElem? (i := 368) (by decide +kernel)⟩
theorem lw_p6 : lw_okq (⟨"BeepNet$Reader", "advanceNumber", "()V"⟩, 8) := ⟨⟨by decide +kernel, by decide +kernel⟩, List.mem_of_getElem? (i := 61) (by decide +kernel), List.mem_of_getElem? (i := 424) (by decide +kernel), List.mem_of_getElem? (i := 425) (by decide +kernel)⟩
theorem lw_p7 : lw_okq (⟨"BeepNet$Reader", "readRound", "(I)I"⟩, 8) := ⟨⟨by decide +kernel, by decide +kernel⟩, List.mem_of_getElem? (i := 61) (by decide +kernel), List.mem_of_getElem? (i := 428) (by decide +kernel), List.mem_of_getElem? (i := 429) (by decide +kernel)⟩
theorem lw_p8 : lw_okq (⟨"BeepNet$Reader", "faultOfWord", "()I"⟩, 8) := ⟨⟨by decide +kernel, by decide +kernel⟩, List.mem_of_getElem? (i := 61) (by decide +kernel), List.mem_of_getElem? (i := 432) (by decide +kernel), List.mem_of_getElem? (i := 433) (by decide +kernel)⟩
theorem lw_p9 : lw_okq (⟨"BeepNet$Reader", "soundsAtWord", "(I)I"⟩, 8) := ⟨⟨by decide +kernel, by decide +kernel⟩, List.mem_of_getElem? (i := 61) (by decide +kernel), List.mem_of_getElem? (i := 436) (by decide +kernel), List.mem_of_getElem? (i := 437) (by decide +kernel)⟩
theorem lw_p10 : lw_okq (⟨"BeepNet$Reader", "readNumbers", "(I)I"⟩, 8) := ⟨⟨by decide +kernel, by decide +kernel⟩, List.mem_of_getElem? (i := 61) (by decide +kernel), List.mem_of_getElem? (i := 440) (by decide +kernel), List.mem_of_getElem? (i := 441) (by decide +kernel)⟩
theorem lw_p11 : lw_okq (⟨"BeepNet$Search", "fewestBehindOneRound", "(I)I"⟩, 4) := ⟨⟨by decide +kernel, by decide +kernel⟩, List.mem_of_getElem? (i := 105) (by decide +kernel), List.mem_of_getElem? (i := 505) (by decide +kernel), List.mem_of_getElem? (i := 506) (by decide +kernel)⟩
theorem lw_p12 : lw_okq (⟨"BeepNet$Search", "leavesSomeUntold", "(IIII)Z"⟩, 4) := ⟨⟨by decide +kernel, by decide +kernel⟩, List.mem_of_getElem? (i := 105) (by decide +kernel), List.mem_of_getElem? (i := 531) (by decide +kernel), List.mem_of_getElem? (i := 532) (by decide +kernel)⟩
theorem lw_p13 : lw_okq (⟨"BeepNet$Search", "drawOneRound", "(III)V"⟩, 4) := ⟨⟨by decide +kernel, by decide +kernel⟩, List.mem_of_getElem? (i := 105) (by decide +kernel), List.mem_of_getElem? (i := 549) (by decide +kernel), List.mem_of_getElem? (i := 550) (by decide +kernel)⟩
theorem lw_p14 : lw_okq (⟨"BeepNet$Search", "drawFrom", "(II)V"⟩, 4) := ⟨⟨by decide +kernel, by decide +kernel⟩, List.mem_of_getElem? (i := 105) (by decide +kernel), List.mem_of_getElem? (i := 553) (by decide +kernel), List.mem_of_getElem? (i := 554) (by decide +kernel)⟩
theorem lw_p15 : lw_okq (⟨"BeepNet", "firstUnpicked", "(IIII)I"⟩, 8) := ⟨⟨by decide +kernel, by decide +kernel⟩, List.mem_of_getElem? (i := 18) (by decide +kernel), List.mem_of_getElem? (i := 562) (by decide +kernel), List.mem_of_getElem? (i := 563) (by decide +kernel)⟩
def lw_privs_1 : List (MethodName × Nat) := [(⟨"BeepNet$Sheets", "hasPlaces", "(III)Z"⟩, 3), (⟨"BeepNet", "isPair", "(II)Z"⟩, 8), (⟨"BeepNet$Net", "oneStepFrom", "(I)I"⟩, 2), (⟨"BeepNet$Reader", "advance", "()V"⟩, 8), (⟨"BeepNet$Reader", "advanceName", "()V"⟩, 8), (⟨"BeepNet$Reader", "isWord", "(Ljava/lang/String;)Z"⟩, 8), (⟨"BeepNet$Reader", "advanceNumber", "()V"⟩, 8), (⟨"BeepNet$Reader", "readRound", "(I)I"⟩, 8), (⟨"BeepNet$Reader", "faultOfWord", "()I"⟩, 8), (⟨"BeepNet$Reader", "soundsAtWord", "(I)I"⟩, 8), (⟨"BeepNet$Reader", "readNumbers", "(I)I"⟩, 8), (⟨"BeepNet$Search", "fewestBehindOneRound", "(I)I"⟩, 4), (⟨"BeepNet$Search", "leavesSomeUntold", "(IIII)Z"⟩, 4), (⟨"BeepNet$Search", "drawOneRound", "(III)V"⟩, 4), (⟨"BeepNet$Search", "drawFrom", "(II)V"⟩, 4), (⟨"BeepNet", "firstUnpicked", "(IIII)I"⟩, 8)]
theorem lw_r1 : ∀ q ∈ lw_privs_1, lw_okq q := List.forall_mem_cons.mpr ⟨lw_p0, List.forall_mem_cons.mpr ⟨lw_p1, List.forall_mem_cons.mpr ⟨lw_p2, List.forall_mem_cons.mpr ⟨lw_p3, List.forall_mem_cons.mpr ⟨lw_p4, List.forall_mem_cons.mpr ⟨lw_p5, List.forall_mem_cons.mpr ⟨lw_p6, List.forall_mem_cons.mpr ⟨lw_p7, List.forall_mem_cons.mpr ⟨lw_p8, List.forall_mem_cons.mpr ⟨lw_p9, List.forall_mem_cons.mpr ⟨lw_p10, List.forall_mem_cons.mpr ⟨lw_p11, List.forall_mem_cons.mpr ⟨lw_p12, List.forall_mem_cons.mpr ⟨lw_p13, List.forall_mem_cons.mpr ⟨lw_p14, List.forall_mem_cons.mpr ⟨lw_p15, fun _ h => absurd h List.not_mem_nil⟩⟩⟩⟩⟩⟩⟩⟩⟩⟩⟩⟩⟩⟩⟩⟩
theorem lw_p16 : lw_okq (⟨"BeepNet$Net", "mostNeighbours", "()I"⟩, 2) := ⟨⟨by decide +kernel, by decide +kernel⟩, List.mem_of_getElem? (i := 48) (by decide +kernel), List.mem_of_getElem? (i := 581) (by decide +kernel), List.mem_of_getElem? (i := 582) (by decide +kernel)⟩
theorem lw_p17 : lw_okq (⟨"BeepNet$Asks", "sizeOf", "(II)I"⟩, 3) := ⟨⟨by decide +kernel, by decide +kernel⟩, List.mem_of_getElem? (i := 125) (by decide +kernel), List.mem_of_getElem? (i := 605) (by decide +kernel), List.mem_of_getElem? (i := 606) (by decide +kernel)⟩
theorem lw_p18 : lw_okq (⟨"BeepNet$Asks", "sizeOfLeaf", "(I)I"⟩, 3) := ⟨⟨by decide +kernel, by decide +kernel⟩, List.mem_of_getElem? (i := 125) (by decide +kernel), List.mem_of_getElem? (i := 610) (by decide +kernel), List.mem_of_getElem? (i := 611) (by decide +kernel)⟩
theorem lw_p19 : lw_okq (⟨"BeepNet$Asks", "leave", "(I)V"⟩, 3) := ⟨⟨by decide +kernel, by decide +kernel⟩, List.mem_of_getElem? (i := 125) (by decide +kernel), List.mem_of_getElem? (i := 614) (by decide +kernel), List.mem_of_getElem? (i := 615) (by decide +kernel)⟩
theorem lw_p20 : lw_okq (⟨"BeepNet$Asks", "sizeOfLinked", "(I)I"⟩, 3) := ⟨⟨by decide +kernel, by decide +kernel⟩, List.mem_of_getElem? (i := 125) (by decide +kernel), List.mem_of_getElem? (i := 618) (by decide +kernel), List.mem_of_getElem? (i := 619) (by decide +kernel)⟩
theorem lw_p21 : lw_okq (⟨"BeepNet$Asks", "sizeLent", "(I)I"⟩, 3) := ⟨⟨by decide +kernel, by decide +kernel⟩, List.mem_of_getElem? (i := 125) (by decide +kernel), List.mem_of_getElem? (i := 622) (by decide +kernel), List.mem_of_getElem? (i := 623) (by decide +kernel)⟩
theorem lw_p22 : lw_okq (⟨"BeepNet$Asks", "sizeOfHub", "(II)I"⟩, 3) := ⟨⟨by decide +kernel, by decide +kernel⟩, List.mem_of_getElem? (i := 125) (by decide +kernel), List.mem_of_getElem? (i := 628) (by decide +kernel), List.mem_of_getElem? (i := 629) (by decide +kernel)⟩
theorem lw_p23 : lw_okq (⟨"BeepNet$Asks", "markOf", "(II)I"⟩, 3) := ⟨⟨by decide +kernel, by decide +kernel⟩, List.mem_of_getElem? (i := 125) (by decide +kernel), List.mem_of_getElem? (i := 632) (by decide +kernel), List.mem_of_getElem? (i := 633) (by decide +kernel)⟩
theorem lw_p24 : lw_okq (⟨"BeepNet$Asks", "markOfHub", "(I)I"⟩, 3) := ⟨⟨by decide +kernel, by decide +kernel⟩, List.mem_of_getElem? (i := 125) (by decide +kernel), List.mem_of_getElem? (i := 636) (by decide +kernel), List.mem_of_getElem? (i := 637) (by decide +kernel)⟩
theorem lw_p25 : lw_okq (⟨"BeepNet$Asks", "markLent", "(I)I"⟩, 3) := ⟨⟨by decide +kernel, by decide +kernel⟩, List.mem_of_getElem? (i := 125) (by decide +kernel), List.mem_of_getElem? (i := 640) (by decide +kernel), List.mem_of_getElem? (i := 641) (by decide +kernel)⟩
theorem lw_p26 : lw_okq (⟨"BeepNet$Asks", "markOfLone", "(II)I"⟩, 3) := ⟨⟨by decide +kernel, by decide +kernel⟩, List.mem_of_getElem? (i := 125) (by decide +kernel), List.mem_of_getElem? (i := 644) (by decide +kernel), List.mem_of_getElem? (i := 645) (by decide +kernel)⟩
theorem lw_p27 : lw_okq (⟨"BeepNetModel", "found", "(I)I"⟩, 28) := ⟨⟨by decide +kernel, by decide +kernel⟩, List.mem_of_getElem? (i := 681) (by decide +kernel), List.mem_of_getElem? (i := 786) (by decide +kernel), List.mem_of_getElem? (i := 787) (by decide +kernel)⟩
theorem lw_p28 : lw_okq (⟨"BeepNetModel", "isPost", "(I)Z"⟩, 28) := ⟨⟨by decide +kernel, by decide +kernel⟩, List.mem_of_getElem? (i := 681) (by decide +kernel), List.mem_of_getElem? (i := 812) (by decide +kernel), List.mem_of_getElem? (i := 813) (by decide +kernel)⟩
theorem lw_p29 : lw_okq (⟨"BeepNetModel", "farOf", "(II)I"⟩, 28) := ⟨⟨by decide +kernel, by decide +kernel⟩, List.mem_of_getElem? (i := 681) (by decide +kernel), List.mem_of_getElem? (i := 824) (by decide +kernel), List.mem_of_getElem? (i := 825) (by decide +kernel)⟩
theorem lw_p30 : lw_okq (⟨"BeepNetModel", "around", "(I)I"⟩, 28) := ⟨⟨by decide +kernel, by decide +kernel⟩, List.mem_of_getElem? (i := 681) (by decide +kernel), List.mem_of_getElem? (i := 828) (by decide +kernel), List.mem_of_getElem? (i := 829) (by decide +kernel)⟩
theorem lw_p31 : lw_okq (⟨"BeepNetModel", "widthOf", "(I)I"⟩, 28) := ⟨⟨by decide +kernel, by decide +kernel⟩, List.mem_of_getElem? (i := 681) (by decide +kernel), List.mem_of_getElem? (i := 841) (by decide +kernel), List.mem_of_getElem? (i := 842) (by decide +kernel)⟩
def lw_privs_2 : List (MethodName × Nat) := [(⟨"BeepNet$Net", "mostNeighbours", "()I"⟩, 2), (⟨"BeepNet$Asks", "sizeOf", "(II)I"⟩, 3), (⟨"BeepNet$Asks", "sizeOfLeaf", "(I)I"⟩, 3), (⟨"BeepNet$Asks", "leave", "(I)V"⟩, 3), (⟨"BeepNet$Asks", "sizeOfLinked", "(I)I"⟩, 3), (⟨"BeepNet$Asks", "sizeLent", "(I)I"⟩, 3), (⟨"BeepNet$Asks", "sizeOfHub", "(II)I"⟩, 3), (⟨"BeepNet$Asks", "markOf", "(II)I"⟩, 3), (⟨"BeepNet$Asks", "markOfHub", "(I)I"⟩, 3), (⟨"BeepNet$Asks", "markLent", "(I)I"⟩, 3), (⟨"BeepNet$Asks", "markOfLone", "(II)I"⟩, 3), (⟨"BeepNetModel", "found", "(I)I"⟩, 28), (⟨"BeepNetModel", "isPost", "(I)Z"⟩, 28), (⟨"BeepNetModel", "farOf", "(II)I"⟩, 28), (⟨"BeepNetModel", "around", "(I)I"⟩, 28), (⟨"BeepNetModel", "widthOf", "(I)I"⟩, 28)]
theorem lw_r2 : ∀ q ∈ lw_privs_2, lw_okq q := List.forall_mem_cons.mpr ⟨lw_p16, List.forall_mem_cons.mpr ⟨lw_p17, List.forall_mem_cons.mpr ⟨lw_p18, List.forall_mem_cons.mpr ⟨lw_p19, List.forall_mem_cons.mpr ⟨lw_p20, List.forall_mem_cons.mpr ⟨lw_p21, List.forall_mem_cons.mpr ⟨lw_p22, List.forall_mem_cons.mpr ⟨lw_p23, List.forall_mem_cons.mpr ⟨lw_p24, List.forall_mem_cons.mpr ⟨lw_p25, List.forall_mem_cons.mpr ⟨lw_p26, List.forall_mem_cons.mpr ⟨lw_p27, List.forall_mem_cons.mpr ⟨lw_p28, List.forall_mem_cons.mpr ⟨lw_p29, List.forall_mem_cons.mpr ⟨lw_p30, List.forall_mem_cons.mpr ⟨lw_p31, fun _ h => absurd h List.not_mem_nil⟩⟩⟩⟩⟩⟩⟩⟩⟩⟩⟩⟩⟩⟩⟩⟩
theorem lw_p32 : lw_okq (⟨"BeepNetModel", "reach", "(I)I"⟩, 28) := ⟨⟨by decide +kernel, by decide +kernel⟩, List.mem_of_getElem? (i := 681) (by decide +kernel), List.mem_of_getElem? (i := 845) (by decide +kernel), List.mem_of_getElem? (i := 846) (by decide +kernel)⟩
theorem lw_p33 : lw_okq (⟨"BeepNetModel", "isSet", "(I)Z"⟩, 28) := ⟨⟨by decide +kernel, by decide +kernel⟩, List.mem_of_getElem? (i := 681) (by decide +kernel), List.mem_of_getElem? (i := 856) (by decide +kernel), List.mem_of_getElem? (i := 857) (by decide +kernel)⟩
theorem lw_p34 : lw_okq (⟨"BeepNetModel", "all", "()I"⟩, 28) := ⟨⟨by decide +kernel, by decide +kernel⟩, List.mem_of_getElem? (i := 681) (by decide +kernel), List.mem_of_getElem? (i := 860) (by decide +kernel), List.mem_of_getElem? (i := 861) (by decide +kernel)⟩
theorem lw_p35 : lw_okq (⟨"BeepNetModel", "hearing", "(II)I"⟩, 28) := ⟨⟨by decide +kernel, by decide +kernel⟩, List.mem_of_getElem? (i := 681) (by decide +kernel), List.mem_of_getElem? (i := 864) (by decide +kernel), List.mem_of_getElem? (i := 865) (by decide +kernel)⟩
theorem lw_p36 : lw_okq (⟨"BeepNetModel", "spread", "(III)I"⟩, 28) := ⟨⟨by decide +kernel, by decide +kernel⟩, List.mem_of_getElem? (i := 681) (by decide +kernel), List.mem_of_getElem? (i := 872) (by decide +kernel), List.mem_of_getElem? (i := 873) (by decide +kernel)⟩
theorem lw_p37 : lw_okq (⟨"BeepNetModel", "step", "()V"⟩, 28) := ⟨⟨by decide +kernel, by decide +kernel⟩, List.mem_of_getElem? (i := 681) (by decide +kernel), List.mem_of_getElem? (i := 886) (by decide +kernel), List.mem_of_getElem? (i := 887) (by decide +kernel)⟩
theorem lw_p38 : lw_okq (⟨"BeepNetModel", "byteAt", "(I)I"⟩, 28) := ⟨⟨by decide +kernel, by decide +kernel⟩, List.mem_of_getElem? (i := 681) (by decide +kernel), List.mem_of_getElem? (i := 890) (by decide +kernel), List.mem_of_getElem? (i := 891) (by decide +kernel)⟩
theorem lw_p39 : lw_okq (⟨"BeepNetModel", "readRound", "()V"⟩, 28) := ⟨⟨by decide +kernel, by decide +kernel⟩, List.mem_of_getElem? (i := 681) (by decide +kernel), List.mem_of_getElem? (i := 900) (by decide +kernel), List.mem_of_getElem? (i := 901) (by decide +kernel)⟩
theorem lw_p40 : lw_okq (⟨"BeepNetModel", "word", "()J"⟩, 28) := ⟨⟨by decide +kernel, by decide +kernel⟩, List.mem_of_getElem? (i := 681) (by decide +kernel), List.mem_of_getElem? (i := 904) (by decide +kernel), List.mem_of_getElem? (i := 905) (by decide +kernel)⟩
theorem lw_p41 : lw_okq (⟨"BeepNetModel", "bad", "(I)V"⟩, 28) := ⟨⟨by decide +kernel, by decide +kernel⟩, List.mem_of_getElem? (i := 681) (by decide +kernel), List.mem_of_getElem? (i := 911) (by decide +kernel), List.mem_of_getElem? (i := 912) (by decide +kernel)⟩
theorem lw_p42 : lw_okq (⟨"BeepNetModel", "need", "(Z)V"⟩, 28) := ⟨⟨by decide +kernel, by decide +kernel⟩, List.mem_of_getElem? (i := 681) (by decide +kernel), List.mem_of_getElem? (i := 915) (by decide +kernel), List.mem_of_getElem? (i := 916) (by decide +kernel)⟩
theorem lw_p43 : lw_okq (⟨"BeepNetModel", "soundsIn", "(I)I"⟩, 28) := ⟨⟨by decide +kernel, by decide +kernel⟩, List.mem_of_getElem? (i := 681) (by decide +kernel), List.mem_of_getElem? (i := 928) (by decide +kernel), List.mem_of_getElem? (i := 929) (by decide +kernel)⟩
theorem lw_p44 : lw_okq (⟨"BeepNetModel", "findFewest", "(II)V"⟩, 28) := ⟨⟨by decide +kernel, by decide +kernel⟩, List.mem_of_getElem? (i := 681) (by decide +kernel), List.mem_of_getElem? (i := 942) (by decide +kernel), List.mem_of_getElem? (i := 943) (by decide +kernel)⟩
theorem lw_p45 : lw_okq (⟨"BeepNetModel", "kindOf", "(I)I"⟩, 28) := ⟨⟨by decide +kernel, by decide +kernel⟩, List.mem_of_getElem? (i := 681) (by decide +kernel), List.mem_of_getElem? (i := 966) (by decide +kernel), List.mem_of_getElem? (i := 967) (by decide +kernel)⟩
theorem lw_p46 : lw_okq (⟨"BeepNetModel", "sized", "(I)I"⟩, 28) := ⟨⟨by decide +kernel, by decide +kernel⟩, List.mem_of_getElem? (i := 681) (by decide +kernel), List.mem_of_getElem? (i := 981) (by decide +kernel), List.mem_of_getElem? (i := 982) (by decide +kernel)⟩
theorem lw_p47 : lw_okq (⟨"BeepNetModel", "began", "(I)V"⟩, 28) := ⟨⟨by decide +kernel, by decide +kernel⟩, List.mem_of_getElem? (i := 681) (by decide +kernel), List.mem_of_getElem? (i := 985) (by decide +kernel), List.mem_of_getElem? (i := 986) (by decide +kernel)⟩
def lw_privs_3 : List (MethodName × Nat) := [(⟨"BeepNetModel", "reach", "(I)I"⟩, 28), (⟨"BeepNetModel", "isSet", "(I)Z"⟩, 28), (⟨"BeepNetModel", "all", "()I"⟩, 28), (⟨"BeepNetModel", "hearing", "(II)I"⟩, 28), (⟨"BeepNetModel", "spread", "(III)I"⟩, 28), (⟨"BeepNetModel", "step", "()V"⟩, 28), (⟨"BeepNetModel", "byteAt", "(I)I"⟩, 28), (⟨"BeepNetModel", "readRound", "()V"⟩, 28), (⟨"BeepNetModel", "word", "()J"⟩, 28), (⟨"BeepNetModel", "bad", "(I)V"⟩, 28), (⟨"BeepNetModel", "need", "(Z)V"⟩, 28), (⟨"BeepNetModel", "soundsIn", "(I)I"⟩, 28), (⟨"BeepNetModel", "findFewest", "(II)V"⟩, 28), (⟨"BeepNetModel", "kindOf", "(I)I"⟩, 28), (⟨"BeepNetModel", "sized", "(I)I"⟩, 28), (⟨"BeepNetModel", "began", "(I)V"⟩, 28)]
theorem lw_r3 : ∀ q ∈ lw_privs_3, lw_okq q := List.forall_mem_cons.mpr ⟨lw_p32, List.forall_mem_cons.mpr ⟨lw_p33, List.forall_mem_cons.mpr ⟨lw_p34, List.forall_mem_cons.mpr ⟨lw_p35, List.forall_mem_cons.mpr ⟨lw_p36, List.forall_mem_cons.mpr ⟨lw_p37, List.forall_mem_cons.mpr ⟨lw_p38, List.forall_mem_cons.mpr ⟨lw_p39, List.forall_mem_cons.mpr ⟨lw_p40, List.forall_mem_cons.mpr ⟨lw_p41, List.forall_mem_cons.mpr ⟨lw_p42, List.forall_mem_cons.mpr ⟨lw_p43, List.forall_mem_cons.mpr ⟨lw_p44, List.forall_mem_cons.mpr ⟨lw_p45, List.forall_mem_cons.mpr ⟨lw_p46, List.forall_mem_cons.mpr ⟨lw_p47, fun _ h => absurd h List.not_mem_nil⟩⟩⟩⟩⟩⟩⟩⟩⟩⟩⟩⟩⟩⟩⟩⟩
theorem lw_p48 : lw_okq (⟨"BeepNetModel", "marked", "(I)I"⟩, 28) := ⟨⟨by decide +kernel, by decide +kernel⟩, List.mem_of_getElem? (i := 681) (by decide +kernel), List.mem_of_getElem? (i := 989) (by decide +kernel), List.mem_of_getElem? (i := 990) (by decide +kernel)⟩
def lw_privs_4 : List (MethodName × Nat) := [(⟨"BeepNetModel", "marked", "(I)I"⟩, 28)]
theorem lw_r4 : ∀ q ∈ lw_privs_4, lw_okq q := List.forall_mem_cons.mpr ⟨lw_p48, fun _ h => absurd h List.not_mem_nil⟩
def lw_privs : List (MethodName × Nat) := lw_privs_1 ++ (lw_privs_2 ++ (lw_privs_3 ++ (lw_privs_4)))
def lw_tbl : List Cond := k2_sels lw_privs ++ tables_1
theorem lw_privs_ok : ∀ q ∈ lw_privs, lw_okq q := by
  show ∀ q ∈ lw_privs_1 ++ (lw_privs_2 ++ (lw_privs_3 ++ (lw_privs_4))), lw_okq q
  exact List.forall_mem_append.mpr ⟨lw_r1, List.forall_mem_append.mpr ⟨lw_r2, List.forall_mem_append.mpr ⟨lw_r3, lw_r4⟩⟩⟩
-- ===== end of PART A; then your names; then what follows =====
end
section
/-! ===== BEGIN words of one list among another's, by their places ===== -/
theorem goodIn_r {big : List Cond} (ws : List Cond) (ps : List Nat) (hp : ws = ps.filterMap (fun i => big[i]?)) (h : ws.all goodWord = true) : GoodIn big ws := by
  intro w hw
  have h1 := List.all_eq_true.mp h w hw
  rw [hp] at hw
  obtain ⟨i, -, hi⟩ := List.mem_filterMap.mp hw
  have hm : w ∈ big := by first | exact List.mem_of_getElem? hi | exact List.getElem?_mem hi
  exact ⟨hm, good_of_word h1⟩
theorem goodIn_app {big a b : List Cond} (ha : GoodIn big a) (hb : GoodIn big b) : GoodIn big (a ++ b) := fun w h => (List.mem_append.mp h).elim (ha w) (hb w)
theorem goodIn_ca {big a b : List Cond} {c : Cond} (ha : GoodIn big (c :: a)) (hb : GoodIn big b) : GoodIn big (c :: (a ++ b)) := fun w h => (List.mem_cons.mp h).elim (fun e => ha w (List.mem_cons.mpr (Or.inl e))) (fun h => (List.mem_append.mp h).elim (fun h => ha w (List.mem_cons.mpr (Or.inr h))) (hb w))
theorem goodIn_sub {big ws : List Cond} (hm : ∀ w ∈ ws, w ∈ big) (h : ws.all goodWord = true) : GoodIn big ws := fun w hw => ⟨hm w hw, good_of_word (List.all_eq_true.mp h w hw)⟩
/-! ===== END ===== -/

/-! ===== BEGIN new T[n][m]: the outer array a place, the inner ones among the pooled ===== -/
/-- f, but v at every address of l -/
def vr_up {α : Type} (f : Nat → α) (l : List Nat) (v : α) : Nat → α := fun a => if a ∈ l then v else f a
theorem vr_up_in {α : Type} {f : Nat → α} {l : List Nat} {v : α} {a : Nat} (h : a ∈ l) : vr_up f l v a = v := if_pos h
theorem vr_up_ne {α : Type} {f : Nat → α} {l : List Nat} {v : α} {a : Nat} (h : a ∉ l) : vr_up f l v a = f a := if_neg h
theorem vr_rows {L l : List Nat} {f : Nat → va_E} {e : va_E} (h : ∀ a, a ∈ l → a ∉ L) : va_pl L f ++ l.map (fun a => (a, e)) = va_pl (L ++ l) (vr_up f l e) := by
  unfold va_pl
  rw [List.map_append]
  congr 1
  · apply List.map_congr_left
    intro a ha
    rw [vr_up_ne (fun q => h a q ha)]
  · apply List.map_congr_left
    intro a ha
    rw [vr_up_in ha]
theorem vr_lay {X rows : va_W} {x : Nat × va_E} {pl : va_W} {D : va_G} {cl : List vw_C} {H : Heap} (hP : va_P D cl (((X ++ pl) ++ [x]) ++ rows) H) : va_P D cl ((X ++ [x]) ++ (pl ++ rows)) H := by
  rw [List.append_assoc (X ++ pl)] at hP
  have h := va_P.swap hP
  rw [← List.append_assoc X] at h
  have h2 := va_P.swap h
  rw [List.append_assoc (X ++ [x])] at h2
  exact h2
theorem vr_layD {X rows : va_W} {x : Nat × va_E} {pl : va_W} {A : Nat → Prop} (hD : va_D A (((X ++ pl) ++ [x]) ++ rows)) : va_D A ((X ++ [x]) ++ (pl ++ rows)) := by
  rw [List.append_assoc (X ++ pl)] at hD
  have h := va_D.swap hD
  rw [← List.append_assoc X] at h
  have h2 := va_D.swap h
  rw [List.append_assoc (X ++ [x])] at h2
  exact h2
theorem vr_outer (c : ClassId) (N h0 : Nat) : ∀ i : Nat, Jvm.Free.Multi.outerC c N h0 i = arrV c N (fun j => va_rf (if j < i then some (h0 + 1 + j) else none))
  | 0 => by
    show ({ cls := c, slots := Array.replicate N .null, vm := .none } : Cell) = _
    rw [arrV_new]
    refine congrArg (arrV c N) (funext fun j => ?_)
    simp [va_rf]
  | i + 1 => by
    show (Jvm.Free.Multi.outerC c N h0 i).setSlot i (.ref (h0 + 1 + i)) = _
    rw [vr_outer c N h0 i, arrV_store]
    refine congrArg (arrV c N) (funext fun j => ?_)
    by_cases e : j = i
    · subst e
      simp [updV, va_rf]
    · by_cases h : j < i
      · simp [updV, e, h, Nat.lt_succ_of_lt h]
      · simp [updV, e, h, show ¬ j < i + 1 by omega]
def va_AOA (t : FieldType) (U : State) : Prop := (Cond.arrayOver (.array t)).before #[] U = true
theorem va_AOA.use {t : FieldType} {A : Array Value} {U : State} (h : va_AOA t U) : (Cond.arrayOver (.array t)).before A U = true := h
section VGM
variable {p : Program} {l : Launch} {e : Env} {R : Room} {s : State} {m : MethodId} {args : Array Value} {below : List Frame} {meth : Method} {c : Code} {H : Heap} {locs : List Loc} {cells slots : Nat} {Q : State → Prop}
variable {cc : ByteArray} {pc : Nat} {ls : Array Slot} {rest : List Value} {D : va_G} {cl : List vw_C} {A : Nat → Prop} {a : Nat} {tys : List (ClassId × FieldType)} {ws : va_W} {H0 : Heap}
theorem va_mna {X : va_W} {L : List Nat} {f : Nat → va_E} {cc : ByteArray} (hexec : p.tables.exec = Jvm.exec) (hb : c.code = cc) {own : String} {index : Nat} {ty : FieldType} {cy : ClassId} (hown : s.vm.findClass own = some m.cls) (hclink : (Cond.classLink own index ("[" ++ (FieldType.array ty).toString)).before args s = true) (hover : va_AOA ty s) (harr : (Cond.arrayClass ty).before args s = true) (hcy : s.vm.findClass (FieldType.array ty).toString = some cy)
    (hK : va_K D cl tys s) (hP : va_P D cl (X ++ va_pl L f) H) (hD : va_D A (X ++ va_pl L f)) (hS : va_S A H0 H locs) (hA : ∀ q, H0.size ≤ q → A q) {n k : Int32} {N' K' : Nat} {z : vp_A} (hn : ¬ n < 0) (hk : ¬ k < 0) (hN : n.toNatClampNeg = N') (hM : k.toNatClampNeg = K')
    (hb1 : N' * 4 ≤ 536870912) (hb2 : K' * componentBytes ty ≤ 536870912) (hb3 : K' ≤ 536870912) (hdf : fits ty (defaultValue ty) = true) (hdd : (defaultValue ty).isDefault = true) (hcells : cells + (1 + N') ≤ R.cells) (hslots : slots + (N' + N' * K') ≤ R.slots) (hz : ∀ c : ClassId, Jvm.Free.Multi.innerC c K' (defaultValue ty) = vp_cell c z) (hdg : decode cc pc = .ok (.multianewarray index 2, 4))
    (kk : ∀ (q : Nat) (r : Nat → Nat) (cA : ClassId) (H1 : Heap), (∀ i j : Nat, i < N' → j < N' → r i = r j → i = j) → (∀ i : Nat, i < N' → r i ∉ L) → va_K D cl (tys ++ [(cA, .array ty)]) s →
      va_P D cl ((X ++ [(q, .inl (cA, N', .inr (.inr (.inr (.inr (fun i => if i < N' then some (r i) else none))))))]) ++ va_pl (L ++ (List.range N').map r) (vr_up f ((List.range N').map r) (.inl (cy, z)))) H1 → va_D A ((X ++ [(q, .inl (cA, N', .inr (.inr (.inr (.inr (fun i => if i < N' then some (r i) else none))))))]) ++ va_pl (L ++ (List.range N').map r) (vr_up f ((List.range N').map r) (.inl (cy, z)))) → va_S A H0 H1 locs →
      W p l e R s m args below meth c H1 locs (cells + 1 + N') (slots + N' + N' * K') Q (F0 m (pc + 4) ls (.ref q :: rest))) : W p l e R s m args below meth c H locs cells slots Q (F0 m pc ls (.int k :: .int n :: rest)) := by
  subst hN
  subst hM
  intro T hT Xs
  obtain ⟨vm₁, cA, comp, -, fA, fC, hO, -, X', step⟩ := Xs.multianewarray2F hexec hown hclink (va_AOA.use hover) harr (g := F0 m pc ls (.int k :: .int n :: rest)) rfl (by rw [hb]; exact hdg) rfl hn hk hb1 hb2 hb3 hdf hdd hcells hslots
  have ec : some cy = some comp := hcy.symm.trans fC
  cases ec
  generalize hF : Jvm.Free.Multi.fill (T.setVm vm₁) cA cy n.toNatClampNeg k.toNatClampNeg (defaultValue ty) n.toNatClampNeg = F at X' step
  have hTh : (T.setVm vm₁).heap = H := hT
  obtain ⟨f1, f2, -, -⟩ := Jvm.Free.Multi.fill_facts (T.setVm vm₁) cA cy n.toNatClampNeg k.toNatClampNeg (defaultValue ty) n.toNatClampNeg
  rw [hF, hTh] at f1 f2
  have hold : ∀ x : Nat, x < H.size → F.heap[x]? = H[x]? := fun x hx => by
    have := Jvm.Free.Multi.fill_old (T.setVm vm₁) cA cy n.toNatClampNeg k.toNatClampNeg (defaultValue ty) (a := x) (by rw [hTh]; exact hx) n.toNatClampNeg
    rw [hF, hTh] at this
    exact this
  have hrow : ∀ j : Nat, j < n.toNatClampNeg → F.heap[H.size + 1 + j]? = some (vp_cell cy z) := fun j hj => by
    have := Jvm.Free.Multi.fill_inner (T.setVm vm₁) cA cy n.toNatClampNeg k.toNatClampNeg (defaultValue ty) n.toNatClampNeg j hj
    rw [hF, hTh, hz] at this
    exact this
  have hout : Jvm.Free.Multi.outerC cA n.toNatClampNeg H.size n.toNatClampNeg = vp_cell cA (n.toNatClampNeg, .inr (.inr (.inr (.inr (fun i => if i < n.toNatClampNeg then some (H.size + 1 + i) else none))))) := by
    rw [vp_cell_q]
    exact vr_outer cA n.toNatClampNeg H.size n.toNatClampNeg
  rw [hout] at f2
  have hlt : ∀ a, a ∈ L → a < H.size := fun a ha => by
    obtain ⟨k9, hk9⟩ := va_pl_get (X := X) (f := f) ha
    exact (hP k9 _ hk9).lt
  have hnl : ∀ i : Nat, i < n.toNatClampNeg → H.size + 1 + i ∉ L := fun i _ h => by
    have := hlt _ h
    omega
  have hnm : ∀ a, a ∈ (List.range n.toNatClampNeg).map (fun i => H.size + 1 + i) → a ∉ L := fun a ha h => by
    obtain ⟨i, -, rfl⟩ := List.mem_map.mp ha
    have := hlt _ h
    omega
  have hP0 : va_P D cl (X ++ va_pl L f) F.heap := hP.kept (fun k9 x hx => hold x.1 ((hP k9 x hx).lt))
  have hP1 : va_P D cl ((X ++ va_pl L f) ++ [(H.size, .inl (cA, n.toNatClampNeg, .inr (.inr (.inr (.inr (fun i => if i < n.toNatClampNeg then some (H.size + 1 + i) else none))))))]) F.heap := hP0.app (fun k9 x hx => by
    have h0 : k9 < 1 := (List.getElem?_eq_some_iff.mp hx).1
    rw [show k9 = 0 by omega] at hx
    cases hx
    exact f2)
  have hP2 : va_P D cl (((X ++ va_pl L f) ++ [(H.size, .inl (cA, n.toNatClampNeg, .inr (.inr (.inr (.inr (fun i => if i < n.toNatClampNeg then some (H.size + 1 + i) else none))))))]) ++ ((List.range n.toNatClampNeg).map (fun i => H.size + 1 + i)).map (fun a => (a, .inl (cy, z)))) F.heap := hP1.app (fun k9 x hx => by
    obtain ⟨a, ha, rfl⟩ := List.mem_map.mp (List.mem_of_getElem? hx)
    obtain ⟨i, hi, rfl⟩ := List.mem_map.mp ha
    exact hrow i (List.mem_range.mp hi))
  have hD2 : va_D A (((X ++ va_pl L f) ++ [(H.size, .inl (cA, n.toNatClampNeg, .inr (.inr (.inr (.inr (fun i => if i < n.toNatClampNeg then some (H.size + 1 + i) else none))))))]) ++ ((List.range n.toNatClampNeg).map (fun i => H.size + 1 + i)).map (fun a => (a, .inl (cy, z)))) := by
    have hD1 := hD.push (e := .inl (cA, n.toNatClampNeg, .inr (.inr (.inr (.inr (fun i => if i < n.toNatClampNeg then some (H.size + 1 + i) else none)))))) hP rfl (hA _ hS.1)
    generalize hW1 : (X ++ va_pl L f) ++ [(H.size, .inl (cA, n.toNatClampNeg, .inr (.inr (.inr (.inr (fun i => if i < n.toNatClampNeg then some (H.size + 1 + i) else none))))))] = W1 at hD1 hP1 ⊢
    have hle : ∀ (k9 : Nat) (x : Nat × va_E), W1[k9]? = some x → x.1 ≤ H.size := fun k9 x hx => by
      rw [← hW1] at hx
      by_cases hl : k9 < (X ++ va_pl L f).length
      · rw [List.getElem?_append_left hl] at hx
        exact Nat.le_of_lt ((hP k9 x hx).lt)
      · rw [List.getElem?_append_right (by omega)] at hx
        have h0 : k9 - (X ++ va_pl L f).length < 1 := (List.getElem?_eq_some_iff.mp hx).1
        rw [show k9 - (X ++ va_pl L f).length = 0 by omega] at hx
        cases hx
        exact Nat.le_refl _
    have hr : ∀ (k9 : Nat) (x : Nat × va_E), (((List.range n.toNatClampNeg).map (fun i => H.size + 1 + i)).map (fun a => ((a, .inl (cy, z)) : Nat × va_E)))[k9]? = some x → x.1 = H.size + 1 + k9 := fun k9 x hx => by
      rw [List.getElem?_map, List.getElem?_map] at hx
      by_cases h9 : k9 < n.toNatClampNeg
      · rw [List.getElem?_range h9] at hx
        cases hx
        rfl
      · have hn0 : (List.range n.toNatClampNeg)[k9]? = none := List.getElem?_eq_none (by rw [List.length_range]; omega)
        rw [hn0] at hx
        cases hx
    refine ⟨fun i j x y hi hj hxy => ?_, fun k9 x hx => ?_⟩
    · by_cases h1 : i < W1.length <;> by_cases h2 : j < W1.length
      · rw [List.getElem?_append_left h1] at hi
        rw [List.getElem?_append_left h2] at hj
        exact hD1.1 i j x y hi hj hxy
      · rw [List.getElem?_append_left h1] at hi
        rw [List.getElem?_append_right (by omega)] at hj
        have := hle _ _ hi
        have := hr _ _ hj
        omega
      · rw [List.getElem?_append_right (by omega)] at hi
        rw [List.getElem?_append_left h2] at hj
        have := hle _ _ hj
        have := hr _ _ hi
        omega
      · rw [List.getElem?_append_right (by omega)] at hi hj
        have := hr _ _ hi
        have := hr _ _ hj
        omega
    · by_cases h1 : k9 < W1.length
      · rw [List.getElem?_append_left h1] at hx
        exact hD1.2 k9 x hx
      · rw [List.getElem?_append_right (by omega)] at hx
        have := hr _ _ hx
        exact hA _ (by have := hS.1; omega)
  have hAr : ArrOfT s cA (.array ty) := fun N9 z9 => by
    obtain ⟨-, k9, hk9, cm9, hkk9⟩ := (hO 0 0 0).1
    exact ⟨(fun q hq => by cases hq), k9, hk9, cm9, hkk9⟩
  have hK2 : va_K D cl (tys ++ [(cA, .array ty)]) s := ⟨hK.1, fun k9 x hx => by
    by_cases hl : k9 < tys.length
    · rw [List.getElem?_append_left hl] at hx
      exact hK.2 k9 x hx
    · rw [List.getElem?_append_right (by omega)] at hx
      have h0 : k9 - tys.length < 1 := (List.getElem?_eq_some_iff.mp hx).1
      rw [show k9 - tys.length = 0 by omega] at hx
      cases hx
      exact ⟨hAr, fA⟩⟩
  obtain ⟨t, a1, b1⟩ := kk H.size (fun i => H.size + 1 + i) cA F.heap (fun i j _ _ h => by have h9 : H.size + 1 + i = H.size + 1 + j := h; omega) hnl hK2 (by rw [← vr_rows hnm]; exact vr_lay hP2) (by rw [← vr_rows hnm]; exact vr_layD hD2) ⟨by rw [f1]; have := hS.1; omega, fun x h1 h2 => (hold x (Nat.lt_of_lt_of_le h1 hS.1)).trans (hS.2.1 x h1 h2), hS.2.2⟩ F rfl X'
  refine ⟨t, step t ?_, b1⟩
  have e : T.heap.size = H.size := by rw [hT]
  rw [e]
  exact a1
end VGM
/-! ===== END ===== -/
end
section
/-! ===== BEGIN printed: names, fields, word lists, decode rows ===== -/
def RX0 : String := "BeepNet$Asks"
def TX0 : u_T := fun k => match k with
  | 0 => ("BeepNet$Asks", "net", "LBeepNet$Net;", true)
  | 1 => ("BeepNet$Asks", "begun", "[I", true)
  | _ => ("BeepNet$Asks", "length", "I", false)
def tyX0 : Nat → FieldType := fun k => match k with
  | 0 => .object "BeepNet$Net"
  | 1 => .array .int
  | _ => .int
abbrev wsX00 : List Cond := u_ws RX0 TX0 3
theorem nmX0 : ∀ a, a < 3 → ∀ b, b < 3 → a ≠ b → (TX0 a).2.1 ≠ (TX0 b).2.1 := by decide +kernel
theorem tyX0_ok : ∀ k, k < 3 → parseFieldDescriptor (TX0 k).2.2.1 = some (tyX0 k) := by decide +kernel
abbrev cX0_init : ByteArray := prog_2_method_1_code
def yX0_init : MethodName := ⟨RX0, "<init>", "(LBeepNet$Net;)V"⟩
abbrev cX0_begunBody : ByteArray := prog_2_method_2_code
def yX0_begunBody : MethodName := ⟨RX0, "begunBody", "(I)I"⟩
abbrev cX0_answer : ByteArray := prog_2_method_3_code
def yX0_answer : MethodName := ⟨RX0, "answer", "(II)I"⟩
abbrev cX0_leave : ByteArray := prog_2_method_4_code
def yX0_leave : MethodName := ⟨RX0, "leave", "(I)V"⟩
abbrev cX0_sizeOf : ByteArray := prog_2_method_5_code
def yX0_sizeOf : MethodName := ⟨RX0, "sizeOf", "(II)I"⟩
abbrev cX0_sizeLent : ByteArray := prog_2_method_6_code
def yX0_sizeLent : MethodName := ⟨RX0, "sizeLent", "(I)I"⟩
abbrev cX0_sizeOfLinked : ByteArray := prog_2_method_7_code
def yX0_sizeOfLinked : MethodName := ⟨RX0, "sizeOfLinked", "(I)I"⟩
abbrev cX0_sizeOfLeaf : ByteArray := prog_2_method_8_code
def yX0_sizeOfLeaf : MethodName := ⟨RX0, "sizeOfLeaf", "(I)I"⟩
abbrev cX0_sizeOfHub : ByteArray := prog_2_method_9_code
def yX0_sizeOfHub : MethodName := ⟨RX0, "sizeOfHub", "(II)I"⟩
abbrev cX0_markOf : ByteArray := prog_2_method_10_code
def yX0_markOf : MethodName := ⟨RX0, "markOf", "(II)I"⟩
abbrev cX0_markLent : ByteArray := prog_2_method_11_code
def yX0_markLent : MethodName := ⟨RX0, "markLent", "(I)I"⟩
abbrev cX0_markOfHub : ByteArray := prog_2_method_12_code
def yX0_markOfHub : MethodName := ⟨RX0, "markOfHub", "(I)I"⟩
abbrev cX0_markOfLone : ByteArray := prog_2_method_13_code
def yX0_markOfLone : MethodName := ⟨RX0, "markOfLone", "(II)I"⟩
def RX1 : String := "BeepNet$Net"
def TX1 : u_T := fun k => match k with
  | 0 => ("BeepNet$Net", "neighbours", "[I", true)
  | _ => ("BeepNet$Net", "posts", "I", false)
def tyX1 : Nat → FieldType := fun k => match k with
  | 0 => .array .int
  | _ => .int
abbrev wsX10 : List Cond := u_ws RX1 TX1 2
theorem nmX1 : ∀ a, a < 2 → ∀ b, b < 2 → a ≠ b → (TX1 a).2.1 ≠ (TX1 b).2.1 := by decide +kernel
theorem tyX1_ok : ∀ k, k < 2 → parseFieldDescriptor (TX1 k).2.2.1 = some (tyX1 k) := by decide +kernel
abbrev cX1_init : ByteArray := prog_3_method_1_code
def yX1_init : MethodName := ⟨RX1, "<init>", "()V"⟩
abbrev cX1_size : ByteArray := prog_3_method_2_code
def yX1_size : MethodName := ⟨RX1, "size", "()I"⟩
abbrev cX1_isFull : ByteArray := prog_3_method_3_code
def yX1_isFull : MethodName := ⟨RX1, "isFull", "()Z"⟩
abbrev cX1_add : ByteArray := prog_3_method_4_code
def yX1_add : MethodName := ⟨RX1, "add", "()I"⟩
abbrev cX1_hasPost : ByteArray := prog_3_method_5_code
def yX1_hasPost : MethodName := ⟨RX1, "hasPost", "(I)Z"⟩
abbrev cX1_allPosts : ByteArray := prog_3_method_6_code
def yX1_allPosts : MethodName := ⟨RX1, "allPosts", "()I"⟩
abbrev cX1_hasSet : ByteArray := prog_3_method_7_code
def yX1_hasSet : MethodName := ⟨RX1, "hasSet", "(I)Z"⟩
abbrev cX1_isLinked : ByteArray := prog_3_method_8_code
def yX1_isLinked : MethodName := ⟨RX1, "isLinked", "(II)Z"⟩
abbrev cX1_toggle : ByteArray := prog_3_method_9_code
def yX1_toggle : MethodName := ⟨RX1, "toggle", "(II)I"⟩
abbrev cX1_neighboursOf : ByteArray := prog_3_method_10_code
def yX1_neighboursOf : MethodName := ⟨RX1, "neighboursOf", "(I)I"⟩
abbrev cX1_degree : ByteArray := prog_3_method_11_code
def yX1_degree : MethodName := ⟨RX1, "degree", "(I)I"⟩
abbrev cX1_pairs : ByteArray := prog_3_method_12_code
def yX1_pairs : MethodName := ⟨RX1, "pairs", "()I"⟩
abbrev cX1_oneStepFrom : ByteArray := prog_3_method_13_code
def yX1_oneStepFrom : MethodName := ⟨RX1, "oneStepFrom", "(I)I"⟩
abbrev cX1_reachOf : ByteArray := prog_3_method_14_code
def yX1_reachOf : MethodName := ⟨RX1, "reachOf", "(I)I"⟩
abbrev cX1_stepsBetween : ByteArray := prog_3_method_15_code
def yX1_stepsBetween : MethodName := ⟨RX1, "stepsBetween", "(II)I"⟩
abbrev cX1_width : ByteArray := prog_3_method_16_code
def yX1_width : MethodName := ⟨RX1, "width", "(I)I"⟩
abbrev cX1_heardBy : ByteArray := prog_3_method_17_code
def yX1_heardBy : MethodName := ⟨RX1, "heardBy", "(II)I"⟩
abbrev cX1_knowAfter : ByteArray := prog_3_method_18_code
def yX1_knowAfter : MethodName := ⟨RX1, "knowAfter", "(III)I"⟩
abbrev cX1_kindOf : ByteArray := prog_3_method_19_code
def yX1_kindOf : MethodName := ⟨RX1, "kindOf", "(I)I"⟩
abbrev cX1_mostNeighbours : ByteArray := prog_3_method_20_code
def yX1_mostNeighbours : MethodName := ⟨RX1, "mostNeighbours", "()I"⟩
abbrev cX1_isOfKind : ByteArray := prog_3_method_21_code
def yX1_isOfKind : MethodName := ⟨RX1, "isOfKind", "(II)Z"⟩
abbrev cX1_countOf : ByteArray := prog_3_method_22_code
def yX1_countOf : MethodName := ⟨RX1, "countOf", "(I)I"⟩
def RX2 : String := "BeepNet$Reader"
def TX2 : u_T := fun k => match k with
  | 0 => ("BeepNet$Reader", "tape", "[I", true)
  | 1 => ("BeepNet$Reader", "rounds", "[I", true)
  | 2 => ("BeepNet$Reader", "length", "I", false)
  | 3 => ("BeepNet$Reader", "roundsRead", "I", false)
  | 4 => ("BeepNet$Reader", "token", "I", false)
  | 5 => ("BeepNet$Reader", "start", "I", false)
  | 6 => ("BeepNet$Reader", "behind", "I", false)
  | _ => ("BeepNet$Reader", "number", "I", false)
def tyX2 : Nat → FieldType := fun k => match k with
  | 0 => .array .int
  | 1 => .array .int
  | 2 => .int
  | 3 => .int
  | 4 => .int
  | 5 => .int
  | 6 => .int
  | _ => .int
abbrev wsX20 : List Cond := u_ws RX2 TX2 8
theorem nmX2 : ∀ a, a < 8 → ∀ b, b < 8 → a ≠ b → (TX2 a).2.1 ≠ (TX2 b).2.1 := by decide +kernel
theorem tyX2_ok : ∀ k, k < 8 → parseFieldDescriptor (TX2 k).2.2.1 = some (tyX2 k) := by decide +kernel
abbrev cX2_init : ByteArray := prog_4_method_1_code
def yX2_init : MethodName := ⟨RX2, "<init>", "()V"⟩
abbrev cX2_size : ByteArray := prog_4_method_2_code
def yX2_size : MethodName := ⟨RX2, "size", "()I"⟩
abbrev cX2_hasRoom : ByteArray := prog_4_method_3_code
def yX2_hasRoom : MethodName := ⟨RX2, "hasRoom", "(I)Z"⟩
abbrev cX2_take : ByteArray := prog_4_method_4_code
def yX2_take : MethodName := ⟨RX2, "take", "(JI)I"⟩
abbrev cX2_giveRounds : ByteArray := prog_4_method_5_code
def yX2_giveRounds : MethodName := ⟨RX2, "giveRounds", "([I)I"⟩
abbrev cX2_tokenPlace : ByteArray := prog_4_method_6_code
def yX2_tokenPlace : MethodName := ⟨RX2, "tokenPlace", "()I"⟩
abbrev cX2_read : ByteArray := prog_4_method_7_code
def yX2_read : MethodName := ⟨RX2, "read", "(I)I"⟩
abbrev cX2_readRound : ByteArray := prog_4_method_8_code
def yX2_readRound : MethodName := ⟨RX2, "readRound", "(I)I"⟩
abbrev cX2_faultOfWord : ByteArray := prog_4_method_9_code
def yX2_faultOfWord : MethodName := ⟨RX2, "faultOfWord", "()I"⟩
abbrev cX2_soundsAtWord : ByteArray := prog_4_method_10_code
def yX2_soundsAtWord : MethodName := ⟨RX2, "soundsAtWord", "(I)I"⟩
abbrev cX2_readNumbers : ByteArray := prog_4_method_11_code
def yX2_readNumbers : MethodName := ⟨RX2, "readNumbers", "(I)I"⟩
abbrev cX2_advance : ByteArray := prog_4_method_12_code
def yX2_advance : MethodName := ⟨RX2, "advance", "()V"⟩
abbrev cX2_advanceName : ByteArray := prog_4_method_13_code
def yX2_advanceName : MethodName := ⟨RX2, "advanceName", "()V"⟩
abbrev cX2_isWord : ByteArray := prog_4_method_14_code
def yX2_isWord : MethodName := ⟨RX2, "isWord", "(Ljava/lang/String;)Z"⟩
abbrev cX2_advanceNumber : ByteArray := prog_4_method_15_code
def yX2_advanceNumber : MethodName := ⟨RX2, "advanceNumber", "()V"⟩
abbrev cX2_isLetter : ByteArray := prog_4_method_16_code
def yX2_isLetter : MethodName := ⟨RX2, "isLetter", "(I)Z"⟩
abbrev cX2_isFigure : ByteArray := prog_4_method_17_code
def yX2_isFigure : MethodName := ⟨RX2, "isFigure", "(I)Z"⟩
def RX3 : String := "BeepNet$Search"
def TX3 : u_T := fun k => match k with
  | 0 => ("BeepNet$Search", "heard", "[I", true)
  | 1 => ("BeepNet$Search", "fewest", "[I", true)
  | 2 => ("BeepNet$Search", "spent", "[I", true)
  | _ => ("BeepNet$Search", "cases", "[J", true)
def tyX3 : Nat → FieldType := fun k => match k with
  | 0 => .array .int
  | 1 => .array .int
  | 2 => .array .int
  | _ => .array .long
abbrev wsX30 : List Cond := u_ws RX3 TX3 4
theorem nmX3 : ∀ a, a < 4 → ∀ b, b < 4 → a ≠ b → (TX3 a).2.1 ≠ (TX3 b).2.1 := by decide +kernel
theorem tyX3_ok : ∀ k, k < 4 → parseFieldDescriptor (TX3 k).2.2.1 = some (tyX3 k) := by decide +kernel
abbrev cX3_init : ByteArray := prog_5_method_1_code
def yX3_init : MethodName := ⟨RX3, "<init>", "()V"⟩
abbrev cX3_listen : ByteArray := prog_5_method_2_code
def yX3_listen : MethodName := ⟨RX3, "listen", "(LBeepNet$Net;I)V"⟩
abbrev cX3_findFewest : ByteArray := prog_5_method_3_code
def yX3_findFewest : MethodName := ⟨RX3, "findFewest", "(II)V"⟩
abbrev cX3_fewestBehindOneRound : ByteArray := prog_5_method_4_code
def yX3_fewestBehindOneRound : MethodName := ⟨RX3, "fewestBehindOneRound", "(I)I"⟩
abbrev cX3_fewestFrom : ByteArray := prog_5_method_5_code
def yX3_fewestFrom : MethodName := ⟨RX3, "fewestFrom", "(I)I"⟩
abbrev cX3_firstSet : ByteArray := prog_5_method_6_code
def yX3_firstSet : MethodName := ⟨RX3, "firstSet", "(I)I"⟩
abbrev cX3_worstRounds : ByteArray := prog_5_method_7_code
def yX3_worstRounds : MethodName := ⟨RX3, "worstRounds", "(LBeepNet$Net;LBeepNet$Timetable;II)I"⟩
abbrev cX3_leavesSomeUntold : ByteArray := prog_5_method_8_code
def yX3_leavesSomeUntold : MethodName := ⟨RX3, "leavesSomeUntold", "(IIII)Z"⟩
abbrev cX3_casesThatReachAll : ByteArray := prog_5_method_9_code
def yX3_casesThatReachAll : MethodName := ⟨RX3, "casesThatReachAll", "(LBeepNet$Net;II)J"⟩
abbrev cX3_drawOneRound : ByteArray := prog_5_method_10_code
def yX3_drawOneRound : MethodName := ⟨RX3, "drawOneRound", "(III)V"⟩
abbrev cX3_drawFrom : ByteArray := prog_5_method_11_code
def yX3_drawFrom : MethodName := ⟨RX3, "drawFrom", "(II)V"⟩
def RX4 : String := "BeepNet$Sheets"
def TX4 : u_T := fun k => match k with
  | 0 => ("BeepNet$Sheets", "lanes", "[I", true)
  | 1 => ("BeepNet$Sheets", "sizes", "[I", true)
  | _ => ("BeepNet$Sheets", "items", "[[I", true)
def tyX4 : Nat → FieldType := fun k => match k with
  | 0 => .array .int
  | 1 => .array .int
  | _ => .array (.array .int)
abbrev wsX40 : List Cond := u_ws RX4 TX4 3
theorem nmX4 : ∀ a, a < 3 → ∀ b, b < 3 → a ≠ b → (TX4 a).2.1 ≠ (TX4 b).2.1 := by decide +kernel
theorem tyX4_ok : ∀ k, k < 3 → parseFieldDescriptor (TX4 k).2.2.1 = some (tyX4 k) := by decide +kernel
abbrev cX4_init : ByteArray := prog_6_method_1_code
def yX4_init : MethodName := ⟨RX4, "<init>", "()V"⟩
abbrev cX4_isMissing : ByteArray := prog_6_method_2_code
def yX4_isMissing : MethodName := ⟨RX4, "isMissing", "(I)Z"⟩
abbrev cX4_size : ByteArray := prog_6_method_3_code
def yX4_size : MethodName := ⟨RX4, "size", "()I"⟩
abbrev cX4_begin : ByteArray := prog_6_method_4_code
def yX4_begin : MethodName := ⟨RX4, "begin", "(III)V"⟩
abbrev cX4_remove : ByteArray := prog_6_method_5_code
def yX4_remove : MethodName := ⟨RX4, "remove", "(I)I"⟩
abbrev cX4_findPlaces : ByteArray := prog_6_method_6_code
def yX4_findPlaces : MethodName := ⟨RX4, "findPlaces", "(III)I"⟩
abbrev cX4_findMove : ByteArray := prog_6_method_7_code
def yX4_findMove : MethodName := ⟨RX4, "findMove", "(IIIII)I"⟩
abbrev cX4_hasPlaces : ByteArray := prog_6_method_8_code
def yX4_hasPlaces : MethodName := ⟨RX4, "hasPlaces", "(III)Z"⟩
abbrev cX4_put : ByteArray := prog_6_method_9_code
def yX4_put : MethodName := ⟨RX4, "put", "(III)I"⟩
abbrev cX4_narrowed : ByteArray := prog_6_method_10_code
def yX4_narrowed : MethodName := ⟨RX4, "narrowed", "(II)I"⟩
abbrev cX4_move : ByteArray := prog_6_method_11_code
def yX4_move : MethodName := ⟨RX4, "move", "(IIIII)V"⟩
abbrev cX4_picksOne : ByteArray := prog_6_method_12_code
def yX4_picksOne : MethodName := ⟨RX4, "picksOne", "(IIII)Z"⟩
def RX5 : String := "BeepNet$Timetable"
def TX5 : u_T := fun k => match k with
  | 0 => ("BeepNet$Timetable", "rounds", "[I", true)
  | _ => ("BeepNet$Timetable", "size", "I", false)
def tyX5 : Nat → FieldType := fun k => match k with
  | 0 => .array .int
  | _ => .int
abbrev wsX50 : List Cond := u_ws RX5 TX5 2
theorem nmX5 : ∀ a, a < 2 → ∀ b, b < 2 → a ≠ b → (TX5 a).2.1 ≠ (TX5 b).2.1 := by decide +kernel
theorem tyX5_ok : ∀ k, k < 2 → parseFieldDescriptor (TX5 k).2.2.1 = some (tyX5 k) := by decide +kernel
abbrev cX5_init : ByteArray := prog_7_method_1_code
def yX5_init : MethodName := ⟨RX5, "<init>", "()V"⟩
abbrev cX5_size : ByteArray := prog_7_method_2_code
def yX5_size : MethodName := ⟨RX5, "size", "()I"⟩
abbrev cX5_become : ByteArray := prog_7_method_3_code
def yX5_become : MethodName := ⟨RX5, "become", "(LBeepNet$Reader;)V"⟩
abbrev cX5_hasRound : ByteArray := prog_7_method_4_code
def yX5_hasRound : MethodName := ⟨RX5, "hasRound", "(I)Z"⟩
abbrev cX5_soundsIn : ByteArray := prog_7_method_5_code
def yX5_soundsIn : MethodName := ⟨RX5, "soundsIn", "(II)I"⟩
abbrev cX5_soundsOverAndOver : ByteArray := prog_7_method_6_code
def yX5_soundsOverAndOver : MethodName := ⟨RX5, "soundsOverAndOver", "(II)I"⟩
def RX6 : String := "BeepNet"
def TX6 : u_T := fun k => match k with
  | 0 => ("BeepNet", "sheets", "LBeepNet$Sheets;", true)
  | 1 => ("BeepNet", "net", "LBeepNet$Net;", true)
  | 2 => ("BeepNet", "reader", "LBeepNet$Reader;", true)
  | 3 => ("BeepNet", "timetable", "LBeepNet$Timetable;", true)
  | 4 => ("BeepNet", "search", "LBeepNet$Search;", true)
  | 5 => ("BeepNet", "asks", "LBeepNet$Asks;", true)
  | 6 => ("BeepNet", "latestFinding", "I", false)
  | _ => ("BeepNet", "latestFault", "I", false)
def tyX6 : Nat → FieldType := fun k => match k with
  | 0 => .object "BeepNet$Sheets"
  | 1 => .object "BeepNet$Net"
  | 2 => .object "BeepNet$Reader"
  | 3 => .object "BeepNet$Timetable"
  | 4 => .object "BeepNet$Search"
  | 5 => .object "BeepNet$Asks"
  | 6 => .int
  | _ => .int
abbrev wsX60 : List Cond := u_ws RX6 TX6 8
theorem nmX6 : ∀ a, a < 8 → ∀ b, b < 8 → a ≠ b → (TX6 a).2.1 ≠ (TX6 b).2.1 := by decide +kernel
theorem tyX6_ok : ∀ k, k < 8 → parseFieldDescriptor (TX6 k).2.2.1 = some (tyX6 k) := by decide +kernel
abbrev cX6_init : ByteArray := prog_1_method_1_code
def yX6_init : MethodName := ⟨RX6, "<init>", "()V"⟩
abbrev cX6_sheet : ByteArray := prog_1_method_2_code
def yX6_sheet : MethodName := ⟨RX6, "sheet", "(III)I"⟩
abbrev cX6_set : ByteArray := prog_1_method_3_code
def yX6_set : MethodName := ⟨RX6, "set", "(III)I"⟩
abbrev cX6_copy : ByteArray := prog_1_method_4_code
def yX6_copy : MethodName := ⟨RX6, "copy", "(IIIII)I"⟩
abbrev cX6_drop : ByteArray := prog_1_method_5_code
def yX6_drop : MethodName := ⟨RX6, "drop", "(I)I"⟩
abbrev cX6_post : ByteArray := prog_1_method_6_code
def yX6_post : MethodName := ⟨RX6, "post", "()I"⟩
abbrev cX6_join : ByteArray := prog_1_method_7_code
def yX6_join : MethodName := ⟨RX6, "join", "(II)I"⟩
abbrev cX6_part : ByteArray := prog_1_method_8_code
def yX6_part : MethodName := ⟨RX6, "part", "(II)I"⟩
abbrev cX6_far : ByteArray := prog_1_method_9_code
def yX6_far : MethodName := ⟨RX6, "far", "(II)I"⟩
abbrev cX6_told : ByteArray := prog_1_method_10_code
def yX6_told : MethodName := ⟨RX6, "told", "(II)I"⟩
abbrev cX6_hears : ByteArray := prog_1_method_11_code
def yX6_hears : MethodName := ⟨RX6, "hears", "(II)I"⟩
abbrev cX6_spreads : ByteArray := prog_1_method_12_code
def yX6_spreads : MethodName := ⟨RX6, "spreads", "(III)I"⟩
abbrev cX6_feed : ByteArray := prog_1_method_13_code
def yX6_feed : MethodName := ⟨RX6, "feed", "(JI)I"⟩
abbrev cX6_schedule : ByteArray := prog_1_method_14_code
def yX6_schedule : MethodName := ⟨RX6, "schedule", "()I"⟩
abbrev cX6_fault : ByteArray := prog_1_method_15_code
def yX6_fault : MethodName := ⟨RX6, "fault", "()I"⟩
abbrev cX6_round : ByteArray := prog_1_method_16_code
def yX6_round : MethodName := ⟨RX6, "round", "(I)I"⟩
abbrev cX6_run : ByteArray := prog_1_method_17_code
def yX6_run : MethodName := ⟨RX6, "run", "(III)I"⟩
abbrev cX6_least : ByteArray := prog_1_method_18_code
def yX6_least : MethodName := ⟨RX6, "least", "(III)I"⟩
abbrev cX6_jammed : ByteArray := prog_1_method_19_code
def yX6_jammed : MethodName := ⟨RX6, "jammed", "(III)I"⟩
abbrev cX6_draws : ByteArray := prog_1_method_20_code
def yX6_draws : MethodName := ⟨RX6, "draws", "(III)J"⟩
abbrev cX6_picks : ByteArray := prog_1_method_21_code
def yX6_picks : MethodName := ⟨RX6, "picks", "(IIIII)I"⟩
abbrev cX6_kind : ByteArray := prog_1_method_22_code
def yX6_kind : MethodName := ⟨RX6, "kind", "(I)I"⟩
abbrev cX6_as : ByteArray := prog_1_method_23_code
def yX6_as : MethodName := ⟨RX6, "as", "(II)I"⟩
abbrev cX6_ask : ByteArray := prog_1_method_24_code
def yX6_ask : MethodName := ⟨RX6, "ask", "(II)I"⟩
abbrev cX6_trace : ByteArray := prog_1_method_25_code
def yX6_trace : MethodName := ⟨RX6, "trace", "(I)I"⟩
abbrev cX6_count : ByteArray := prog_1_method_26_code
def yX6_count : MethodName := ⟨RX6, "count", "(I)I"⟩
abbrev cX6_status : ByteArray := prog_1_method_27_code
def yX6_status : MethodName := ⟨RX6, "status", "()I"⟩
abbrev cX6_isSheet : ByteArray := prog_1_method_28_code
def yX6_isSheet : MethodName := ⟨RX6, "isSheet", "(I)Z"⟩
abbrev cX6_isHearing : ByteArray := prog_1_method_29_code
def yX6_isHearing : MethodName := ⟨RX6, "isHearing", "(I)Z"⟩
abbrev cX6_isPair : ByteArray := prog_1_method_30_code
def yX6_isPair : MethodName := ⟨RX6, "isPair", "(II)Z"⟩
abbrev cX6_firstUnpicked : ByteArray := prog_1_method_31_code
def yX6_firstUnpicked : MethodName := ⟨RX6, "firstUnpicked", "(IIII)I"⟩
def RX7 : String := "BeepNetModel"
def TX7 : u_T := fun k => match k with
  | 0 => ("BeepNetModel", "thrown", "I", false)
  | 1 => ("BeepNetModel", "status", "I", false)
  | 2 => ("BeepNetModel", "lane", "[I", true)
  | 3 => ("BeepNetModel", "many", "[I", true)
  | 4 => ("BeepNetModel", "item", "[I", true)
  | 5 => ("BeepNetModel", "posts", "I", false)
  | 6 => ("BeepNetModel", "beside", "[I", true)
  | 7 => ("BeepNetModel", "rounds", "I", false)
  | 8 => ("BeepNetModel", "round", "[I", true)
  | 9 => ("BeepNetModel", "read", "I", false)
  | 10 => ("BeepNetModel", "reads", "[I", true)
  | 11 => ("BeepNetModel", "tape", "[I", true)
  | 12 => ("BeepNetModel", "taped", "I", false)
  | 13 => ("BeepNetModel", "latest", "I", false)
  | 14 => ("BeepNetModel", "length", "I", false)
  | 15 => ("BeepNetModel", "at", "I", false)
  | 16 => ("BeepNetModel", "sort", "I", false)
  | 17 => ("BeepNetModel", "from", "I", false)
  | 18 => ("BeepNetModel", "till", "I", false)
  | 19 => ("BeepNetModel", "fault", "I", false)
  | 20 => ("BeepNetModel", "faultAt", "I", false)
  | 21 => ("BeepNetModel", "fewest", "[I", true)
  | 22 => ("BeepNetModel", "may", "[Z", true)
  | 23 => ("BeepNetModel", "then", "[Z", true)
  | 24 => ("BeepNetModel", "cases", "[J", true)
  | 25 => ("BeepNetModel", "next", "[J", true)
  | 26 => ("BeepNetModel", "trace", "[I", true)
  | _ => ("BeepNetModel", "traced", "I", false)
def tyX7 : Nat → FieldType := fun k => match k with
  | 0 => .int
  | 1 => .int
  | 2 => .array .int
  | 3 => .array .int
  | 4 => .array .int
  | 5 => .int
  | 6 => .array .int
  | 7 => .int
  | 8 => .array .int
  | 9 => .int
  | 10 => .array .int
  | 11 => .array .int
  | 12 => .int
  | 13 => .int
  | 14 => .int
  | 15 => .int
  | 16 => .int
  | 17 => .int
  | 18 => .int
  | 19 => .int
  | 20 => .int
  | 21 => .array .int
  | 22 => .array .boolean
  | 23 => .array .boolean
  | 24 => .array .long
  | 25 => .array .long
  | 26 => .array .int
  | _ => .int
abbrev wsX70 : List Cond := u_ws RX7 TX7 28
theorem nmX7 : ∀ a, a < 28 → ∀ b, b < 28 → a ≠ b → (TX7 a).2.1 ≠ (TX7 b).2.1 := by decide +kernel
theorem tyX7_ok : ∀ k, k < 28 → parseFieldDescriptor (TX7 k).2.2.1 = some (tyX7 k) := by decide +kernel
abbrev cX7_init : ByteArray := prog_9_method_1_code
def yX7_init : MethodName := ⟨RX7, "<init>", "()V"⟩
abbrev cX7_in : ByteArray := prog_9_method_3_code
def yX7_in : MethodName := ⟨RX7, "in", "(JJJ)Z"⟩
abbrev cX7_found : ByteArray := prog_9_method_4_code
def yX7_found : MethodName := ⟨RX7, "found", "(I)I"⟩
abbrev cX7_isSheet : ByteArray := prog_9_method_5_code
def yX7_isSheet : MethodName := ⟨RX7, "isSheet", "(I)Z"⟩
abbrev cX7_sheet : ByteArray := prog_9_method_6_code
def yX7_sheet : MethodName := ⟨RX7, "sheet", "(III)I"⟩
abbrev cX7_set : ByteArray := prog_9_method_7_code
def yX7_set : MethodName := ⟨RX7, "set", "(III)I"⟩
abbrev cX7_copy : ByteArray := prog_9_method_8_code
def yX7_copy : MethodName := ⟨RX7, "copy", "(IIIII)I"⟩
abbrev cX7_drop : ByteArray := prog_9_method_9_code
def yX7_drop : MethodName := ⟨RX7, "drop", "(I)I"⟩
abbrev cX7_isPost : ByteArray := prog_9_method_10_code
def yX7_isPost : MethodName := ⟨RX7, "isPost", "(I)Z"⟩
abbrev cX7_size : ByteArray := prog_9_method_11_code
def yX7_size : MethodName := ⟨RX7, "size", "(I)I"⟩
abbrev cX7_all : ByteArray := prog_9_method_12_code
def yX7_all : MethodName := ⟨RX7, "all", "()I"⟩
abbrev cX7_post : ByteArray := prog_9_method_13_code
def yX7_post : MethodName := ⟨RX7, "post", "()I"⟩
abbrev cX7_join : ByteArray := prog_9_method_14_code
def yX7_join : MethodName := ⟨RX7, "join", "(II)I"⟩
abbrev cX7_part : ByteArray := prog_9_method_15_code
def yX7_part : MethodName := ⟨RX7, "part", "(II)I"⟩
abbrev cX7_around : ByteArray := prog_9_method_16_code
def yX7_around : MethodName := ⟨RX7, "around", "(I)I"⟩
abbrev cX7_reach : ByteArray := prog_9_method_17_code
def yX7_reach : MethodName := ⟨RX7, "reach", "(I)I"⟩
abbrev cX7_farOf : ByteArray := prog_9_method_18_code
def yX7_farOf : MethodName := ⟨RX7, "farOf", "(II)I"⟩
abbrev cX7_widthOf : ByteArray := prog_9_method_19_code
def yX7_widthOf : MethodName := ⟨RX7, "widthOf", "(I)I"⟩
abbrev cX7_far : ByteArray := prog_9_method_20_code
def yX7_far : MethodName := ⟨RX7, "far", "(II)I"⟩
abbrev cX7_told : ByteArray := prog_9_method_21_code
def yX7_told : MethodName := ⟨RX7, "told", "(II)I"⟩
abbrev cX7_isHearing : ByteArray := prog_9_method_22_code
def yX7_isHearing : MethodName := ⟨RX7, "isHearing", "(I)Z"⟩
abbrev cX7_isSet : ByteArray := prog_9_method_23_code
def yX7_isSet : MethodName := ⟨RX7, "isSet", "(I)Z"⟩
abbrev cX7_hearing : ByteArray := prog_9_method_24_code
def yX7_hearing : MethodName := ⟨RX7, "hearing", "(II)I"⟩
abbrev cX7_spread : ByteArray := prog_9_method_25_code
def yX7_spread : MethodName := ⟨RX7, "spread", "(III)I"⟩
abbrev cX7_hears : ByteArray := prog_9_method_26_code
def yX7_hears : MethodName := ⟨RX7, "hears", "(II)I"⟩
abbrev cX7_spreads : ByteArray := prog_9_method_27_code
def yX7_spreads : MethodName := ⟨RX7, "spreads", "(III)I"⟩
abbrev cX7_feed : ByteArray := prog_9_method_28_code
def yX7_feed : MethodName := ⟨RX7, "feed", "(JI)I"⟩
abbrev cX7_byteAt : ByteArray := prog_9_method_29_code
def yX7_byteAt : MethodName := ⟨RX7, "byteAt", "(I)I"⟩
abbrev cX7_isLetter : ByteArray := prog_9_method_30_code
def yX7_isLetter : MethodName := ⟨RX7, "isLetter", "(I)Z"⟩
abbrev cX7_isFigure : ByteArray := prog_9_method_31_code
def yX7_isFigure : MethodName := ⟨RX7, "isFigure", "(I)Z"⟩
abbrev cX7_step : ByteArray := prog_9_method_32_code
def yX7_step : MethodName := ⟨RX7, "step", "()V"⟩
abbrev cX7_bad : ByteArray := prog_9_method_33_code
def yX7_bad : MethodName := ⟨RX7, "bad", "(I)V"⟩
abbrev cX7_need : ByteArray := prog_9_method_34_code
def yX7_need : MethodName := ⟨RX7, "need", "(Z)V"⟩
abbrev cX7_word : ByteArray := prog_9_method_35_code
def yX7_word : MethodName := ⟨RX7, "word", "()J"⟩
abbrev cX7_readRound : ByteArray := prog_9_method_36_code
def yX7_readRound : MethodName := ⟨RX7, "readRound", "()V"⟩
abbrev cX7_schedule : ByteArray := prog_9_method_37_code
def yX7_schedule : MethodName := ⟨RX7, "schedule", "()I"⟩
abbrev cX7_fault : ByteArray := prog_9_method_38_code
def yX7_fault : MethodName := ⟨RX7, "fault", "()I"⟩
abbrev cX7_soundsIn : ByteArray := prog_9_method_39_code
def yX7_soundsIn : MethodName := ⟨RX7, "soundsIn", "(I)I"⟩
abbrev cX7_round : ByteArray := prog_9_method_40_code
def yX7_round : MethodName := ⟨RX7, "round", "(I)I"⟩
abbrev cX7_run : ByteArray := prog_9_method_41_code
def yX7_run : MethodName := ⟨RX7, "run", "(III)I"⟩
abbrev cX7_findFewest : ByteArray := prog_9_method_42_code
def yX7_findFewest : MethodName := ⟨RX7, "findFewest", "(II)V"⟩
abbrev cX7_least : ByteArray := prog_9_method_43_code
def yX7_least : MethodName := ⟨RX7, "least", "(III)I"⟩
abbrev cX7_jammed : ByteArray := prog_9_method_44_code
def yX7_jammed : MethodName := ⟨RX7, "jammed", "(III)I"⟩
abbrev cX7_draws : ByteArray := prog_9_method_45_code
def yX7_draws : MethodName := ⟨RX7, "draws", "(III)J"⟩
abbrev cX7_picks : ByteArray := prog_9_method_46_code
def yX7_picks : MethodName := ⟨RX7, "picks", "(IIIII)I"⟩
abbrev cX7_kindOf : ByteArray := prog_9_method_47_code
def yX7_kindOf : MethodName := ⟨RX7, "kindOf", "(I)I"⟩
abbrev cX7_isOf : ByteArray := prog_9_method_48_code
def yX7_isOf : MethodName := ⟨RX7, "isOf", "(II)Z"⟩
abbrev cX7_kind : ByteArray := prog_9_method_49_code
def yX7_kind : MethodName := ⟨RX7, "kind", "(I)I"⟩
abbrev cX7_as : ByteArray := prog_9_method_50_code
def yX7_as : MethodName := ⟨RX7, "as", "(II)I"⟩
abbrev cX7_began : ByteArray := prog_9_method_51_code
def yX7_began : MethodName := ⟨RX7, "began", "(I)V"⟩
abbrev cX7_sized : ByteArray := prog_9_method_52_code
def yX7_sized : MethodName := ⟨RX7, "sized", "(I)I"⟩
abbrev cX7_marked : ByteArray := prog_9_method_53_code
def yX7_marked : MethodName := ⟨RX7, "marked", "(I)I"⟩
abbrev cX7_ask : ByteArray := prog_9_method_54_code
def yX7_ask : MethodName := ⟨RX7, "ask", "(II)I"⟩
abbrev cX7_trace : ByteArray := prog_9_method_55_code
def yX7_trace : MethodName := ⟨RX7, "trace", "(I)I"⟩
abbrev cX7_count : ByteArray := prog_9_method_56_code
def yX7_count : MethodName := ⟨RX7, "count", "(I)I"⟩
abbrev cX7_status : ByteArray := prog_9_method_57_code
def yX7_status : MethodName := ⟨RX7, "status", "()I"⟩
def RJ6 : String := "java/lang/Integer"
def TJ6 : u_T := fun k => match k with
  | _ => ("", "", "", false)
def tyJ6 : Nat → FieldType := fun k => match k with
  | _ => .int
abbrev wsJ60 : List Cond := u_ws RJ6 TJ6 0
theorem nmJ6 : ∀ a, a < 0 → ∀ b, b < 0 → a ≠ b → (TJ6 a).2.1 ≠ (TJ6 b).2.1 := by decide +kernel
theorem tyJ6_ok : ∀ k, k < 0 → parseFieldDescriptor (TJ6 k).2.2.1 = some (tyJ6 k) := by decide +kernel
abbrev cJ6_bitCount_0f7a4 : ByteArray := prog_10_method_49_code
def yJ6_bitCount_0f7a4 : MethodName := ⟨RJ6, "bitCount", "(I)I"⟩
def RJ9 : String := "java/lang/Math"
def TJ9 : u_T := fun k => match k with
  | _ => ("", "", "", false)
def tyJ9 : Nat → FieldType := fun k => match k with
  | _ => .int
abbrev wsJ90 : List Cond := u_ws RJ9 TJ9 0
theorem nmJ9 : ∀ a, a < 0 → ∀ b, b < 0 → a ≠ b → (TJ9 a).2.1 ≠ (TJ9 b).2.1 := by decide +kernel
theorem tyJ9_ok : ∀ k, k < 0 → parseFieldDescriptor (TJ9 k).2.2.1 = some (tyJ9 k) := by decide +kernel
abbrev cJ9_max_7cf53 : ByteArray := prog_11_method_65_code
def yJ9_max_7cf53 : MethodName := ⟨RJ9, "max", "(II)I"⟩
abbrev cJ9_min_7cf53 : ByteArray := prog_11_method_69_code
def yJ9_min_7cf53 : MethodName := ⟨RJ9, "min", "(II)I"⟩
def RJ0 : String := "java/lang/String"
def TJ0 : u_T := fun k => match k with
  | _ => ("", "", "", false)
def tyJ0 : Nat → FieldType := fun k => match k with
  | _ => .int
abbrev wsJ00 : List Cond := u_ws RJ0 TJ0 0
theorem nmJ0 : ∀ a, a < 0 → ∀ b, b < 0 → a ≠ b → (TJ0 a).2.1 ≠ (TJ0 b).2.1 := by decide +kernel
theorem tyJ0_ok : ∀ k, k < 0 → parseFieldDescriptor (TJ0 k).2.2.1 = some (tyJ0 k) := by decide +kernel
abbrev cJ0_length_8abf5 : ByteArray := prog_12_method_54_code
def yJ0_length_8abf5 : MethodName := ⟨RJ0, "length", "()I"⟩
abbrev cJ0_charAt_5068e : ByteArray := prog_12_method_56_code
def yJ0_charAt_5068e : MethodName := ⟨RJ0, "charAt", "(I)C"⟩
abbrev cJ0_coder_7d493 : ByteArray := prog_12_method_152_code
def yJ0_coder_7d493 : MethodName := ⟨RJ0, "coder", "()B"⟩
abbrev cJ0_isLatin1_aae02 : ByteArray := prog_12_method_154_code
def yJ0_isLatin1_aae02 : MethodName := ⟨RJ0, "isLatin1", "()Z"⟩
abbrev cJ0_checkIndex_df160 : ByteArray := prog_12_method_155_code
def yJ0_checkIndex_df160 : MethodName := ⟨RJ0, "checkIndex", "(II)V"⟩
def RJ1 : String := "java/lang/StringLatin1"
def TJ1 : u_T := fun k => match k with
  | _ => ("", "", "", false)
def tyJ1 : Nat → FieldType := fun k => match k with
  | _ => .int
abbrev wsJ10 : List Cond := u_ws RJ1 TJ1 0
theorem nmJ1 : ∀ a, a < 0 → ∀ b, b < 0 → a ≠ b → (TJ1 a).2.1 ≠ (TJ1 b).2.1 := by decide +kernel
theorem tyJ1_ok : ∀ k, k < 0 → parseFieldDescriptor (TJ1 k).2.2.1 = some (tyJ1 k) := by decide +kernel
abbrev cJ1_charAt_3b067 : ByteArray := prog_13_method_2_code
def yJ1_charAt_3b067 : MethodName := ⟨RJ1, "charAt", "([BI)C"⟩
def RJ2 : String := "java/lang/StringUTF16"
def TJ2 : u_T := fun k => match k with
  | _ => ("", "", "", false)
def tyJ2 : Nat → FieldType := fun k => match k with
  | _ => .int
abbrev wsJ20 : List Cond := u_ws RJ2 TJ2 0
theorem nmJ2 : ∀ a, a < 0 → ∀ b, b < 0 → a ≠ b → (TJ2 a).2.1 ≠ (TJ2 b).2.1 := by decide +kernel
theorem tyJ2_ok : ∀ k, k < 0 → parseFieldDescriptor (TJ2 k).2.2.1 = some (tyJ2 k) := by decide +kernel
abbrev cJ2_getChar_3b067 : ByteArray := prog_14_method_5_code
def yJ2_getChar_3b067 : MethodName := ⟨RJ2, "getChar", "([BI)C"⟩
abbrev cJ2_length_9d52b : ByteArray := prog_14_method_6_code
def yJ2_length_9d52b : MethodName := ⟨RJ2, "length", "([B)I"⟩
abbrev cJ2_charAt_3b067 : ByteArray := prog_14_method_83_code
def yJ2_charAt_3b067 : MethodName := ⟨RJ2, "charAt", "([BI)C"⟩
abbrev cJ2_checkIndex_2214a : ByteArray := prog_14_method_91_code
def yJ2_checkIndex_2214a : MethodName := ⟨RJ2, "checkIndex", "(I[B)V"⟩
def RJ10 : String := "java/lang/System"
def TJ10 : u_T := fun k => match k with
  | _ => ("", "", "", false)
def tyJ10 : Nat → FieldType := fun k => match k with
  | _ => .int
abbrev wsJ100 : List Cond := u_ws RJ10 TJ10 0
theorem nmJ10 : ∀ a, a < 0 → ∀ b, b < 0 → a ≠ b → (TJ10 a).2.1 ≠ (TJ10 b).2.1 := by decide +kernel
theorem tyJ10_ok : ∀ k, k < 0 → parseFieldDescriptor (TJ10 k).2.2.1 = some (tyJ10 k) := by decide +kernel
def RJ7 : String := "java/util/Arrays"
def TJ7 : u_T := fun k => match k with
  | _ => ("", "", "", false)
def tyJ7 : Nat → FieldType := fun k => match k with
  | _ => .int
abbrev wsJ70 : List Cond := u_ws RJ7 TJ7 0
theorem nmJ7 : ∀ a, a < 0 → ∀ b, b < 0 → a ≠ b → (TJ7 a).2.1 ≠ (TJ7 b).2.1 := by decide +kernel
theorem tyJ7_ok : ∀ k, k < 0 → parseFieldDescriptor (TJ7 k).2.2.1 = some (tyJ7 k) := by decide +kernel
abbrev cJ7_fill_d0a16 : ByteArray := prog_16_method_101_code
def yJ7_fill_d0a16 : MethodName := ⟨RJ7, "fill", "([JJ)V"⟩
abbrev cJ7_fill_53178 : ByteArray := prog_16_method_103_code
def yJ7_fill_53178 : MethodName := ⟨RJ7, "fill", "([II)V"⟩
def RJ3 : String := "jdk/internal/util/Preconditions"
def TJ3 : u_T := fun k => match k with
  | _ => ("", "", "", false)
def tyJ3 : Nat → FieldType := fun k => match k with
  | _ => .int
abbrev wsJ30 : List Cond := u_ws RJ3 TJ3 0
theorem nmJ3 : ∀ a, a < 0 → ∀ b, b < 0 → a ≠ b → (TJ3 a).2.1 ≠ (TJ3 b).2.1 := by decide +kernel
theorem tyJ3_ok : ∀ k, k < 0 → parseFieldDescriptor (TJ3 k).2.2.1 = some (tyJ3 k) := by decide +kernel
abbrev cJ3_checkIndex_8e157 : ByteArray := prog_17_method_11_code
def yJ3_checkIndex_8e157 : MethodName := ⟨RJ3, "checkIndex", "(IILjava/util/function/BiFunction;)I"⟩
def RL : String := "BeepNetLaw"
abbrev cL_law : ByteArray := code
def yL_law : MethodName := ⟨RL, "law", "([I)Z"⟩
def wsX0_init : List Cond := .code yX0_init cX0_init 2 none :: ([.methodLink RX0 3 objectInit, .instanceMethod objectInit, .code objectInit ⟨#[0xb1]⟩ 1 none, .arrayClass .int, .fieldLink RX0 9 "BeepNet$Asks" "begun" "[I", .fieldLink RX0 15 "BeepNet$Asks" "net" "LBeepNet$Net;"] ++ wsX00)
def wsX0_begunBody : List Cond := .code yX0_begunBody cX0_begunBody 2 (some .int) :: ([.fieldLink RX0 19 "BeepNet$Asks" "length" "I", .fieldLink RX0 9 "BeepNet$Asks" "begun" "[I", .constant RX0 23 (-1000000)] ++ wsX00)
def wsJ6_bitCount_0f7a4 : List Cond := .code yJ6_bitCount_0f7a4 cJ6_bitCount_0f7a4 1 (some .int) :: ([.constant RJ6 265 (1431655765), .constant RJ6 266 (858993459), .constant RJ6 267 (252645135)])
def wsX1_degree : List Cond := .code yX1_degree cX1_degree 2 (some .int) :: ([.fieldLink RX1 9 "BeepNet$Net" "neighbours" "[I", .methodLink RX1 23 yJ6_bitCount_0f7a4, .static yJ6_bitCount_0f7a4, .initialized RJ6, .code yJ6_bitCount_0f7a4 cJ6_bitCount_0f7a4 1 (some .int), .constant RJ6 265 (1431655765), .constant RJ6 266 (858993459), .constant RJ6 267 (252645135)] ++ wsX10)
def wsX1_mostNeighbours : List Cond := .code yX1_mostNeighbours cX1_mostNeighbours 3 (some .int) :: ([.fieldLink RX1 15 "BeepNet$Net" "posts" "I", .methodLink RX1 43 Lib.Math.max.name, .static Lib.Math.max.name, .initialized "java/lang/Math", .code Lib.Math.max.name Lib.Math.max.code 2 (some .int), .methodLink RX1 29 yX1_degree, .instanceMethod yX1_degree, .selects RX1 yX1_degree yX1_degree, .initialized RX1, .code yX1_degree cX1_degree 2 (some .int), .fieldLink RX1 9 "BeepNet$Net" "neighbours" "[I", .methodLink RX1 23 yJ6_bitCount_0f7a4, .static yJ6_bitCount_0f7a4, .initialized RJ6, .code yJ6_bitCount_0f7a4 cJ6_bitCount_0f7a4 1 (some .int), .constant RJ6 265 (1431655765), .constant RJ6 266 (858993459), .constant RJ6 267 (252645135)] ++ wsX10)
def wsX1_kindOf : List Cond := .code yX1_kindOf cX1_kindOf 3 (some .int) :: ([.methodLink RX1 29 yX1_degree, .instanceMethod yX1_degree, .selects RX1 yX1_degree yX1_degree, .initialized RX1, .code yX1_degree cX1_degree 2 (some .int), .fieldLink RX1 9 "BeepNet$Net" "neighbours" "[I", .methodLink RX1 23 yJ6_bitCount_0f7a4, .static yJ6_bitCount_0f7a4, .initialized RJ6, .code yJ6_bitCount_0f7a4 cJ6_bitCount_0f7a4 1 (some .int), .constant RJ6 265 (1431655765), .constant RJ6 266 (858993459), .constant RJ6 267 (252645135), .methodLink RX1 40 yX1_mostNeighbours, .instanceMethod yX1_mostNeighbours, .selects RX1 yX1_mostNeighbours yX1_mostNeighbours, .code yX1_mostNeighbours cX1_mostNeighbours 3 (some .int), .fieldLink RX1 15 "BeepNet$Net" "posts" "I", .methodLink RX1 43 Lib.Math.max.name, .static Lib.Math.max.name, .initialized "java/lang/Math", .code Lib.Math.max.name Lib.Math.max.code 2 (some .int)] ++ wsX10)
def wsX0_leave : List Cond := .code yX0_leave cX0_leave 2 none :: ([.fieldLink RX0 19 "BeepNet$Asks" "length" "I", .fieldLink RX0 9 "BeepNet$Asks" "begun" "[I"] ++ wsX00)
def wsX0_markLent : List Cond := .code yX0_markLent cX0_markLent 2 (some .int) :: ([.methodLink RX0 49 yX0_leave, .instanceMethod yX0_leave, .selects RX0 yX0_leave yX0_leave, .initialized RX0, .code yX0_leave cX0_leave 2 none, .fieldLink RX0 19 "BeepNet$Asks" "length" "I", .fieldLink RX0 9 "BeepNet$Asks" "begun" "[I"] ++ wsX00)
def wsX0_markOfHub : List Cond := .code yX0_markOfHub cX0_markOfHub 2 (some .int) :: ([.methodLink RX0 49 yX0_leave, .instanceMethod yX0_leave, .selects RX0 yX0_leave yX0_leave, .initialized RX0, .code yX0_leave cX0_leave 2 none, .fieldLink RX0 19 "BeepNet$Asks" "length" "I", .fieldLink RX0 9 "BeepNet$Asks" "begun" "[I", .methodLink RX0 65 yX0_markLent, .instanceMethod yX0_markLent, .selects RX0 yX0_markLent yX0_markLent, .code yX0_markLent cX0_markLent 2 (some .int)] ++ wsX00)
def wsX0_sizeLent : List Cond := .code yX0_sizeLent cX0_sizeLent 2 (some .int) :: ([.fieldLink RX0 15 "BeepNet$Asks" "net" "LBeepNet$Net;", .methodLink RX0 49 yX0_leave, .instanceMethod yX0_leave, .selects RX0 yX0_leave yX0_leave, .initialized RX0, .code yX0_leave cX0_leave 2 none, .fieldLink RX0 19 "BeepNet$Asks" "length" "I", .fieldLink RX0 9 "BeepNet$Asks" "begun" "[I", .methodLink RX0 53 yX1_degree, .instanceMethod yX1_degree, .selects RX1 yX1_degree yX1_degree, .initialized RX1, .code yX1_degree cX1_degree 2 (some .int), .fieldLink RX1 9 "BeepNet$Net" "neighbours" "[I", .methodLink RX1 23 yJ6_bitCount_0f7a4, .static yJ6_bitCount_0f7a4, .initialized RJ6, .code yJ6_bitCount_0f7a4 cJ6_bitCount_0f7a4 1 (some .int), .constant RJ6 265 (1431655765), .constant RJ6 266 (858993459), .constant RJ6 267 (252645135)] ++ wsX00 ++ wsX10)
def wsX1_oneStepFrom : List Cond := .code yX1_oneStepFrom cX1_oneStepFrom 4 (some .int) :: ([.fieldLink RX1 15 "BeepNet$Net" "posts" "I", .fieldLink RX1 9 "BeepNet$Net" "neighbours" "[I"] ++ wsX10)
def wsX1_width : List Cond := .code yX1_width cX1_width 6 (some .int) :: ([.fieldLink RX1 15 "BeepNet$Net" "posts" "I", .methodLink RX1 32 yX1_oneStepFrom, .instanceMethod yX1_oneStepFrom, .selects RX1 yX1_oneStepFrom yX1_oneStepFrom, .initialized RX1, .code yX1_oneStepFrom cX1_oneStepFrom 4 (some .int), .fieldLink RX1 9 "BeepNet$Net" "neighbours" "[I"] ++ wsX10)
def wsX0_sizeOfLinked_r1 : List Cond := [Cond.fieldLink RX0 15 "BeepNet$Asks" "net" "LBeepNet$Net;", Cond.methodLink RX0 49 yX0_leave, Cond.instanceMethod yX0_leave, Cond.selects RX0 yX0_leave yX0_leave, Cond.initialized RX0, Cond.code yX0_leave cX0_leave 2 none, Cond.fieldLink RX0 19 "BeepNet$Asks" "length" "I", Cond.fieldLink RX0 9 "BeepNet$Asks" "begun" "[I", Cond.methodLink RX0 46 yX0_sizeLent, Cond.instanceMethod yX0_sizeLent, Cond.selects RX0 yX0_sizeLent yX0_sizeLent, Cond.code yX0_sizeLent cX0_sizeLent 2 (some .int), Cond.methodLink RX0 53 yX1_degree, Cond.instanceMethod yX1_degree, Cond.selects RX1 yX1_degree yX1_degree, Cond.initialized RX1, Cond.code yX1_degree cX1_degree 2 (some .int), Cond.fieldLink RX1 9 "BeepNet$Net" "neighbours" "[I", Cond.methodLink RX1 23 yJ6_bitCount_0f7a4, Cond.static yJ6_bitCount_0f7a4, Cond.initialized RJ6, Cond.code yJ6_bitCount_0f7a4 cJ6_bitCount_0f7a4 1 (some .int), Cond.constant RJ6 265 (1431655765), Cond.constant RJ6 266 (858993459)]
def wsX0_sizeOfLinked_r2 : List Cond := [Cond.constant RJ6 267 (252645135), Cond.methodLink RX0 56 yX1_width, Cond.instanceMethod yX1_width, Cond.selects RX1 yX1_width yX1_width, Cond.code yX1_width cX1_width 6 (some .int), Cond.fieldLink RX1 15 "BeepNet$Net" "posts" "I", Cond.methodLink RX1 32 yX1_oneStepFrom, Cond.instanceMethod yX1_oneStepFrom, Cond.selects RX1 yX1_oneStepFrom yX1_oneStepFrom, Cond.code yX1_oneStepFrom cX1_oneStepFrom 4 (some .int)]
def wsX0_sizeOfLinked : List Cond := .code yX0_sizeOfLinked cX0_sizeOfLinked 2 (some .int) :: ((wsX0_sizeOfLinked_r1 ++ wsX0_sizeOfLinked_r2) ++ wsX00 ++ wsX10)
def wsX0_sizeOfLeaf_r1 : List Cond := [Cond.methodLink RX0 49 yX0_leave, Cond.instanceMethod yX0_leave, Cond.selects RX0 yX0_leave yX0_leave, Cond.initialized RX0, Cond.code yX0_leave cX0_leave 2 none, Cond.fieldLink RX0 19 "BeepNet$Asks" "length" "I", Cond.fieldLink RX0 9 "BeepNet$Asks" "begun" "[I", Cond.methodLink RX0 43 yX0_sizeOfLinked, Cond.instanceMethod yX0_sizeOfLinked, Cond.selects RX0 yX0_sizeOfLinked yX0_sizeOfLinked, Cond.code yX0_sizeOfLinked cX0_sizeOfLinked 2 (some .int), Cond.fieldLink RX0 15 "BeepNet$Asks" "net" "LBeepNet$Net;", Cond.methodLink RX0 46 yX0_sizeLent, Cond.instanceMethod yX0_sizeLent, Cond.selects RX0 yX0_sizeLent yX0_sizeLent, Cond.code yX0_sizeLent cX0_sizeLent 2 (some .int), Cond.methodLink RX0 53 yX1_degree, Cond.instanceMethod yX1_degree, Cond.selects RX1 yX1_degree yX1_degree, Cond.initialized RX1, Cond.code yX1_degree cX1_degree 2 (some .int), Cond.fieldLink RX1 9 "BeepNet$Net" "neighbours" "[I", Cond.methodLink RX1 23 yJ6_bitCount_0f7a4, Cond.static yJ6_bitCount_0f7a4]
def wsX0_sizeOfLeaf_r2 : List Cond := [Cond.initialized RJ6, Cond.code yJ6_bitCount_0f7a4 cJ6_bitCount_0f7a4 1 (some .int), Cond.constant RJ6 265 (1431655765), Cond.constant RJ6 266 (858993459), Cond.constant RJ6 267 (252645135), Cond.methodLink RX0 56 yX1_width, Cond.instanceMethod yX1_width, Cond.selects RX1 yX1_width yX1_width, Cond.code yX1_width cX1_width 6 (some .int), Cond.fieldLink RX1 15 "BeepNet$Net" "posts" "I", Cond.methodLink RX1 32 yX1_oneStepFrom, Cond.instanceMethod yX1_oneStepFrom, Cond.selects RX1 yX1_oneStepFrom yX1_oneStepFrom, Cond.code yX1_oneStepFrom cX1_oneStepFrom 4 (some .int)]
def wsX0_sizeOfLeaf : List Cond := .code yX0_sizeOfLeaf cX0_sizeOfLeaf 2 (some .int) :: ((wsX0_sizeOfLeaf_r1 ++ wsX0_sizeOfLeaf_r2) ++ wsX00 ++ wsX10)
def wsX0_markOf_r1 : List Cond := [Cond.fieldLink RX0 15 "BeepNet$Asks" "net" "LBeepNet$Net;", Cond.methodLink RX0 31 yX1_kindOf, Cond.instanceMethod yX1_kindOf, Cond.selects RX1 yX1_kindOf yX1_kindOf, Cond.initialized RX1, Cond.code yX1_kindOf cX1_kindOf 3 (some .int), Cond.methodLink RX1 29 yX1_degree, Cond.instanceMethod yX1_degree, Cond.selects RX1 yX1_degree yX1_degree, Cond.code yX1_degree cX1_degree 2 (some .int), Cond.fieldLink RX1 9 "BeepNet$Net" "neighbours" "[I", Cond.methodLink RX1 23 yJ6_bitCount_0f7a4, Cond.static yJ6_bitCount_0f7a4, Cond.initialized RJ6, Cond.code yJ6_bitCount_0f7a4 cJ6_bitCount_0f7a4 1 (some .int), Cond.constant RJ6 265 (1431655765), Cond.constant RJ6 266 (858993459), Cond.constant RJ6 267 (252645135), Cond.methodLink RX1 40 yX1_mostNeighbours, Cond.instanceMethod yX1_mostNeighbours, Cond.selects RX1 yX1_mostNeighbours yX1_mostNeighbours, Cond.code yX1_mostNeighbours cX1_mostNeighbours 3 (some .int), Cond.fieldLink RX1 15 "BeepNet$Net" "posts" "I", Cond.methodLink RX1 43 Lib.Math.max.name]
def wsX0_markOf_r2 : List Cond := [Cond.static Lib.Math.max.name, Cond.initialized "java/lang/Math", Cond.code Lib.Math.max.name Lib.Math.max.code 2 (some .int), Cond.methodLink RX0 59 yX0_markOfHub, Cond.instanceMethod yX0_markOfHub, Cond.selects RX0 yX0_markOfHub yX0_markOfHub, Cond.initialized RX0, Cond.code yX0_markOfHub cX0_markOfHub 2 (some .int), Cond.methodLink RX0 49 yX0_leave, Cond.instanceMethod yX0_leave, Cond.selects RX0 yX0_leave yX0_leave, Cond.code yX0_leave cX0_leave 2 none, Cond.fieldLink RX0 19 "BeepNet$Asks" "length" "I", Cond.fieldLink RX0 9 "BeepNet$Asks" "begun" "[I", Cond.methodLink RX0 65 yX0_markLent, Cond.instanceMethod yX0_markLent, Cond.selects RX0 yX0_markLent yX0_markLent, Cond.code yX0_markLent cX0_markLent 2 (some .int), Cond.methodLink RX0 62 yX0_markOfLone, Cond.instanceMethod yX0_markOfLone, Cond.selects RX0 yX0_markOfLone yX0_markOfLone, Cond.code yX0_markOfLone cX0_markOfLone 4 (some .int), Cond.methodLink RX0 24 yX0_sizeOf, Cond.instanceMethod yX0_sizeOf]
def wsX0_markOf_r3 : List Cond := [Cond.selects RX0 yX0_sizeOf yX0_sizeOf, Cond.code yX0_sizeOf cX0_sizeOf 3 (some .int), Cond.methodLink RX0 37 yX0_sizeOfLeaf, Cond.instanceMethod yX0_sizeOfLeaf, Cond.selects RX0 yX0_sizeOfLeaf yX0_sizeOfLeaf, Cond.code yX0_sizeOfLeaf cX0_sizeOfLeaf 2 (some .int), Cond.methodLink RX0 43 yX0_sizeOfLinked, Cond.instanceMethod yX0_sizeOfLinked, Cond.selects RX0 yX0_sizeOfLinked yX0_sizeOfLinked, Cond.code yX0_sizeOfLinked cX0_sizeOfLinked 2 (some .int), Cond.methodLink RX0 46 yX0_sizeLent, Cond.instanceMethod yX0_sizeLent, Cond.selects RX0 yX0_sizeLent yX0_sizeLent, Cond.code yX0_sizeLent cX0_sizeLent 2 (some .int), Cond.methodLink RX0 53 yX1_degree, Cond.methodLink RX0 56 yX1_width, Cond.instanceMethod yX1_width, Cond.selects RX1 yX1_width yX1_width, Cond.code yX1_width cX1_width 6 (some .int), Cond.methodLink RX1 32 yX1_oneStepFrom, Cond.instanceMethod yX1_oneStepFrom, Cond.selects RX1 yX1_oneStepFrom yX1_oneStepFrom, Cond.code yX1_oneStepFrom cX1_oneStepFrom 4 (some .int), Cond.methodLink RX0 40 yX0_sizeOfHub]
def wsX0_markOf_r4 : List Cond := [Cond.instanceMethod yX0_sizeOfHub, Cond.selects RX0 yX0_sizeOfHub yX0_sizeOfHub, Cond.code yX0_sizeOfHub cX0_sizeOfHub 4 (some .int), Cond.methodLink RX0 28 yX0_markOf, Cond.instanceMethod yX0_markOf, Cond.selects RX0 yX0_markOf yX0_markOf]
def wsX0_markOf : List Cond := .code yX0_markOf cX0_markOf 3 (some .int) :: ((wsX0_markOf_r1 ++ (wsX0_markOf_r2 ++ (wsX0_markOf_r3 ++ wsX0_markOf_r4))) ++ wsX00 ++ wsX10)
def wsX0_markOfLone_r1 : List Cond := [Cond.methodLink RX0 49 yX0_leave, Cond.instanceMethod yX0_leave, Cond.selects RX0 yX0_leave yX0_leave, Cond.initialized RX0, Cond.code yX0_leave cX0_leave 2 none, Cond.fieldLink RX0 19 "BeepNet$Asks" "length" "I", Cond.fieldLink RX0 9 "BeepNet$Asks" "begun" "[I", Cond.methodLink RX0 65 yX0_markLent, Cond.instanceMethod yX0_markLent, Cond.selects RX0 yX0_markLent yX0_markLent, Cond.code yX0_markLent cX0_markLent 2 (some .int), Cond.methodLink RX0 24 yX0_sizeOf, Cond.instanceMethod yX0_sizeOf, Cond.selects RX0 yX0_sizeOf yX0_sizeOf, Cond.code yX0_markOf cX0_markOf 3 (some .int), Cond.fieldLink RX0 15 "BeepNet$Asks" "net" "LBeepNet$Net;", Cond.methodLink RX0 31 yX1_kindOf, Cond.instanceMethod yX1_kindOf, Cond.selects RX1 yX1_kindOf yX1_kindOf, Cond.initialized RX1, Cond.code yX1_kindOf cX1_kindOf 3 (some .int), Cond.methodLink RX1 29 yX1_degree, Cond.instanceMethod yX1_degree, Cond.selects RX1 yX1_degree yX1_degree]
def wsX0_markOfLone_r2 : List Cond := [Cond.code yX1_degree cX1_degree 2 (some .int), Cond.fieldLink RX1 9 "BeepNet$Net" "neighbours" "[I", Cond.methodLink RX1 23 yJ6_bitCount_0f7a4, Cond.static yJ6_bitCount_0f7a4, Cond.initialized RJ6, Cond.code yJ6_bitCount_0f7a4 cJ6_bitCount_0f7a4 1 (some .int), Cond.constant RJ6 265 (1431655765), Cond.constant RJ6 266 (858993459), Cond.constant RJ6 267 (252645135), Cond.methodLink RX1 40 yX1_mostNeighbours, Cond.instanceMethod yX1_mostNeighbours, Cond.selects RX1 yX1_mostNeighbours yX1_mostNeighbours, Cond.code yX1_mostNeighbours cX1_mostNeighbours 3 (some .int), Cond.fieldLink RX1 15 "BeepNet$Net" "posts" "I", Cond.methodLink RX1 43 Lib.Math.max.name, Cond.static Lib.Math.max.name, Cond.initialized "java/lang/Math", Cond.code Lib.Math.max.name Lib.Math.max.code 2 (some .int), Cond.methodLink RX0 59 yX0_markOfHub, Cond.instanceMethod yX0_markOfHub, Cond.selects RX0 yX0_markOfHub yX0_markOfHub, Cond.code yX0_markOfHub cX0_markOfHub 2 (some .int), Cond.methodLink RX0 62 yX0_markOfLone, Cond.instanceMethod yX0_markOfLone]
def wsX0_markOfLone_r3 : List Cond := [Cond.selects RX0 yX0_markOfLone yX0_markOfLone, Cond.code yX0_sizeOf cX0_sizeOf 3 (some .int), Cond.methodLink RX0 37 yX0_sizeOfLeaf, Cond.instanceMethod yX0_sizeOfLeaf, Cond.selects RX0 yX0_sizeOfLeaf yX0_sizeOfLeaf, Cond.code yX0_sizeOfLeaf cX0_sizeOfLeaf 2 (some .int), Cond.methodLink RX0 43 yX0_sizeOfLinked, Cond.instanceMethod yX0_sizeOfLinked, Cond.selects RX0 yX0_sizeOfLinked yX0_sizeOfLinked, Cond.code yX0_sizeOfLinked cX0_sizeOfLinked 2 (some .int), Cond.methodLink RX0 46 yX0_sizeLent, Cond.instanceMethod yX0_sizeLent, Cond.selects RX0 yX0_sizeLent yX0_sizeLent, Cond.code yX0_sizeLent cX0_sizeLent 2 (some .int), Cond.methodLink RX0 53 yX1_degree, Cond.methodLink RX0 56 yX1_width, Cond.instanceMethod yX1_width, Cond.selects RX1 yX1_width yX1_width, Cond.code yX1_width cX1_width 6 (some .int), Cond.methodLink RX1 32 yX1_oneStepFrom, Cond.instanceMethod yX1_oneStepFrom, Cond.selects RX1 yX1_oneStepFrom yX1_oneStepFrom, Cond.code yX1_oneStepFrom cX1_oneStepFrom 4 (some .int), Cond.methodLink RX0 40 yX0_sizeOfHub]
def wsX0_markOfLone_r4 : List Cond := [Cond.instanceMethod yX0_sizeOfHub, Cond.selects RX0 yX0_sizeOfHub yX0_sizeOfHub, Cond.code yX0_sizeOfHub cX0_sizeOfHub 4 (some .int), Cond.methodLink RX0 28 yX0_markOf, Cond.instanceMethod yX0_markOf, Cond.selects RX0 yX0_markOf yX0_markOf]
def wsX0_markOfLone : List Cond := .code yX0_markOfLone cX0_markOfLone 4 (some .int) :: ((wsX0_markOfLone_r1 ++ (wsX0_markOfLone_r2 ++ (wsX0_markOfLone_r3 ++ wsX0_markOfLone_r4))) ++ wsX00 ++ wsX10)
def wsX0_sizeOf_r1 : List Cond := [Cond.fieldLink RX0 15 "BeepNet$Asks" "net" "LBeepNet$Net;", Cond.methodLink RX0 31 yX1_kindOf, Cond.instanceMethod yX1_kindOf, Cond.selects RX1 yX1_kindOf yX1_kindOf, Cond.initialized RX1, Cond.code yX1_kindOf cX1_kindOf 3 (some .int), Cond.methodLink RX1 29 yX1_degree, Cond.instanceMethod yX1_degree, Cond.selects RX1 yX1_degree yX1_degree, Cond.code yX1_degree cX1_degree 2 (some .int), Cond.fieldLink RX1 9 "BeepNet$Net" "neighbours" "[I", Cond.methodLink RX1 23 yJ6_bitCount_0f7a4, Cond.static yJ6_bitCount_0f7a4, Cond.initialized RJ6, Cond.code yJ6_bitCount_0f7a4 cJ6_bitCount_0f7a4 1 (some .int), Cond.constant RJ6 265 (1431655765), Cond.constant RJ6 266 (858993459), Cond.constant RJ6 267 (252645135), Cond.methodLink RX1 40 yX1_mostNeighbours, Cond.instanceMethod yX1_mostNeighbours, Cond.selects RX1 yX1_mostNeighbours yX1_mostNeighbours, Cond.code yX1_mostNeighbours cX1_mostNeighbours 3 (some .int), Cond.fieldLink RX1 15 "BeepNet$Net" "posts" "I", Cond.methodLink RX1 43 Lib.Math.max.name]
def wsX0_sizeOf_r2 : List Cond := [Cond.static Lib.Math.max.name, Cond.initialized "java/lang/Math", Cond.code Lib.Math.max.name Lib.Math.max.code 2 (some .int), Cond.methodLink RX0 37 yX0_sizeOfLeaf, Cond.instanceMethod yX0_sizeOfLeaf, Cond.selects RX0 yX0_sizeOfLeaf yX0_sizeOfLeaf, Cond.initialized RX0, Cond.code yX0_sizeOfLeaf cX0_sizeOfLeaf 2 (some .int), Cond.methodLink RX0 49 yX0_leave, Cond.instanceMethod yX0_leave, Cond.selects RX0 yX0_leave yX0_leave, Cond.code yX0_leave cX0_leave 2 none, Cond.fieldLink RX0 19 "BeepNet$Asks" "length" "I", Cond.fieldLink RX0 9 "BeepNet$Asks" "begun" "[I", Cond.methodLink RX0 43 yX0_sizeOfLinked, Cond.instanceMethod yX0_sizeOfLinked, Cond.selects RX0 yX0_sizeOfLinked yX0_sizeOfLinked, Cond.code yX0_sizeOfLinked cX0_sizeOfLinked 2 (some .int), Cond.methodLink RX0 46 yX0_sizeLent, Cond.instanceMethod yX0_sizeLent, Cond.selects RX0 yX0_sizeLent yX0_sizeLent, Cond.code yX0_sizeLent cX0_sizeLent 2 (some .int), Cond.methodLink RX0 53 yX1_degree, Cond.methodLink RX0 56 yX1_width]
def wsX0_sizeOf_r3 : List Cond := [Cond.instanceMethod yX1_width, Cond.selects RX1 yX1_width yX1_width, Cond.code yX1_width cX1_width 6 (some .int), Cond.methodLink RX1 32 yX1_oneStepFrom, Cond.instanceMethod yX1_oneStepFrom, Cond.selects RX1 yX1_oneStepFrom yX1_oneStepFrom, Cond.code yX1_oneStepFrom cX1_oneStepFrom 4 (some .int), Cond.methodLink RX0 40 yX0_sizeOfHub, Cond.instanceMethod yX0_sizeOfHub, Cond.selects RX0 yX0_sizeOfHub yX0_sizeOfHub, Cond.code yX0_markOf cX0_markOf 3 (some .int), Cond.methodLink RX0 59 yX0_markOfHub, Cond.instanceMethod yX0_markOfHub, Cond.selects RX0 yX0_markOfHub yX0_markOfHub, Cond.code yX0_markOfHub cX0_markOfHub 2 (some .int), Cond.methodLink RX0 65 yX0_markLent, Cond.instanceMethod yX0_markLent, Cond.selects RX0 yX0_markLent yX0_markLent, Cond.code yX0_markLent cX0_markLent 2 (some .int), Cond.methodLink RX0 62 yX0_markOfLone, Cond.instanceMethod yX0_markOfLone, Cond.selects RX0 yX0_markOfLone yX0_markOfLone, Cond.code yX0_markOfLone cX0_markOfLone 4 (some .int), Cond.methodLink RX0 24 yX0_sizeOf]
def wsX0_sizeOf_r4 : List Cond := [Cond.instanceMethod yX0_sizeOf, Cond.selects RX0 yX0_sizeOf yX0_sizeOf, Cond.code yX0_sizeOfHub cX0_sizeOfHub 4 (some .int), Cond.methodLink RX0 28 yX0_markOf, Cond.instanceMethod yX0_markOf, Cond.selects RX0 yX0_markOf yX0_markOf]
def wsX0_sizeOf : List Cond := .code yX0_sizeOf cX0_sizeOf 3 (some .int) :: ((wsX0_sizeOf_r1 ++ (wsX0_sizeOf_r2 ++ (wsX0_sizeOf_r3 ++ wsX0_sizeOf_r4))) ++ wsX00 ++ wsX10)
def wsX0_sizeOfHub_r1 : List Cond := [Cond.methodLink RX0 49 yX0_leave, Cond.instanceMethod yX0_leave, Cond.selects RX0 yX0_leave yX0_leave, Cond.initialized RX0, Cond.code yX0_leave cX0_leave 2 none, Cond.fieldLink RX0 19 "BeepNet$Asks" "length" "I", Cond.fieldLink RX0 9 "BeepNet$Asks" "begun" "[I", Cond.methodLink RX0 43 yX0_sizeOfLinked, Cond.instanceMethod yX0_sizeOfLinked, Cond.selects RX0 yX0_sizeOfLinked yX0_sizeOfLinked, Cond.code yX0_sizeOfLinked cX0_sizeOfLinked 2 (some .int), Cond.fieldLink RX0 15 "BeepNet$Asks" "net" "LBeepNet$Net;", Cond.methodLink RX0 46 yX0_sizeLent, Cond.instanceMethod yX0_sizeLent, Cond.selects RX0 yX0_sizeLent yX0_sizeLent, Cond.code yX0_sizeLent cX0_sizeLent 2 (some .int), Cond.methodLink RX0 53 yX1_degree, Cond.instanceMethod yX1_degree, Cond.selects RX1 yX1_degree yX1_degree, Cond.initialized RX1, Cond.code yX1_degree cX1_degree 2 (some .int), Cond.fieldLink RX1 9 "BeepNet$Net" "neighbours" "[I", Cond.methodLink RX1 23 yJ6_bitCount_0f7a4, Cond.static yJ6_bitCount_0f7a4]
def wsX0_sizeOfHub_r2 : List Cond := [Cond.initialized RJ6, Cond.code yJ6_bitCount_0f7a4 cJ6_bitCount_0f7a4 1 (some .int), Cond.constant RJ6 265 (1431655765), Cond.constant RJ6 266 (858993459), Cond.constant RJ6 267 (252645135), Cond.methodLink RX0 56 yX1_width, Cond.instanceMethod yX1_width, Cond.selects RX1 yX1_width yX1_width, Cond.code yX1_width cX1_width 6 (some .int), Cond.fieldLink RX1 15 "BeepNet$Net" "posts" "I", Cond.methodLink RX1 32 yX1_oneStepFrom, Cond.instanceMethod yX1_oneStepFrom, Cond.selects RX1 yX1_oneStepFrom yX1_oneStepFrom, Cond.code yX1_oneStepFrom cX1_oneStepFrom 4 (some .int), Cond.methodLink RX0 28 yX0_markOf, Cond.instanceMethod yX0_markOf, Cond.selects RX0 yX0_markOf yX0_markOf, Cond.code yX0_markOf cX0_markOf 3 (some .int), Cond.methodLink RX0 31 yX1_kindOf, Cond.instanceMethod yX1_kindOf, Cond.selects RX1 yX1_kindOf yX1_kindOf, Cond.code yX1_kindOf cX1_kindOf 3 (some .int), Cond.methodLink RX1 29 yX1_degree, Cond.methodLink RX1 40 yX1_mostNeighbours]
def wsX0_sizeOfHub_r3 : List Cond := [Cond.instanceMethod yX1_mostNeighbours, Cond.selects RX1 yX1_mostNeighbours yX1_mostNeighbours, Cond.code yX1_mostNeighbours cX1_mostNeighbours 3 (some .int), Cond.methodLink RX1 43 Lib.Math.max.name, Cond.static Lib.Math.max.name, Cond.initialized "java/lang/Math", Cond.code Lib.Math.max.name Lib.Math.max.code 2 (some .int), Cond.methodLink RX0 59 yX0_markOfHub, Cond.instanceMethod yX0_markOfHub, Cond.selects RX0 yX0_markOfHub yX0_markOfHub, Cond.code yX0_markOfHub cX0_markOfHub 2 (some .int), Cond.methodLink RX0 65 yX0_markLent, Cond.instanceMethod yX0_markLent, Cond.selects RX0 yX0_markLent yX0_markLent, Cond.code yX0_markLent cX0_markLent 2 (some .int), Cond.methodLink RX0 62 yX0_markOfLone, Cond.instanceMethod yX0_markOfLone, Cond.selects RX0 yX0_markOfLone yX0_markOfLone, Cond.code yX0_markOfLone cX0_markOfLone 4 (some .int), Cond.methodLink RX0 24 yX0_sizeOf, Cond.instanceMethod yX0_sizeOf, Cond.selects RX0 yX0_sizeOf yX0_sizeOf, Cond.code yX0_sizeOf cX0_sizeOf 3 (some .int), Cond.methodLink RX0 37 yX0_sizeOfLeaf]
def wsX0_sizeOfHub_r4 : List Cond := [Cond.instanceMethod yX0_sizeOfLeaf, Cond.selects RX0 yX0_sizeOfLeaf yX0_sizeOfLeaf, Cond.code yX0_sizeOfLeaf cX0_sizeOfLeaf 2 (some .int), Cond.methodLink RX0 40 yX0_sizeOfHub, Cond.instanceMethod yX0_sizeOfHub, Cond.selects RX0 yX0_sizeOfHub yX0_sizeOfHub]
def wsX0_sizeOfHub : List Cond := .code yX0_sizeOfHub cX0_sizeOfHub 4 (some .int) :: ((wsX0_sizeOfHub_r1 ++ (wsX0_sizeOfHub_r2 ++ (wsX0_sizeOfHub_r3 ++ wsX0_sizeOfHub_r4))) ++ wsX00 ++ wsX10)
def wsX0_answer_r1 : List Cond := [Cond.fieldLink RX0 19 "BeepNet$Asks" "length" "I", Cond.methodLink RX0 24 yX0_sizeOf, Cond.instanceMethod yX0_sizeOf, Cond.selects RX0 yX0_sizeOf yX0_sizeOf, Cond.initialized RX0, Cond.code yX0_sizeOf cX0_sizeOf 3 (some .int), Cond.fieldLink RX0 15 "BeepNet$Asks" "net" "LBeepNet$Net;", Cond.methodLink RX0 31 yX1_kindOf, Cond.instanceMethod yX1_kindOf, Cond.selects RX1 yX1_kindOf yX1_kindOf, Cond.initialized RX1, Cond.code yX1_kindOf cX1_kindOf 3 (some .int), Cond.methodLink RX1 29 yX1_degree, Cond.instanceMethod yX1_degree, Cond.selects RX1 yX1_degree yX1_degree, Cond.code yX1_degree cX1_degree 2 (some .int), Cond.fieldLink RX1 9 "BeepNet$Net" "neighbours" "[I", Cond.methodLink RX1 23 yJ6_bitCount_0f7a4, Cond.static yJ6_bitCount_0f7a4, Cond.initialized RJ6, Cond.code yJ6_bitCount_0f7a4 cJ6_bitCount_0f7a4 1 (some .int), Cond.constant RJ6 265 (1431655765), Cond.constant RJ6 266 (858993459), Cond.constant RJ6 267 (252645135)]
def wsX0_answer_r2 : List Cond := [Cond.methodLink RX1 40 yX1_mostNeighbours, Cond.instanceMethod yX1_mostNeighbours, Cond.selects RX1 yX1_mostNeighbours yX1_mostNeighbours, Cond.code yX1_mostNeighbours cX1_mostNeighbours 3 (some .int), Cond.fieldLink RX1 15 "BeepNet$Net" "posts" "I", Cond.methodLink RX1 43 Lib.Math.max.name, Cond.static Lib.Math.max.name, Cond.initialized "java/lang/Math", Cond.code Lib.Math.max.name Lib.Math.max.code 2 (some .int), Cond.methodLink RX0 37 yX0_sizeOfLeaf, Cond.instanceMethod yX0_sizeOfLeaf, Cond.selects RX0 yX0_sizeOfLeaf yX0_sizeOfLeaf, Cond.code yX0_sizeOfLeaf cX0_sizeOfLeaf 2 (some .int), Cond.methodLink RX0 49 yX0_leave, Cond.instanceMethod yX0_leave, Cond.selects RX0 yX0_leave yX0_leave, Cond.code yX0_leave cX0_leave 2 none, Cond.fieldLink RX0 9 "BeepNet$Asks" "begun" "[I", Cond.methodLink RX0 43 yX0_sizeOfLinked, Cond.instanceMethod yX0_sizeOfLinked, Cond.selects RX0 yX0_sizeOfLinked yX0_sizeOfLinked, Cond.code yX0_sizeOfLinked cX0_sizeOfLinked 2 (some .int), Cond.methodLink RX0 46 yX0_sizeLent, Cond.instanceMethod yX0_sizeLent]
def wsX0_answer_r3 : List Cond := [Cond.selects RX0 yX0_sizeLent yX0_sizeLent, Cond.code yX0_sizeLent cX0_sizeLent 2 (some .int), Cond.methodLink RX0 53 yX1_degree, Cond.methodLink RX0 56 yX1_width, Cond.instanceMethod yX1_width, Cond.selects RX1 yX1_width yX1_width, Cond.code yX1_width cX1_width 6 (some .int), Cond.methodLink RX1 32 yX1_oneStepFrom, Cond.instanceMethod yX1_oneStepFrom, Cond.selects RX1 yX1_oneStepFrom yX1_oneStepFrom, Cond.code yX1_oneStepFrom cX1_oneStepFrom 4 (some .int), Cond.methodLink RX0 40 yX0_sizeOfHub, Cond.instanceMethod yX0_sizeOfHub, Cond.selects RX0 yX0_sizeOfHub yX0_sizeOfHub, Cond.code yX0_markOf cX0_markOf 3 (some .int), Cond.methodLink RX0 59 yX0_markOfHub, Cond.instanceMethod yX0_markOfHub, Cond.selects RX0 yX0_markOfHub yX0_markOfHub, Cond.code yX0_markOfHub cX0_markOfHub 2 (some .int), Cond.methodLink RX0 65 yX0_markLent, Cond.instanceMethod yX0_markLent, Cond.selects RX0 yX0_markLent yX0_markLent, Cond.code yX0_markLent cX0_markLent 2 (some .int), Cond.methodLink RX0 62 yX0_markOfLone]
def wsX0_answer_r4 : List Cond := [Cond.instanceMethod yX0_markOfLone, Cond.selects RX0 yX0_markOfLone yX0_markOfLone, Cond.code yX0_markOfLone cX0_markOfLone 4 (some .int), Cond.code yX0_sizeOfHub cX0_sizeOfHub 4 (some .int), Cond.methodLink RX0 28 yX0_markOf, Cond.instanceMethod yX0_markOf, Cond.selects RX0 yX0_markOf yX0_markOf]
def wsX0_answer : List Cond := .code yX0_answer cX0_answer 3 (some .int) :: ((wsX0_answer_r1 ++ (wsX0_answer_r2 ++ (wsX0_answer_r3 ++ wsX0_answer_r4))) ++ wsX00 ++ wsX10)
def wsX1_init : List Cond := .code yX1_init cX1_init 1 none :: ([.methodLink RX1 3 objectInit, .instanceMethod objectInit, .code objectInit ⟨#[0xb1]⟩ 1 none, .arrayClass .int, .fieldLink RX1 9 "BeepNet$Net" "neighbours" "[I"] ++ wsX10)
def wsX1_size : List Cond := .code yX1_size cX1_size 1 (some .int) :: ([.fieldLink RX1 15 "BeepNet$Net" "posts" "I"] ++ wsX10)
def wsX1_isFull : List Cond := .code yX1_isFull cX1_isFull 1 (some .boolean) :: ([.fieldLink RX1 15 "BeepNet$Net" "posts" "I"] ++ wsX10)
def wsX1_add : List Cond := .code yX1_add cX1_add 1 (some .int) :: ([.fieldLink RX1 15 "BeepNet$Net" "posts" "I"] ++ wsX10)
def wsX1_hasPost : List Cond := .code yX1_hasPost cX1_hasPost 2 (some .boolean) :: ([.fieldLink RX1 15 "BeepNet$Net" "posts" "I"] ++ wsX10)
def wsX1_allPosts : List Cond := .code yX1_allPosts cX1_allPosts 1 (some .int) :: ([.fieldLink RX1 15 "BeepNet$Net" "posts" "I"] ++ wsX10)
def wsX1_hasSet : List Cond := .code yX1_hasSet cX1_hasSet 2 (some .boolean) :: ([.methodLink RX1 19 yX1_allPosts, .instanceMethod yX1_allPosts, .selects RX1 yX1_allPosts yX1_allPosts, .initialized RX1, .code yX1_allPosts cX1_allPosts 1 (some .int), .fieldLink RX1 15 "BeepNet$Net" "posts" "I"] ++ wsX10)
def wsX1_isLinked : List Cond := .code yX1_isLinked cX1_isLinked 3 (some .boolean) :: ([.fieldLink RX1 9 "BeepNet$Net" "neighbours" "[I"] ++ wsX10)
def wsX1_toggle : List Cond := .code yX1_toggle cX1_toggle 3 (some .int) :: ([.fieldLink RX1 9 "BeepNet$Net" "neighbours" "[I"] ++ wsX10)
def wsX1_neighboursOf : List Cond := .code yX1_neighboursOf cX1_neighboursOf 2 (some .int) :: ([.fieldLink RX1 9 "BeepNet$Net" "neighbours" "[I"] ++ wsX10)
def wsX1_pairs : List Cond := .code yX1_pairs cX1_pairs 3 (some .int) :: ([.fieldLink RX1 15 "BeepNet$Net" "posts" "I", .methodLink RX1 29 yX1_degree, .instanceMethod yX1_degree, .selects RX1 yX1_degree yX1_degree, .initialized RX1, .code yX1_degree cX1_degree 2 (some .int), .fieldLink RX1 9 "BeepNet$Net" "neighbours" "[I", .methodLink RX1 23 yJ6_bitCount_0f7a4, .static yJ6_bitCount_0f7a4, .initialized RJ6, .code yJ6_bitCount_0f7a4 cJ6_bitCount_0f7a4 1 (some .int), .constant RJ6 265 (1431655765), .constant RJ6 266 (858993459), .constant RJ6 267 (252645135)] ++ wsX10)
def wsX1_reachOf : List Cond := .code yX1_reachOf cX1_reachOf 4 (some .int) :: ([.fieldLink RX1 15 "BeepNet$Net" "posts" "I", .methodLink RX1 32 yX1_oneStepFrom, .instanceMethod yX1_oneStepFrom, .selects RX1 yX1_oneStepFrom yX1_oneStepFrom, .initialized RX1, .code yX1_oneStepFrom cX1_oneStepFrom 4 (some .int), .fieldLink RX1 9 "BeepNet$Net" "neighbours" "[I"] ++ wsX10)
def wsX1_stepsBetween : List Cond := .code yX1_stepsBetween cX1_stepsBetween 5 (some .int) :: ([.fieldLink RX1 15 "BeepNet$Net" "posts" "I", .constant RX1 35 (-1000000), .methodLink RX1 32 yX1_oneStepFrom, .instanceMethod yX1_oneStepFrom, .selects RX1 yX1_oneStepFrom yX1_oneStepFrom, .initialized RX1, .code yX1_oneStepFrom cX1_oneStepFrom 4 (some .int), .fieldLink RX1 9 "BeepNet$Net" "neighbours" "[I"] ++ wsX10)
def wsX1_heardBy : List Cond := .code yX1_heardBy cX1_heardBy 6 (some .int) :: ([.fieldLink RX1 15 "BeepNet$Net" "posts" "I", .fieldLink RX1 9 "BeepNet$Net" "neighbours" "[I"] ++ wsX10)
def wsX1_knowAfter : List Cond := .code yX1_knowAfter cX1_knowAfter 4 (some .int) :: ([.methodLink RX1 36 yX1_heardBy, .instanceMethod yX1_heardBy, .selects RX1 yX1_heardBy yX1_heardBy, .initialized RX1, .code yX1_heardBy cX1_heardBy 6 (some .int), .fieldLink RX1 15 "BeepNet$Net" "posts" "I", .fieldLink RX1 9 "BeepNet$Net" "neighbours" "[I"] ++ wsX10)
def wsX1_isOfKind_r1 : List Cond := [Cond.methodLink RX1 48 yX1_kindOf, Cond.instanceMethod yX1_kindOf, Cond.selects RX1 yX1_kindOf yX1_kindOf, Cond.initialized RX1, Cond.code yX1_kindOf cX1_kindOf 3 (some .int), Cond.methodLink RX1 29 yX1_degree, Cond.instanceMethod yX1_degree, Cond.selects RX1 yX1_degree yX1_degree, Cond.code yX1_degree cX1_degree 2 (some .int), Cond.fieldLink RX1 9 "BeepNet$Net" "neighbours" "[I", Cond.methodLink RX1 23 yJ6_bitCount_0f7a4, Cond.static yJ6_bitCount_0f7a4, Cond.initialized RJ6, Cond.code yJ6_bitCount_0f7a4 cJ6_bitCount_0f7a4 1 (some .int), Cond.constant RJ6 265 (1431655765), Cond.constant RJ6 266 (858993459), Cond.constant RJ6 267 (252645135), Cond.methodLink RX1 40 yX1_mostNeighbours, Cond.instanceMethod yX1_mostNeighbours, Cond.selects RX1 yX1_mostNeighbours yX1_mostNeighbours, Cond.code yX1_mostNeighbours cX1_mostNeighbours 3 (some .int), Cond.fieldLink RX1 15 "BeepNet$Net" "posts" "I", Cond.methodLink RX1 43 Lib.Math.max.name, Cond.static Lib.Math.max.name]
def wsX1_isOfKind_r2 : List Cond := [Cond.initialized "java/lang/Math", Cond.code Lib.Math.max.name Lib.Math.max.code 2 (some .int)]
def wsX1_isOfKind : List Cond := .code yX1_isOfKind cX1_isOfKind 4 (some .boolean) :: ((wsX1_isOfKind_r1 ++ wsX1_isOfKind_r2) ++ wsX10)
def wsX1_countOf_r1 : List Cond := [Cond.fieldLink RX1 15 "BeepNet$Net" "posts" "I", Cond.methodLink RX1 48 yX1_kindOf, Cond.instanceMethod yX1_kindOf, Cond.selects RX1 yX1_kindOf yX1_kindOf, Cond.initialized RX1, Cond.code yX1_kindOf cX1_kindOf 3 (some .int), Cond.methodLink RX1 29 yX1_degree, Cond.instanceMethod yX1_degree, Cond.selects RX1 yX1_degree yX1_degree, Cond.code yX1_degree cX1_degree 2 (some .int), Cond.fieldLink RX1 9 "BeepNet$Net" "neighbours" "[I", Cond.methodLink RX1 23 yJ6_bitCount_0f7a4, Cond.static yJ6_bitCount_0f7a4, Cond.initialized RJ6, Cond.code yJ6_bitCount_0f7a4 cJ6_bitCount_0f7a4 1 (some .int), Cond.constant RJ6 265 (1431655765), Cond.constant RJ6 266 (858993459), Cond.constant RJ6 267 (252645135), Cond.methodLink RX1 40 yX1_mostNeighbours, Cond.instanceMethod yX1_mostNeighbours, Cond.selects RX1 yX1_mostNeighbours yX1_mostNeighbours, Cond.code yX1_mostNeighbours cX1_mostNeighbours 3 (some .int), Cond.methodLink RX1 43 Lib.Math.max.name, Cond.static Lib.Math.max.name]
def wsX1_countOf_r2 : List Cond := [Cond.initialized "java/lang/Math", Cond.code Lib.Math.max.name Lib.Math.max.code 2 (some .int)]
def wsX1_countOf : List Cond := .code yX1_countOf cX1_countOf 4 (some .int) :: ((wsX1_countOf_r1 ++ wsX1_countOf_r2) ++ wsX10)
def wsX2_init : List Cond := .code yX2_init cX2_init 1 none :: ([.methodLink RX2 3 objectInit, .instanceMethod objectInit, .code objectInit ⟨#[0xb1]⟩ 1 none, .arrayClass .int, .fieldLink RX2 9 "BeepNet$Reader" "tape" "[I", .fieldLink RX2 15 "BeepNet$Reader" "rounds" "[I"] ++ wsX20)
def wsX2_size : List Cond := .code yX2_size cX2_size 1 (some .int) :: ([.fieldLink RX2 18 "BeepNet$Reader" "length" "I"] ++ wsX20)
def wsX2_hasRoom : List Cond := .code yX2_hasRoom cX2_hasRoom 2 (some .boolean) :: ([.fieldLink RX2 18 "BeepNet$Reader" "length" "I"] ++ wsX20)
def wsX2_take : List Cond := .code yX2_take cX2_take 5 (some .int) :: ([.fieldLink RX2 9 "BeepNet$Reader" "tape" "[I", .fieldLink RX2 18 "BeepNet$Reader" "length" "I", .constantLong RX2 22 (255)] ++ wsX20)
def wsX2_giveRounds : List Cond := .code yX2_giveRounds cX2_giveRounds 2 (some .int) :: ([.fieldLink RX2 15 "BeepNet$Reader" "rounds" "[I", .fieldLink RX2 24 "BeepNet$Reader" "roundsRead" "I", .methodLink RX2 27 arraycopyName, .native arraycopyName, .static arraycopyName, .initialized "java/lang/System"] ++ wsX20)
def wsX2_tokenPlace : List Cond := .code yX2_tokenPlace cX2_tokenPlace 1 (some .int) :: ([.fieldLink RX2 33 "BeepNet$Reader" "start" "I"] ++ wsX20)
def wsX2_isLetter : List Cond := .code yX2_isLetter cX2_isLetter 1 (some .boolean) :: ([])
def wsJ0_coder_7d493 : List Cond := .code yJ0_coder_7d493 cJ0_coder_7d493 1 (some .byte) :: ([.fieldLink RJ0 38 "java/lang/String" "COMPACT_STRINGS" "Z", .fieldLink RJ0 15 "java/lang/String" "coder" "B"])
def wsJ0_length_8abf5 : List Cond := .code yJ0_length_8abf5 cJ0_length_8abf5 1 (some .int) :: ([.fieldLink RJ0 9 "java/lang/String" "value" "[B", .methodLink RJ0 335 yJ0_coder_7d493, .instanceMethod yJ0_coder_7d493, .selects RJ0 yJ0_coder_7d493 yJ0_coder_7d493, .initialized RJ0, .code yJ0_coder_7d493 cJ0_coder_7d493 1 (some .byte), .fieldLink RJ0 38 "java/lang/String" "COMPACT_STRINGS" "Z", .fieldLink RJ0 15 "java/lang/String" "coder" "B"])
def wsJ0_isLatin1_aae02 : List Cond := .code yJ0_isLatin1_aae02 cJ0_isLatin1_aae02 1 (some .boolean) :: ([.fieldLink RJ0 38 "java/lang/String" "COMPACT_STRINGS" "Z", .fieldLink RJ0 15 "java/lang/String" "coder" "B"])
def wsJ3_checkIndex_8e157 : List Cond := .code yJ3_checkIndex_8e157 cJ3_checkIndex_8e157 3 (some .int) :: ([])
def wsJ0_checkIndex_df160 : List Cond := .code yJ0_checkIndex_df160 cJ0_checkIndex_df160 2 none :: ([.fieldLink RJ0 1053 "jdk/internal/util/Preconditions" "SIOOBE_FORMATTER" "Ljava/util/function/BiFunction;", .methodLink RJ0 1059 yJ3_checkIndex_8e157, .static yJ3_checkIndex_8e157, .initialized RJ3, .code yJ3_checkIndex_8e157 cJ3_checkIndex_8e157 3 (some .int)])
def wsJ1_charAt_3b067 : List Cond := .code yJ1_charAt_3b067 cJ1_charAt_3b067 2 (some .char) :: ([.methodLink RJ1 9 yJ0_checkIndex_df160, .static yJ0_checkIndex_df160, .initialized RJ0, .code yJ0_checkIndex_df160 cJ0_checkIndex_df160 2 none, .fieldLink RJ0 1053 "jdk/internal/util/Preconditions" "SIOOBE_FORMATTER" "Ljava/util/function/BiFunction;", .methodLink RJ0 1059 yJ3_checkIndex_8e157, .static yJ3_checkIndex_8e157, .initialized RJ3, .code yJ3_checkIndex_8e157 cJ3_checkIndex_8e157 3 (some .int)])
def wsJ2_length_9d52b : List Cond := .code yJ2_length_9d52b cJ2_length_9d52b 1 (some .int) :: ([])
def wsJ2_checkIndex_2214a : List Cond := .code yJ2_checkIndex_2214a cJ2_checkIndex_2214a 2 none :: ([.methodLink RJ2 48 yJ2_length_9d52b, .static yJ2_length_9d52b, .initialized RJ2, .code yJ2_length_9d52b cJ2_length_9d52b 1 (some .int), .methodLink RJ2 414 yJ0_checkIndex_df160, .static yJ0_checkIndex_df160, .initialized RJ0, .code yJ0_checkIndex_df160 cJ0_checkIndex_df160 2 none, .fieldLink RJ0 1053 "jdk/internal/util/Preconditions" "SIOOBE_FORMATTER" "Ljava/util/function/BiFunction;", .methodLink RJ0 1059 yJ3_checkIndex_8e157, .static yJ3_checkIndex_8e157, .initialized RJ3, .code yJ3_checkIndex_8e157 cJ3_checkIndex_8e157 3 (some .int)])
def wsJ2_getChar_3b067 : List Cond := .code yJ2_getChar_3b067 cJ2_getChar_3b067 2 (some .char) :: ([.fieldLink RJ2 44 "java/lang/StringUTF16" "$assertionsDisabled" "Z", .fieldLink RJ2 59 "java/lang/StringUTF16" "HI_BYTE_SHIFT" "I", .fieldLink RJ2 63 "java/lang/StringUTF16" "LO_BYTE_SHIFT" "I", .methodLink RJ2 48 yJ2_length_9d52b, .static yJ2_length_9d52b, .initialized RJ2, .code yJ2_length_9d52b cJ2_length_9d52b 1 (some .int)])
def wsJ2_charAt_3b067 : List Cond := .code yJ2_charAt_3b067 cJ2_charAt_3b067 2 (some .char) :: ([.methodLink RJ2 67 yJ2_checkIndex_2214a, .static yJ2_checkIndex_2214a, .initialized RJ2, .code yJ2_checkIndex_2214a cJ2_checkIndex_2214a 2 none, .methodLink RJ2 48 yJ2_length_9d52b, .static yJ2_length_9d52b, .code yJ2_length_9d52b cJ2_length_9d52b 1 (some .int), .methodLink RJ2 414 yJ0_checkIndex_df160, .static yJ0_checkIndex_df160, .initialized RJ0, .code yJ0_checkIndex_df160 cJ0_checkIndex_df160 2 none, .fieldLink RJ0 1053 "jdk/internal/util/Preconditions" "SIOOBE_FORMATTER" "Ljava/util/function/BiFunction;", .methodLink RJ0 1059 yJ3_checkIndex_8e157, .static yJ3_checkIndex_8e157, .initialized RJ3, .code yJ3_checkIndex_8e157 cJ3_checkIndex_8e157 3 (some .int), .methodLink RJ2 71 yJ2_getChar_3b067, .static yJ2_getChar_3b067, .code yJ2_getChar_3b067 cJ2_getChar_3b067 2 (some .char), .fieldLink RJ2 44 "java/lang/StringUTF16" "$assertionsDisabled" "Z", .fieldLink RJ2 59 "java/lang/StringUTF16" "HI_BYTE_SHIFT" "I", .fieldLink RJ2 63 "java/lang/StringUTF16" "LO_BYTE_SHIFT" "I"])
def wsJ0_charAt_5068e_r1 : List Cond := [Cond.fieldLink RJ0 9 "java/lang/String" "value" "[B", Cond.methodLink RJ0 492 yJ0_isLatin1_aae02, Cond.instanceMethod yJ0_isLatin1_aae02, Cond.selects RJ0 yJ0_isLatin1_aae02 yJ0_isLatin1_aae02, Cond.initialized RJ0, Cond.code yJ0_isLatin1_aae02 cJ0_isLatin1_aae02 1 (some .boolean), Cond.fieldLink RJ0 38 "java/lang/String" "COMPACT_STRINGS" "Z", Cond.fieldLink RJ0 15 "java/lang/String" "coder" "B", Cond.methodLink RJ0 495 yJ1_charAt_3b067, Cond.static yJ1_charAt_3b067, Cond.initialized RJ1, Cond.code yJ1_charAt_3b067 cJ1_charAt_3b067 2 (some .char), Cond.methodLink RJ1 9 yJ0_checkIndex_df160, Cond.static yJ0_checkIndex_df160, Cond.code yJ0_checkIndex_df160 cJ0_checkIndex_df160 2 none, Cond.fieldLink RJ0 1053 "jdk/internal/util/Preconditions" "SIOOBE_FORMATTER" "Ljava/util/function/BiFunction;", Cond.methodLink RJ0 1059 yJ3_checkIndex_8e157, Cond.static yJ3_checkIndex_8e157, Cond.initialized RJ3, Cond.code yJ3_checkIndex_8e157 cJ3_checkIndex_8e157 3 (some .int), Cond.methodLink RJ0 498 yJ2_charAt_3b067, Cond.static yJ2_charAt_3b067, Cond.initialized RJ2, Cond.code yJ2_charAt_3b067 cJ2_charAt_3b067 2 (some .char)]
def wsJ0_charAt_5068e_r2 : List Cond := [Cond.methodLink RJ2 67 yJ2_checkIndex_2214a, Cond.static yJ2_checkIndex_2214a, Cond.code yJ2_checkIndex_2214a cJ2_checkIndex_2214a 2 none, Cond.methodLink RJ2 48 yJ2_length_9d52b, Cond.static yJ2_length_9d52b, Cond.code yJ2_length_9d52b cJ2_length_9d52b 1 (some .int), Cond.methodLink RJ2 414 yJ0_checkIndex_df160, Cond.methodLink RJ2 71 yJ2_getChar_3b067, Cond.static yJ2_getChar_3b067, Cond.code yJ2_getChar_3b067 cJ2_getChar_3b067 2 (some .char), Cond.fieldLink RJ2 44 "java/lang/StringUTF16" "$assertionsDisabled" "Z", Cond.fieldLink RJ2 59 "java/lang/StringUTF16" "HI_BYTE_SHIFT" "I", Cond.fieldLink RJ2 63 "java/lang/StringUTF16" "LO_BYTE_SHIFT" "I"]
def wsJ0_charAt_5068e : List Cond := .code yJ0_charAt_5068e cJ0_charAt_5068e 2 (some .char) :: ((wsJ0_charAt_5068e_r1 ++ wsJ0_charAt_5068e_r2))
def wsX2_isWord_r1 : List Cond := [Cond.fieldLink RX2 36 "BeepNet$Reader" "behind" "I", Cond.fieldLink RX2 33 "BeepNet$Reader" "start" "I", Cond.fieldLink RX2 9 "BeepNet$Reader" "tape" "[I", Cond.methodLink RX2 85 yJ0_length_8abf5, Cond.instanceMethod yJ0_length_8abf5, Cond.selects RJ0 yJ0_length_8abf5 yJ0_length_8abf5, Cond.initialized RJ0, Cond.code yJ0_length_8abf5 cJ0_length_8abf5 1 (some .int), Cond.fieldLink RJ0 9 "java/lang/String" "value" "[B", Cond.methodLink RJ0 335 yJ0_coder_7d493, Cond.instanceMethod yJ0_coder_7d493, Cond.selects RJ0 yJ0_coder_7d493 yJ0_coder_7d493, Cond.code yJ0_coder_7d493 cJ0_coder_7d493 1 (some .byte), Cond.fieldLink RJ0 38 "java/lang/String" "COMPACT_STRINGS" "Z", Cond.fieldLink RJ0 15 "java/lang/String" "coder" "B", Cond.methodLink RX2 89 yJ0_charAt_5068e, Cond.instanceMethod yJ0_charAt_5068e, Cond.selects RJ0 yJ0_charAt_5068e yJ0_charAt_5068e, Cond.code yJ0_charAt_5068e cJ0_charAt_5068e 2 (some .char), Cond.methodLink RJ0 492 yJ0_isLatin1_aae02, Cond.instanceMethod yJ0_isLatin1_aae02, Cond.selects RJ0 yJ0_isLatin1_aae02 yJ0_isLatin1_aae02, Cond.code yJ0_isLatin1_aae02 cJ0_isLatin1_aae02 1 (some .boolean), Cond.methodLink RJ0 495 yJ1_charAt_3b067]
def wsX2_isWord_r2 : List Cond := [Cond.static yJ1_charAt_3b067, Cond.initialized RJ1, Cond.code yJ1_charAt_3b067 cJ1_charAt_3b067 2 (some .char), Cond.methodLink RJ1 9 yJ0_checkIndex_df160, Cond.static yJ0_checkIndex_df160, Cond.code yJ0_checkIndex_df160 cJ0_checkIndex_df160 2 none, Cond.fieldLink RJ0 1053 "jdk/internal/util/Preconditions" "SIOOBE_FORMATTER" "Ljava/util/function/BiFunction;", Cond.methodLink RJ0 1059 yJ3_checkIndex_8e157, Cond.static yJ3_checkIndex_8e157, Cond.initialized RJ3, Cond.code yJ3_checkIndex_8e157 cJ3_checkIndex_8e157 3 (some .int), Cond.methodLink RJ0 498 yJ2_charAt_3b067, Cond.static yJ2_charAt_3b067, Cond.initialized RJ2, Cond.code yJ2_charAt_3b067 cJ2_charAt_3b067 2 (some .char), Cond.methodLink RJ2 67 yJ2_checkIndex_2214a, Cond.static yJ2_checkIndex_2214a, Cond.code yJ2_checkIndex_2214a cJ2_checkIndex_2214a 2 none, Cond.methodLink RJ2 48 yJ2_length_9d52b, Cond.static yJ2_length_9d52b, Cond.code yJ2_length_9d52b cJ2_length_9d52b 1 (some .int), Cond.methodLink RJ2 414 yJ0_checkIndex_df160, Cond.methodLink RJ2 71 yJ2_getChar_3b067, Cond.static yJ2_getChar_3b067]
def wsX2_isWord_r3 : List Cond := [Cond.code yJ2_getChar_3b067 cJ2_getChar_3b067 2 (some .char), Cond.fieldLink RJ2 44 "java/lang/StringUTF16" "$assertionsDisabled" "Z", Cond.fieldLink RJ2 59 "java/lang/StringUTF16" "HI_BYTE_SHIFT" "I", Cond.fieldLink RJ2 63 "java/lang/StringUTF16" "LO_BYTE_SHIFT" "I"]
def wsX2_isWord : List Cond := .code yX2_isWord cX2_isWord 3 (some .boolean) :: ((wsX2_isWord_r1 ++ (wsX2_isWord_r2 ++ wsX2_isWord_r3)) ++ wsX20)
def wsX2_advanceName_r1 : List Cond := [Cond.fieldLink RX2 36 "BeepNet$Reader" "behind" "I", Cond.fieldLink RX2 18 "BeepNet$Reader" "length" "I", Cond.fieldLink RX2 9 "BeepNet$Reader" "tape" "[I", Cond.fieldLink RX2 42 "BeepNet$Reader" "token" "I", Cond.methodLink RX2 62 yX2_isLetter, Cond.static yX2_isLetter, Cond.initialized RX2, Cond.code yX2_isLetter cX2_isLetter 1 (some .boolean), Cond.methodLink RX2 77 yX2_isWord, Cond.instanceMethod yX2_isWord, Cond.selects RX2 yX2_isWord yX2_isWord, Cond.code yX2_isWord cX2_isWord 3 (some .boolean), Cond.fieldLink RX2 33 "BeepNet$Reader" "start" "I", Cond.methodLink RX2 85 yJ0_length_8abf5, Cond.instanceMethod yJ0_length_8abf5, Cond.selects RJ0 yJ0_length_8abf5 yJ0_length_8abf5, Cond.initialized RJ0, Cond.code yJ0_length_8abf5 cJ0_length_8abf5 1 (some .int), Cond.fieldLink RJ0 9 "java/lang/String" "value" "[B", Cond.methodLink RJ0 335 yJ0_coder_7d493, Cond.instanceMethod yJ0_coder_7d493, Cond.selects RJ0 yJ0_coder_7d493 yJ0_coder_7d493, Cond.code yJ0_coder_7d493 cJ0_coder_7d493 1 (some .byte), Cond.fieldLink RJ0 38 "java/lang/String" "COMPACT_STRINGS" "Z"]
def wsX2_advanceName_r2 : List Cond := [Cond.fieldLink RJ0 15 "java/lang/String" "coder" "B", Cond.methodLink RX2 89 yJ0_charAt_5068e, Cond.instanceMethod yJ0_charAt_5068e, Cond.selects RJ0 yJ0_charAt_5068e yJ0_charAt_5068e, Cond.code yJ0_charAt_5068e cJ0_charAt_5068e 2 (some .char), Cond.methodLink RJ0 492 yJ0_isLatin1_aae02, Cond.instanceMethod yJ0_isLatin1_aae02, Cond.selects RJ0 yJ0_isLatin1_aae02 yJ0_isLatin1_aae02, Cond.code yJ0_isLatin1_aae02 cJ0_isLatin1_aae02 1 (some .boolean), Cond.methodLink RJ0 495 yJ1_charAt_3b067, Cond.static yJ1_charAt_3b067, Cond.initialized RJ1, Cond.code yJ1_charAt_3b067 cJ1_charAt_3b067 2 (some .char), Cond.methodLink RJ1 9 yJ0_checkIndex_df160, Cond.static yJ0_checkIndex_df160, Cond.code yJ0_checkIndex_df160 cJ0_checkIndex_df160 2 none, Cond.fieldLink RJ0 1053 "jdk/internal/util/Preconditions" "SIOOBE_FORMATTER" "Ljava/util/function/BiFunction;", Cond.methodLink RJ0 1059 yJ3_checkIndex_8e157, Cond.static yJ3_checkIndex_8e157, Cond.initialized RJ3, Cond.code yJ3_checkIndex_8e157 cJ3_checkIndex_8e157 3 (some .int), Cond.methodLink RJ0 498 yJ2_charAt_3b067, Cond.static yJ2_charAt_3b067, Cond.initialized RJ2]
def wsX2_advanceName_r3 : List Cond := [Cond.code yJ2_charAt_3b067 cJ2_charAt_3b067 2 (some .char), Cond.methodLink RJ2 67 yJ2_checkIndex_2214a, Cond.static yJ2_checkIndex_2214a, Cond.code yJ2_checkIndex_2214a cJ2_checkIndex_2214a 2 none, Cond.methodLink RJ2 48 yJ2_length_9d52b, Cond.static yJ2_length_9d52b, Cond.code yJ2_length_9d52b cJ2_length_9d52b 1 (some .int), Cond.methodLink RJ2 414 yJ0_checkIndex_df160, Cond.methodLink RJ2 71 yJ2_getChar_3b067, Cond.static yJ2_getChar_3b067, Cond.code yJ2_getChar_3b067 cJ2_getChar_3b067 2 (some .char), Cond.fieldLink RJ2 44 "java/lang/StringUTF16" "$assertionsDisabled" "Z", Cond.fieldLink RJ2 59 "java/lang/StringUTF16" "HI_BYTE_SHIFT" "I", Cond.fieldLink RJ2 63 "java/lang/StringUTF16" "LO_BYTE_SHIFT" "I"]
def wsX2_advanceName : List Cond := .code yX2_advanceName cX2_advanceName 1 none :: ((wsX2_advanceName_r1 ++ (wsX2_advanceName_r2 ++ wsX2_advanceName_r3)) ++ wsX20)
def wsX2_isFigure : List Cond := .code yX2_isFigure cX2_isFigure 1 (some .boolean) :: ([])
def wsX2_advanceNumber : List Cond := .code yX2_advanceNumber cX2_advanceNumber 1 none :: ([.fieldLink RX2 59 "BeepNet$Reader" "number" "I", .fieldLink RX2 36 "BeepNet$Reader" "behind" "I", .fieldLink RX2 18 "BeepNet$Reader" "length" "I", .fieldLink RX2 9 "BeepNet$Reader" "tape" "[I", .fieldLink RX2 33 "BeepNet$Reader" "start" "I", .fieldLink RX2 42 "BeepNet$Reader" "token" "I", .methodLink RX2 69 yX2_isFigure, .static yX2_isFigure, .initialized RX2, .code yX2_isFigure cX2_isFigure 1 (some .boolean)] ++ wsX20)
def wsX2_advance_r1 : List Cond := [Cond.fieldLink RX2 36 "BeepNet$Reader" "behind" "I", Cond.fieldLink RX2 33 "BeepNet$Reader" "start" "I", Cond.fieldLink RX2 18 "BeepNet$Reader" "length" "I", Cond.fieldLink RX2 9 "BeepNet$Reader" "tape" "[I", Cond.fieldLink RX2 42 "BeepNet$Reader" "token" "I", Cond.methodLink RX2 62 yX2_isLetter, Cond.static yX2_isLetter, Cond.initialized RX2, Cond.code yX2_isLetter cX2_isLetter 1 (some .boolean), Cond.methodLink RX2 66 yX2_advanceName, Cond.instanceMethod yX2_advanceName, Cond.selects RX2 yX2_advanceName yX2_advanceName, Cond.code yX2_advanceName cX2_advanceName 1 none, Cond.methodLink RX2 77 yX2_isWord, Cond.instanceMethod yX2_isWord, Cond.selects RX2 yX2_isWord yX2_isWord, Cond.code yX2_isWord cX2_isWord 3 (some .boolean), Cond.methodLink RX2 85 yJ0_length_8abf5, Cond.instanceMethod yJ0_length_8abf5, Cond.selects RJ0 yJ0_length_8abf5 yJ0_length_8abf5, Cond.initialized RJ0, Cond.code yJ0_length_8abf5 cJ0_length_8abf5 1 (some .int), Cond.fieldLink RJ0 9 "java/lang/String" "value" "[B", Cond.methodLink RJ0 335 yJ0_coder_7d493]
def wsX2_advance_r2 : List Cond := [Cond.instanceMethod yJ0_coder_7d493, Cond.selects RJ0 yJ0_coder_7d493 yJ0_coder_7d493, Cond.code yJ0_coder_7d493 cJ0_coder_7d493 1 (some .byte), Cond.fieldLink RJ0 38 "java/lang/String" "COMPACT_STRINGS" "Z", Cond.fieldLink RJ0 15 "java/lang/String" "coder" "B", Cond.methodLink RX2 89 yJ0_charAt_5068e, Cond.instanceMethod yJ0_charAt_5068e, Cond.selects RJ0 yJ0_charAt_5068e yJ0_charAt_5068e, Cond.code yJ0_charAt_5068e cJ0_charAt_5068e 2 (some .char), Cond.methodLink RJ0 492 yJ0_isLatin1_aae02, Cond.instanceMethod yJ0_isLatin1_aae02, Cond.selects RJ0 yJ0_isLatin1_aae02 yJ0_isLatin1_aae02, Cond.code yJ0_isLatin1_aae02 cJ0_isLatin1_aae02 1 (some .boolean), Cond.methodLink RJ0 495 yJ1_charAt_3b067, Cond.static yJ1_charAt_3b067, Cond.initialized RJ1, Cond.code yJ1_charAt_3b067 cJ1_charAt_3b067 2 (some .char), Cond.methodLink RJ1 9 yJ0_checkIndex_df160, Cond.static yJ0_checkIndex_df160, Cond.code yJ0_checkIndex_df160 cJ0_checkIndex_df160 2 none, Cond.fieldLink RJ0 1053 "jdk/internal/util/Preconditions" "SIOOBE_FORMATTER" "Ljava/util/function/BiFunction;", Cond.methodLink RJ0 1059 yJ3_checkIndex_8e157, Cond.static yJ3_checkIndex_8e157, Cond.initialized RJ3]
def wsX2_advance_r3 : List Cond := [Cond.code yJ3_checkIndex_8e157 cJ3_checkIndex_8e157 3 (some .int), Cond.methodLink RJ0 498 yJ2_charAt_3b067, Cond.static yJ2_charAt_3b067, Cond.initialized RJ2, Cond.code yJ2_charAt_3b067 cJ2_charAt_3b067 2 (some .char), Cond.methodLink RJ2 67 yJ2_checkIndex_2214a, Cond.static yJ2_checkIndex_2214a, Cond.code yJ2_checkIndex_2214a cJ2_checkIndex_2214a 2 none, Cond.methodLink RJ2 48 yJ2_length_9d52b, Cond.static yJ2_length_9d52b, Cond.code yJ2_length_9d52b cJ2_length_9d52b 1 (some .int), Cond.methodLink RJ2 414 yJ0_checkIndex_df160, Cond.methodLink RJ2 71 yJ2_getChar_3b067, Cond.static yJ2_getChar_3b067, Cond.code yJ2_getChar_3b067 cJ2_getChar_3b067 2 (some .char), Cond.fieldLink RJ2 44 "java/lang/StringUTF16" "$assertionsDisabled" "Z", Cond.fieldLink RJ2 59 "java/lang/StringUTF16" "HI_BYTE_SHIFT" "I", Cond.fieldLink RJ2 63 "java/lang/StringUTF16" "LO_BYTE_SHIFT" "I", Cond.methodLink RX2 69 yX2_isFigure, Cond.static yX2_isFigure, Cond.code yX2_isFigure cX2_isFigure 1 (some .boolean), Cond.methodLink RX2 72 yX2_advanceNumber, Cond.instanceMethod yX2_advanceNumber, Cond.selects RX2 yX2_advanceNumber yX2_advanceNumber]
def wsX2_advance_r4 : List Cond := [Cond.code yX2_advanceNumber cX2_advanceNumber 1 none, Cond.fieldLink RX2 59 "BeepNet$Reader" "number" "I"]
def wsX2_advance : List Cond := .code yX2_advance cX2_advance 1 none :: ((wsX2_advance_r1 ++ (wsX2_advance_r2 ++ (wsX2_advance_r3 ++ wsX2_advance_r4))) ++ wsX20)
def wsX2_faultOfWord : List Cond := .code yX2_faultOfWord cX2_faultOfWord 1 (some .int) :: ([.fieldLink RX2 42 "BeepNet$Reader" "token" "I", .fieldLink RX2 24 "BeepNet$Reader" "roundsRead" "I"] ++ wsX20)
def wsX2_soundsAtWord : List Cond := .code yX2_soundsAtWord cX2_soundsAtWord 2 (some .int) :: ([.fieldLink RX2 24 "BeepNet$Reader" "roundsRead" "I", .fieldLink RX2 15 "BeepNet$Reader" "rounds" "[I"] ++ wsX20)
def wsX2_readNumbers_r1 : List Cond := [Cond.fieldLink RX2 42 "BeepNet$Reader" "token" "I", Cond.fieldLink RX2 59 "BeepNet$Reader" "number" "I", Cond.fieldLink RX2 15 "BeepNet$Reader" "rounds" "[I", Cond.fieldLink RX2 24 "BeepNet$Reader" "roundsRead" "I", Cond.methodLink RX2 39 yX2_advance, Cond.instanceMethod yX2_advance, Cond.selects RX2 yX2_advance yX2_advance, Cond.initialized RX2, Cond.code yX2_advance cX2_advance 1 none, Cond.fieldLink RX2 36 "BeepNet$Reader" "behind" "I", Cond.fieldLink RX2 33 "BeepNet$Reader" "start" "I", Cond.fieldLink RX2 18 "BeepNet$Reader" "length" "I", Cond.fieldLink RX2 9 "BeepNet$Reader" "tape" "[I", Cond.methodLink RX2 62 yX2_isLetter, Cond.static yX2_isLetter, Cond.code yX2_isLetter cX2_isLetter 1 (some .boolean), Cond.methodLink RX2 66 yX2_advanceName, Cond.instanceMethod yX2_advanceName, Cond.selects RX2 yX2_advanceName yX2_advanceName, Cond.code yX2_advanceName cX2_advanceName 1 none, Cond.methodLink RX2 77 yX2_isWord, Cond.instanceMethod yX2_isWord, Cond.selects RX2 yX2_isWord yX2_isWord, Cond.code yX2_isWord cX2_isWord 3 (some .boolean)]
def wsX2_readNumbers_r2 : List Cond := [Cond.methodLink RX2 85 yJ0_length_8abf5, Cond.instanceMethod yJ0_length_8abf5, Cond.selects RJ0 yJ0_length_8abf5 yJ0_length_8abf5, Cond.initialized RJ0, Cond.code yJ0_length_8abf5 cJ0_length_8abf5 1 (some .int), Cond.fieldLink RJ0 9 "java/lang/String" "value" "[B", Cond.methodLink RJ0 335 yJ0_coder_7d493, Cond.instanceMethod yJ0_coder_7d493, Cond.selects RJ0 yJ0_coder_7d493 yJ0_coder_7d493, Cond.code yJ0_coder_7d493 cJ0_coder_7d493 1 (some .byte), Cond.fieldLink RJ0 38 "java/lang/String" "COMPACT_STRINGS" "Z", Cond.fieldLink RJ0 15 "java/lang/String" "coder" "B", Cond.methodLink RX2 89 yJ0_charAt_5068e, Cond.instanceMethod yJ0_charAt_5068e, Cond.selects RJ0 yJ0_charAt_5068e yJ0_charAt_5068e, Cond.code yJ0_charAt_5068e cJ0_charAt_5068e 2 (some .char), Cond.methodLink RJ0 492 yJ0_isLatin1_aae02, Cond.instanceMethod yJ0_isLatin1_aae02, Cond.selects RJ0 yJ0_isLatin1_aae02 yJ0_isLatin1_aae02, Cond.code yJ0_isLatin1_aae02 cJ0_isLatin1_aae02 1 (some .boolean), Cond.methodLink RJ0 495 yJ1_charAt_3b067, Cond.static yJ1_charAt_3b067, Cond.initialized RJ1, Cond.code yJ1_charAt_3b067 cJ1_charAt_3b067 2 (some .char)]
def wsX2_readNumbers_r3 : List Cond := [Cond.methodLink RJ1 9 yJ0_checkIndex_df160, Cond.static yJ0_checkIndex_df160, Cond.code yJ0_checkIndex_df160 cJ0_checkIndex_df160 2 none, Cond.fieldLink RJ0 1053 "jdk/internal/util/Preconditions" "SIOOBE_FORMATTER" "Ljava/util/function/BiFunction;", Cond.methodLink RJ0 1059 yJ3_checkIndex_8e157, Cond.static yJ3_checkIndex_8e157, Cond.initialized RJ3, Cond.code yJ3_checkIndex_8e157 cJ3_checkIndex_8e157 3 (some .int), Cond.methodLink RJ0 498 yJ2_charAt_3b067, Cond.static yJ2_charAt_3b067, Cond.initialized RJ2, Cond.code yJ2_charAt_3b067 cJ2_charAt_3b067 2 (some .char), Cond.methodLink RJ2 67 yJ2_checkIndex_2214a, Cond.static yJ2_checkIndex_2214a, Cond.code yJ2_checkIndex_2214a cJ2_checkIndex_2214a 2 none, Cond.methodLink RJ2 48 yJ2_length_9d52b, Cond.static yJ2_length_9d52b, Cond.code yJ2_length_9d52b cJ2_length_9d52b 1 (some .int), Cond.methodLink RJ2 414 yJ0_checkIndex_df160, Cond.methodLink RJ2 71 yJ2_getChar_3b067, Cond.static yJ2_getChar_3b067, Cond.code yJ2_getChar_3b067 cJ2_getChar_3b067 2 (some .char), Cond.fieldLink RJ2 44 "java/lang/StringUTF16" "$assertionsDisabled" "Z", Cond.fieldLink RJ2 59 "java/lang/StringUTF16" "HI_BYTE_SHIFT" "I"]
def wsX2_readNumbers_r4 : List Cond := [Cond.fieldLink RJ2 63 "java/lang/StringUTF16" "LO_BYTE_SHIFT" "I", Cond.methodLink RX2 69 yX2_isFigure, Cond.static yX2_isFigure, Cond.code yX2_isFigure cX2_isFigure 1 (some .boolean), Cond.methodLink RX2 72 yX2_advanceNumber, Cond.instanceMethod yX2_advanceNumber, Cond.selects RX2 yX2_advanceNumber yX2_advanceNumber, Cond.code yX2_advanceNumber cX2_advanceNumber 1 none]
def wsX2_readNumbers : List Cond := .code yX2_readNumbers cX2_readNumbers 3 (some .int) :: ((wsX2_readNumbers_r1 ++ (wsX2_readNumbers_r2 ++ (wsX2_readNumbers_r3 ++ wsX2_readNumbers_r4))) ++ wsX20)
def wsX2_readRound_r1 : List Cond := [Cond.fieldLink RX2 42 "BeepNet$Reader" "token" "I", Cond.fieldLink RX2 15 "BeepNet$Reader" "rounds" "[I", Cond.fieldLink RX2 24 "BeepNet$Reader" "roundsRead" "I", Cond.methodLink RX2 49 yX2_faultOfWord, Cond.instanceMethod yX2_faultOfWord, Cond.selects RX2 yX2_faultOfWord yX2_faultOfWord, Cond.initialized RX2, Cond.code yX2_faultOfWord cX2_faultOfWord 1 (some .int), Cond.methodLink RX2 53 yX2_soundsAtWord, Cond.instanceMethod yX2_soundsAtWord, Cond.selects RX2 yX2_soundsAtWord yX2_soundsAtWord, Cond.code yX2_soundsAtWord cX2_soundsAtWord 2 (some .int), Cond.methodLink RX2 39 yX2_advance, Cond.instanceMethod yX2_advance, Cond.selects RX2 yX2_advance yX2_advance, Cond.code yX2_advance cX2_advance 1 none, Cond.fieldLink RX2 36 "BeepNet$Reader" "behind" "I", Cond.fieldLink RX2 33 "BeepNet$Reader" "start" "I", Cond.fieldLink RX2 18 "BeepNet$Reader" "length" "I", Cond.fieldLink RX2 9 "BeepNet$Reader" "tape" "[I", Cond.methodLink RX2 62 yX2_isLetter, Cond.static yX2_isLetter, Cond.code yX2_isLetter cX2_isLetter 1 (some .boolean), Cond.methodLink RX2 66 yX2_advanceName]
def wsX2_readRound_r2 : List Cond := [Cond.instanceMethod yX2_advanceName, Cond.selects RX2 yX2_advanceName yX2_advanceName, Cond.code yX2_advanceName cX2_advanceName 1 none, Cond.methodLink RX2 77 yX2_isWord, Cond.instanceMethod yX2_isWord, Cond.selects RX2 yX2_isWord yX2_isWord, Cond.code yX2_isWord cX2_isWord 3 (some .boolean), Cond.methodLink RX2 85 yJ0_length_8abf5, Cond.instanceMethod yJ0_length_8abf5, Cond.selects RJ0 yJ0_length_8abf5 yJ0_length_8abf5, Cond.initialized RJ0, Cond.code yJ0_length_8abf5 cJ0_length_8abf5 1 (some .int), Cond.fieldLink RJ0 9 "java/lang/String" "value" "[B", Cond.methodLink RJ0 335 yJ0_coder_7d493, Cond.instanceMethod yJ0_coder_7d493, Cond.selects RJ0 yJ0_coder_7d493 yJ0_coder_7d493, Cond.code yJ0_coder_7d493 cJ0_coder_7d493 1 (some .byte), Cond.fieldLink RJ0 38 "java/lang/String" "COMPACT_STRINGS" "Z", Cond.fieldLink RJ0 15 "java/lang/String" "coder" "B", Cond.methodLink RX2 89 yJ0_charAt_5068e, Cond.instanceMethod yJ0_charAt_5068e, Cond.selects RJ0 yJ0_charAt_5068e yJ0_charAt_5068e, Cond.code yJ0_charAt_5068e cJ0_charAt_5068e 2 (some .char), Cond.methodLink RJ0 492 yJ0_isLatin1_aae02]
def wsX2_readRound_r3 : List Cond := [Cond.instanceMethod yJ0_isLatin1_aae02, Cond.selects RJ0 yJ0_isLatin1_aae02 yJ0_isLatin1_aae02, Cond.code yJ0_isLatin1_aae02 cJ0_isLatin1_aae02 1 (some .boolean), Cond.methodLink RJ0 495 yJ1_charAt_3b067, Cond.static yJ1_charAt_3b067, Cond.initialized RJ1, Cond.code yJ1_charAt_3b067 cJ1_charAt_3b067 2 (some .char), Cond.methodLink RJ1 9 yJ0_checkIndex_df160, Cond.static yJ0_checkIndex_df160, Cond.code yJ0_checkIndex_df160 cJ0_checkIndex_df160 2 none, Cond.fieldLink RJ0 1053 "jdk/internal/util/Preconditions" "SIOOBE_FORMATTER" "Ljava/util/function/BiFunction;", Cond.methodLink RJ0 1059 yJ3_checkIndex_8e157, Cond.static yJ3_checkIndex_8e157, Cond.initialized RJ3, Cond.code yJ3_checkIndex_8e157 cJ3_checkIndex_8e157 3 (some .int), Cond.methodLink RJ0 498 yJ2_charAt_3b067, Cond.static yJ2_charAt_3b067, Cond.initialized RJ2, Cond.code yJ2_charAt_3b067 cJ2_charAt_3b067 2 (some .char), Cond.methodLink RJ2 67 yJ2_checkIndex_2214a, Cond.static yJ2_checkIndex_2214a, Cond.code yJ2_checkIndex_2214a cJ2_checkIndex_2214a 2 none, Cond.methodLink RJ2 48 yJ2_length_9d52b, Cond.static yJ2_length_9d52b]
def wsX2_readRound_r4 : List Cond := [Cond.code yJ2_length_9d52b cJ2_length_9d52b 1 (some .int), Cond.methodLink RJ2 414 yJ0_checkIndex_df160, Cond.methodLink RJ2 71 yJ2_getChar_3b067, Cond.static yJ2_getChar_3b067, Cond.code yJ2_getChar_3b067 cJ2_getChar_3b067 2 (some .char), Cond.fieldLink RJ2 44 "java/lang/StringUTF16" "$assertionsDisabled" "Z", Cond.fieldLink RJ2 59 "java/lang/StringUTF16" "HI_BYTE_SHIFT" "I", Cond.fieldLink RJ2 63 "java/lang/StringUTF16" "LO_BYTE_SHIFT" "I", Cond.methodLink RX2 69 yX2_isFigure, Cond.static yX2_isFigure, Cond.code yX2_isFigure cX2_isFigure 1 (some .boolean), Cond.methodLink RX2 72 yX2_advanceNumber, Cond.instanceMethod yX2_advanceNumber, Cond.selects RX2 yX2_advanceNumber yX2_advanceNumber, Cond.code yX2_advanceNumber cX2_advanceNumber 1 none, Cond.fieldLink RX2 59 "BeepNet$Reader" "number" "I", Cond.methodLink RX2 56 yX2_readNumbers, Cond.instanceMethod yX2_readNumbers, Cond.selects RX2 yX2_readNumbers yX2_readNumbers, Cond.code yX2_readNumbers cX2_readNumbers 3 (some .int)]
def wsX2_readRound : List Cond := .code yX2_readRound cX2_readRound 4 (some .int) :: ((wsX2_readRound_r1 ++ (wsX2_readRound_r2 ++ (wsX2_readRound_r3 ++ wsX2_readRound_r4))) ++ wsX20)
def wsX2_read_r1 : List Cond := [Cond.fieldLink RX2 24 "BeepNet$Reader" "roundsRead" "I", Cond.fieldLink RX2 36 "BeepNet$Reader" "behind" "I", Cond.fieldLink RX2 42 "BeepNet$Reader" "token" "I", Cond.fieldLink RX2 18 "BeepNet$Reader" "length" "I", Cond.methodLink RX2 39 yX2_advance, Cond.instanceMethod yX2_advance, Cond.selects RX2 yX2_advance yX2_advance, Cond.initialized RX2, Cond.code yX2_advance cX2_advance 1 none, Cond.fieldLink RX2 33 "BeepNet$Reader" "start" "I", Cond.fieldLink RX2 9 "BeepNet$Reader" "tape" "[I", Cond.methodLink RX2 62 yX2_isLetter, Cond.static yX2_isLetter, Cond.code yX2_isLetter cX2_isLetter 1 (some .boolean), Cond.methodLink RX2 66 yX2_advanceName, Cond.instanceMethod yX2_advanceName, Cond.selects RX2 yX2_advanceName yX2_advanceName, Cond.code yX2_advanceName cX2_advanceName 1 none, Cond.methodLink RX2 77 yX2_isWord, Cond.instanceMethod yX2_isWord, Cond.selects RX2 yX2_isWord yX2_isWord, Cond.code yX2_isWord cX2_isWord 3 (some .boolean), Cond.methodLink RX2 85 yJ0_length_8abf5, Cond.instanceMethod yJ0_length_8abf5]
def wsX2_read_r2 : List Cond := [Cond.selects RJ0 yJ0_length_8abf5 yJ0_length_8abf5, Cond.initialized RJ0, Cond.code yJ0_length_8abf5 cJ0_length_8abf5 1 (some .int), Cond.fieldLink RJ0 9 "java/lang/String" "value" "[B", Cond.methodLink RJ0 335 yJ0_coder_7d493, Cond.instanceMethod yJ0_coder_7d493, Cond.selects RJ0 yJ0_coder_7d493 yJ0_coder_7d493, Cond.code yJ0_coder_7d493 cJ0_coder_7d493 1 (some .byte), Cond.fieldLink RJ0 38 "java/lang/String" "COMPACT_STRINGS" "Z", Cond.fieldLink RJ0 15 "java/lang/String" "coder" "B", Cond.methodLink RX2 89 yJ0_charAt_5068e, Cond.instanceMethod yJ0_charAt_5068e, Cond.selects RJ0 yJ0_charAt_5068e yJ0_charAt_5068e, Cond.code yJ0_charAt_5068e cJ0_charAt_5068e 2 (some .char), Cond.methodLink RJ0 492 yJ0_isLatin1_aae02, Cond.instanceMethod yJ0_isLatin1_aae02, Cond.selects RJ0 yJ0_isLatin1_aae02 yJ0_isLatin1_aae02, Cond.code yJ0_isLatin1_aae02 cJ0_isLatin1_aae02 1 (some .boolean), Cond.methodLink RJ0 495 yJ1_charAt_3b067, Cond.static yJ1_charAt_3b067, Cond.initialized RJ1, Cond.code yJ1_charAt_3b067 cJ1_charAt_3b067 2 (some .char), Cond.methodLink RJ1 9 yJ0_checkIndex_df160, Cond.static yJ0_checkIndex_df160]
def wsX2_read_r3 : List Cond := [Cond.code yJ0_checkIndex_df160 cJ0_checkIndex_df160 2 none, Cond.fieldLink RJ0 1053 "jdk/internal/util/Preconditions" "SIOOBE_FORMATTER" "Ljava/util/function/BiFunction;", Cond.methodLink RJ0 1059 yJ3_checkIndex_8e157, Cond.static yJ3_checkIndex_8e157, Cond.initialized RJ3, Cond.code yJ3_checkIndex_8e157 cJ3_checkIndex_8e157 3 (some .int), Cond.methodLink RJ0 498 yJ2_charAt_3b067, Cond.static yJ2_charAt_3b067, Cond.initialized RJ2, Cond.code yJ2_charAt_3b067 cJ2_charAt_3b067 2 (some .char), Cond.methodLink RJ2 67 yJ2_checkIndex_2214a, Cond.static yJ2_checkIndex_2214a, Cond.code yJ2_checkIndex_2214a cJ2_checkIndex_2214a 2 none, Cond.methodLink RJ2 48 yJ2_length_9d52b, Cond.static yJ2_length_9d52b, Cond.code yJ2_length_9d52b cJ2_length_9d52b 1 (some .int), Cond.methodLink RJ2 414 yJ0_checkIndex_df160, Cond.methodLink RJ2 71 yJ2_getChar_3b067, Cond.static yJ2_getChar_3b067, Cond.code yJ2_getChar_3b067 cJ2_getChar_3b067 2 (some .char), Cond.fieldLink RJ2 44 "java/lang/StringUTF16" "$assertionsDisabled" "Z", Cond.fieldLink RJ2 59 "java/lang/StringUTF16" "HI_BYTE_SHIFT" "I", Cond.fieldLink RJ2 63 "java/lang/StringUTF16" "LO_BYTE_SHIFT" "I", Cond.methodLink RX2 69 yX2_isFigure]
def wsX2_read_r4 : List Cond := [Cond.static yX2_isFigure, Cond.code yX2_isFigure cX2_isFigure 1 (some .boolean), Cond.methodLink RX2 72 yX2_advanceNumber, Cond.instanceMethod yX2_advanceNumber, Cond.selects RX2 yX2_advanceNumber yX2_advanceNumber, Cond.code yX2_advanceNumber cX2_advanceNumber 1 none, Cond.fieldLink RX2 59 "BeepNet$Reader" "number" "I", Cond.methodLink RX2 45 yX2_readRound, Cond.instanceMethod yX2_readRound, Cond.selects RX2 yX2_readRound yX2_readRound, Cond.code yX2_readRound cX2_readRound 4 (some .int), Cond.fieldLink RX2 15 "BeepNet$Reader" "rounds" "[I", Cond.methodLink RX2 49 yX2_faultOfWord, Cond.instanceMethod yX2_faultOfWord, Cond.selects RX2 yX2_faultOfWord yX2_faultOfWord, Cond.code yX2_faultOfWord cX2_faultOfWord 1 (some .int), Cond.methodLink RX2 53 yX2_soundsAtWord, Cond.instanceMethod yX2_soundsAtWord, Cond.selects RX2 yX2_soundsAtWord yX2_soundsAtWord, Cond.code yX2_soundsAtWord cX2_soundsAtWord 2 (some .int), Cond.methodLink RX2 56 yX2_readNumbers, Cond.instanceMethod yX2_readNumbers, Cond.selects RX2 yX2_readNumbers yX2_readNumbers, Cond.code yX2_readNumbers cX2_readNumbers 3 (some .int)]
def wsX2_read : List Cond := .code yX2_read cX2_read 4 (some .int) :: ((wsX2_read_r1 ++ (wsX2_read_r2 ++ (wsX2_read_r3 ++ wsX2_read_r4))) ++ wsX20)
def wsX3_init : List Cond := .code yX3_init cX3_init 1 none :: ([.methodLink RX3 3 objectInit, .instanceMethod objectInit, .code objectInit ⟨#[0xb1]⟩ 1 none, .arrayClass .int, .fieldLink RX3 9 "BeepNet$Search" "heard" "[I", .fieldLink RX3 15 "BeepNet$Search" "fewest" "[I", .fieldLink RX3 18 "BeepNet$Search" "spent" "[I", .arrayClass .long, .fieldLink RX3 21 "BeepNet$Search" "cases" "[J"] ++ wsX30)
def wsX3_listen : List Cond := .code yX3_listen cX3_listen 4 none :: ([.fieldLink RX3 9 "BeepNet$Search" "heard" "[I", .methodLink RX3 25 yX1_allPosts, .instanceMethod yX1_allPosts, .selects RX1 yX1_allPosts yX1_allPosts, .initialized RX1, .code yX1_allPosts cX1_allPosts 1 (some .int), .fieldLink RX1 15 "BeepNet$Net" "posts" "I", .methodLink RX3 31 yX1_heardBy, .instanceMethod yX1_heardBy, .selects RX1 yX1_heardBy yX1_heardBy, .code yX1_heardBy cX1_heardBy 6 (some .int), .fieldLink RX1 9 "BeepNet$Net" "neighbours" "[I"] ++ wsX30 ++ wsX10)
def wsX3_fewestBehindOneRound : List Cond := .code yX3_fewestBehindOneRound cX3_fewestBehindOneRound 5 (some .int) :: ([.fieldLink RX3 9 "BeepNet$Search" "heard" "[I", .fieldLink RX3 15 "BeepNet$Search" "fewest" "[I", .methodLink RX3 39 Lib.Math.min.name, .static Lib.Math.min.name, .initialized "java/lang/Math", .code Lib.Math.min.name Lib.Math.min.code 2 (some .int)] ++ wsX30)
def wsX3_findFewest : List Cond := .code yX3_findFewest cX3_findFewest 4 none :: ([.fieldLink RX3 15 "BeepNet$Search" "fewest" "[I", .methodLink RX3 35 yX3_fewestBehindOneRound, .instanceMethod yX3_fewestBehindOneRound, .selects RX3 yX3_fewestBehindOneRound yX3_fewestBehindOneRound, .initialized RX3, .code yX3_fewestBehindOneRound cX3_fewestBehindOneRound 5 (some .int), .fieldLink RX3 9 "BeepNet$Search" "heard" "[I", .methodLink RX3 39 Lib.Math.min.name, .static Lib.Math.min.name, .initialized "java/lang/Math", .code Lib.Math.min.name Lib.Math.min.code 2 (some .int)] ++ wsX30)
def wsX3_fewestFrom : List Cond := .code yX3_fewestFrom cX3_fewestFrom 2 (some .int) :: ([.fieldLink RX3 15 "BeepNet$Search" "fewest" "[I"] ++ wsX30)
def wsX3_firstSet : List Cond := .code yX3_firstSet cX3_firstSet 3 (some .int) :: ([.fieldLink RX3 15 "BeepNet$Search" "fewest" "[I", .fieldLink RX3 9 "BeepNet$Search" "heard" "[I"] ++ wsX30)
def wsJ7_fill_53178 : List Cond := .code yJ7_fill_53178 cJ7_fill_53178 4 none :: ([])
def wsX5_soundsIn : List Cond := .code yX5_soundsIn cX5_soundsIn 3 (some .int) :: ([.fieldLink RX5 9 "BeepNet$Timetable" "rounds" "[I"] ++ wsX50)
def wsX5_soundsOverAndOver : List Cond := .code yX5_soundsOverAndOver cX5_soundsOverAndOver 3 (some .int) :: ([.fieldLink RX5 15 "BeepNet$Timetable" "size" "I", .methodLink RX5 25 yX5_soundsIn, .instanceMethod yX5_soundsIn, .selects RX5 yX5_soundsIn yX5_soundsIn, .initialized RX5, .code yX5_soundsIn cX5_soundsIn 3 (some .int), .fieldLink RX5 9 "BeepNet$Timetable" "rounds" "[I"] ++ wsX50)
def wsX3_leavesSomeUntold : List Cond := .code yX3_leavesSomeUntold cX3_leavesSomeUntold 9 (some .boolean) :: ([.fieldLink RX3 18 "BeepNet$Search" "spent" "[I", .fieldLink RX3 9 "BeepNet$Search" "heard" "[I", .methodLink RX3 39 Lib.Math.min.name, .static Lib.Math.min.name, .initialized "java/lang/Math", .code Lib.Math.min.name Lib.Math.min.code 2 (some .int)] ++ wsX30)
def wsX3_worstRounds_r1 : List Cond := [Cond.fieldLink RX3 18 "BeepNet$Search" "spent" "[I", Cond.constant RX3 62 (-1000000), Cond.methodLink RX3 44 yX1_reachOf, Cond.instanceMethod yX1_reachOf, Cond.selects RX1 yX1_reachOf yX1_reachOf, Cond.initialized RX1, Cond.code yX1_reachOf cX1_reachOf 4 (some .int), Cond.fieldLink RX1 15 "BeepNet$Net" "posts" "I", Cond.methodLink RX1 32 yX1_oneStepFrom, Cond.instanceMethod yX1_oneStepFrom, Cond.selects RX1 yX1_oneStepFrom yX1_oneStepFrom, Cond.code yX1_oneStepFrom cX1_oneStepFrom 4 (some .int), Cond.fieldLink RX1 9 "BeepNet$Net" "neighbours" "[I", Cond.methodLink RX3 47 yJ7_fill_53178, Cond.static yJ7_fill_53178, Cond.initialized RJ7, Cond.code yJ7_fill_53178 cJ7_fill_53178 4 none, Cond.methodLink RX3 25 yX1_allPosts, Cond.instanceMethod yX1_allPosts, Cond.selects RX1 yX1_allPosts yX1_allPosts, Cond.code yX1_allPosts cX1_allPosts 1 (some .int), Cond.methodLink RX3 53 yX5_soundsOverAndOver, Cond.instanceMethod yX5_soundsOverAndOver, Cond.selects RX5 yX5_soundsOverAndOver yX5_soundsOverAndOver]
def wsX3_worstRounds_r2 : List Cond := [Cond.initialized RX5, Cond.code yX5_soundsOverAndOver cX5_soundsOverAndOver 3 (some .int), Cond.fieldLink RX5 15 "BeepNet$Timetable" "size" "I", Cond.methodLink RX5 25 yX5_soundsIn, Cond.instanceMethod yX5_soundsIn, Cond.selects RX5 yX5_soundsIn yX5_soundsIn, Cond.code yX5_soundsIn cX5_soundsIn 3 (some .int), Cond.fieldLink RX5 9 "BeepNet$Timetable" "rounds" "[I", Cond.methodLink RX3 58 yX3_leavesSomeUntold, Cond.instanceMethod yX3_leavesSomeUntold, Cond.selects RX3 yX3_leavesSomeUntold yX3_leavesSomeUntold, Cond.initialized RX3, Cond.code yX3_leavesSomeUntold cX3_leavesSomeUntold 9 (some .boolean), Cond.fieldLink RX3 9 "BeepNet$Search" "heard" "[I", Cond.methodLink RX3 39 Lib.Math.min.name, Cond.static Lib.Math.min.name, Cond.initialized "java/lang/Math", Cond.code Lib.Math.min.name Lib.Math.min.code 2 (some .int)]
def wsX3_worstRounds : List Cond := .code yX3_worstRounds cX3_worstRounds 9 (some .int) :: ((wsX3_worstRounds_r1 ++ wsX3_worstRounds_r2) ++ wsX30 ++ wsX10 ++ wsX50)
def wsJ7_fill_d0a16 : List Cond := .code yJ7_fill_d0a16 cJ7_fill_d0a16 5 none :: ([])
def wsX3_drawFrom : List Cond := .code yX3_drawFrom cX3_drawFrom 6 none :: ([.fieldLink RX3 21 "BeepNet$Search" "cases" "[J", .fieldLink RX3 9 "BeepNet$Search" "heard" "[I", .methodLink RX3 77 yJ6_bitCount_0f7a4, .static yJ6_bitCount_0f7a4, .initialized RJ6, .code yJ6_bitCount_0f7a4 cJ6_bitCount_0f7a4 1 (some .int), .constant RJ6 265 (1431655765), .constant RJ6 266 (858993459), .constant RJ6 267 (252645135)] ++ wsX30)
def wsX3_drawOneRound : List Cond := .code yX3_drawOneRound cX3_drawOneRound 5 none :: ([.fieldLink RX3 21 "BeepNet$Search" "cases" "[J", .methodLink RX3 73 yX3_drawFrom, .instanceMethod yX3_drawFrom, .selects RX3 yX3_drawFrom yX3_drawFrom, .initialized RX3, .code yX3_drawFrom cX3_drawFrom 6 none, .fieldLink RX3 9 "BeepNet$Search" "heard" "[I", .methodLink RX3 77 yJ6_bitCount_0f7a4, .static yJ6_bitCount_0f7a4, .initialized RJ6, .code yJ6_bitCount_0f7a4 cJ6_bitCount_0f7a4 1 (some .int), .constant RJ6 265 (1431655765), .constant RJ6 266 (858993459), .constant RJ6 267 (252645135)] ++ wsX30)
def wsX3_casesThatReachAll_r1 : List Cond := [Cond.fieldLink RX3 21 "BeepNet$Search" "cases" "[J", Cond.methodLink RX3 44 yX1_reachOf, Cond.instanceMethod yX1_reachOf, Cond.selects RX1 yX1_reachOf yX1_reachOf, Cond.initialized RX1, Cond.code yX1_reachOf cX1_reachOf 4 (some .int), Cond.fieldLink RX1 15 "BeepNet$Net" "posts" "I", Cond.methodLink RX1 32 yX1_oneStepFrom, Cond.instanceMethod yX1_oneStepFrom, Cond.selects RX1 yX1_oneStepFrom yX1_oneStepFrom, Cond.code yX1_oneStepFrom cX1_oneStepFrom 4 (some .int), Cond.fieldLink RX1 9 "BeepNet$Net" "neighbours" "[I", Cond.methodLink RX3 63 yJ7_fill_d0a16, Cond.static yJ7_fill_d0a16, Cond.initialized RJ7, Cond.code yJ7_fill_d0a16 cJ7_fill_d0a16 5 none, Cond.methodLink RX3 66 yX1_size, Cond.instanceMethod yX1_size, Cond.selects RX1 yX1_size yX1_size, Cond.code yX1_size cX1_size 1 (some .int), Cond.methodLink RX3 69 yX3_drawOneRound, Cond.instanceMethod yX3_drawOneRound, Cond.selects RX3 yX3_drawOneRound yX3_drawOneRound, Cond.initialized RX3]
def wsX3_casesThatReachAll_r2 : List Cond := [Cond.code yX3_drawOneRound cX3_drawOneRound 5 none, Cond.methodLink RX3 73 yX3_drawFrom, Cond.instanceMethod yX3_drawFrom, Cond.selects RX3 yX3_drawFrom yX3_drawFrom, Cond.code yX3_drawFrom cX3_drawFrom 6 none, Cond.fieldLink RX3 9 "BeepNet$Search" "heard" "[I", Cond.methodLink RX3 77 yJ6_bitCount_0f7a4, Cond.static yJ6_bitCount_0f7a4, Cond.initialized RJ6, Cond.code yJ6_bitCount_0f7a4 cJ6_bitCount_0f7a4 1 (some .int), Cond.constant RJ6 265 (1431655765), Cond.constant RJ6 266 (858993459), Cond.constant RJ6 267 (252645135)]
def wsX3_casesThatReachAll : List Cond := .code yX3_casesThatReachAll cX3_casesThatReachAll 7 (some .long) :: ((wsX3_casesThatReachAll_r1 ++ wsX3_casesThatReachAll_r2) ++ wsX30 ++ wsX10)
def wsX4_init : List Cond := .code yX4_init cX4_init 1 none :: ([.methodLink RX4 3 objectInit, .instanceMethod objectInit, .code objectInit ⟨#[0xb1]⟩ 1 none, .arrayClass .int, .fieldLink RX4 9 "BeepNet$Sheets" "lanes" "[I", .fieldLink RX4 15 "BeepNet$Sheets" "sizes" "[I", .classLink RX4 18 "[[I", .fieldLink RX4 20 "BeepNet$Sheets" "items" "[[I", .methodLink RX4 23 yJ7_fill_53178, .static yJ7_fill_53178, .initialized RJ7, .code yJ7_fill_53178 cJ7_fill_53178 4 none] ++ wsX40)
def wsX4_isMissing : List Cond := .code yX4_isMissing cX4_isMissing 2 (some .boolean) :: ([.fieldLink RX4 9 "BeepNet$Sheets" "lanes" "[I"] ++ wsX40)
def wsX4_size : List Cond := .code yX4_size cX4_size 3 (some .int) :: ([.methodLink RX4 29 yX4_isMissing, .instanceMethod yX4_isMissing, .selects RX4 yX4_isMissing yX4_isMissing, .initialized RX4, .code yX4_isMissing cX4_isMissing 2 (some .boolean), .fieldLink RX4 9 "BeepNet$Sheets" "lanes" "[I"] ++ wsX40)
def wsX4_begin : List Cond := .code yX4_begin cX4_begin 4 none :: ([.fieldLink RX4 9 "BeepNet$Sheets" "lanes" "[I", .fieldLink RX4 15 "BeepNet$Sheets" "sizes" "[I", .fieldLink RX4 20 "BeepNet$Sheets" "items" "[[I", .methodLink RX4 23 yJ7_fill_53178, .static yJ7_fill_53178, .initialized RJ7, .code yJ7_fill_53178 cJ7_fill_53178 4 none] ++ wsX40)
def wsX4_remove : List Cond := .code yX4_remove cX4_remove 2 (some .int) :: ([.fieldLink RX4 9 "BeepNet$Sheets" "lanes" "[I", .fieldLink RX4 15 "BeepNet$Sheets" "sizes" "[I"] ++ wsX40)
def wsX4_hasPlaces : List Cond := .code yX4_hasPlaces cX4_hasPlaces 4 (some .boolean) :: ([.fieldLink RX4 15 "BeepNet$Sheets" "sizes" "[I"] ++ wsX40)
def wsX4_findPlaces : List Cond := .code yX4_findPlaces cX4_findPlaces 4 (some .int) :: ([.methodLink RX4 29 yX4_isMissing, .instanceMethod yX4_isMissing, .selects RX4 yX4_isMissing yX4_isMissing, .initialized RX4, .code yX4_isMissing cX4_isMissing 2 (some .boolean), .fieldLink RX4 9 "BeepNet$Sheets" "lanes" "[I", .methodLink RX4 33 yX4_hasPlaces, .instanceMethod yX4_hasPlaces, .selects RX4 yX4_hasPlaces yX4_hasPlaces, .code yX4_hasPlaces cX4_hasPlaces 4 (some .boolean), .fieldLink RX4 15 "BeepNet$Sheets" "sizes" "[I"] ++ wsX40)
def wsX4_findMove : List Cond := .code yX4_findMove cX4_findMove 6 (some .int) :: ([.fieldLink RX4 9 "BeepNet$Sheets" "lanes" "[I", .methodLink RX4 29 yX4_isMissing, .instanceMethod yX4_isMissing, .selects RX4 yX4_isMissing yX4_isMissing, .initialized RX4, .code yX4_isMissing cX4_isMissing 2 (some .boolean), .methodLink RX4 33 yX4_hasPlaces, .instanceMethod yX4_hasPlaces, .selects RX4 yX4_hasPlaces yX4_hasPlaces, .code yX4_hasPlaces cX4_hasPlaces 4 (some .boolean), .fieldLink RX4 15 "BeepNet$Sheets" "sizes" "[I"] ++ wsX40)
def wsX4_narrowed : List Cond := .code yX4_narrowed cX4_narrowed 2 (some .int) :: ([])
def wsX4_put : List Cond := .code yX4_put cX4_put 4 (some .int) :: ([.fieldLink RX4 20 "BeepNet$Sheets" "items" "[[I", .fieldLink RX4 9 "BeepNet$Sheets" "lanes" "[I", .methodLink RX4 37 yX4_narrowed, .static yX4_narrowed, .initialized RX4, .code yX4_narrowed cX4_narrowed 2 (some .int)] ++ wsX40)
def wsX4_move : List Cond := .code yX4_move cX4_move 6 none :: ([.fieldLink RX4 20 "BeepNet$Sheets" "items" "[[I", .methodLink RX4 41 arraycopyName, .native arraycopyName, .static arraycopyName, .initialized "java/lang/System"] ++ wsX40)
def wsX4_picksOne : List Cond := .code yX4_picksOne cX4_picksOne 6 (some .boolean) :: ([.fieldLink RX4 20 "BeepNet$Sheets" "items" "[[I", .methodLink RX4 47 yJ6_bitCount_0f7a4, .static yJ6_bitCount_0f7a4, .initialized RJ6, .code yJ6_bitCount_0f7a4 cJ6_bitCount_0f7a4 1 (some .int), .constant RJ6 265 (1431655765), .constant RJ6 266 (858993459), .constant RJ6 267 (252645135)] ++ wsX40)
def wsX5_init : List Cond := .code yX5_init cX5_init 1 none :: ([.methodLink RX5 3 objectInit, .instanceMethod objectInit, .code objectInit ⟨#[0xb1]⟩ 1 none, .arrayClass .int, .fieldLink RX5 9 "BeepNet$Timetable" "rounds" "[I"] ++ wsX50)
def wsX5_size : List Cond := .code yX5_size cX5_size 1 (some .int) :: ([.fieldLink RX5 15 "BeepNet$Timetable" "size" "I"] ++ wsX50)
def wsX5_become : List Cond := .code yX5_become cX5_become 2 none :: ([.fieldLink RX5 9 "BeepNet$Timetable" "rounds" "[I", .fieldLink RX5 15 "BeepNet$Timetable" "size" "I", .methodLink RX5 19 yX2_giveRounds, .instanceMethod yX2_giveRounds, .selects RX2 yX2_giveRounds yX2_giveRounds, .initialized RX2, .code yX2_giveRounds cX2_giveRounds 2 (some .int), .fieldLink RX2 15 "BeepNet$Reader" "rounds" "[I", .fieldLink RX2 24 "BeepNet$Reader" "roundsRead" "I", .methodLink RX2 27 arraycopyName, .native arraycopyName, .static arraycopyName, .initialized "java/lang/System"] ++ wsX50 ++ wsX20)
def wsX5_hasRound : List Cond := .code yX5_hasRound cX5_hasRound 2 (some .boolean) :: ([.fieldLink RX5 15 "BeepNet$Timetable" "size" "I"] ++ wsX50)
def wsX6_init_r1 : List Cond := [Cond.methodLink RX6 1 objectInit, Cond.instanceMethod objectInit, Cond.code objectInit ⟨#[0xb1]⟩ 1 none, Cond.classLink RX6 7 RX4, Cond.instantiable RX4 3, Cond.initialized RX4, Cond.fieldLink RX6 10 "BeepNet" "sheets" "LBeepNet$Sheets;", Cond.classLink RX6 16 RX1, Cond.instantiable RX1 2, Cond.initialized RX1, Cond.fieldLink RX6 19 "BeepNet" "net" "LBeepNet$Net;", Cond.classLink RX6 23 RX2, Cond.instantiable RX2 8, Cond.initialized RX2, Cond.fieldLink RX6 26 "BeepNet" "reader" "LBeepNet$Reader;", Cond.classLink RX6 30 RX5, Cond.instantiable RX5 2, Cond.initialized RX5, Cond.fieldLink RX6 33 "BeepNet" "timetable" "LBeepNet$Timetable;", Cond.classLink RX6 37 RX3, Cond.instantiable RX3 4, Cond.initialized RX3, Cond.fieldLink RX6 40 "BeepNet" "search" "LBeepNet$Search;", Cond.classLink RX6 44 RX0]
def wsX6_init_r2 : List Cond := [Cond.instantiable RX0 3, Cond.initialized RX0, Cond.fieldLink RX6 49 "BeepNet" "asks" "LBeepNet$Asks;", Cond.methodLink RX6 9 yX4_init, Cond.instanceMethod yX4_init, Cond.code yX4_init cX4_init 1 none, Cond.methodLink RX4 3 objectInit, Cond.arrayClass .int, Cond.fieldLink RX4 9 "BeepNet$Sheets" "lanes" "[I", Cond.fieldLink RX4 15 "BeepNet$Sheets" "sizes" "[I", Cond.classLink RX4 18 "[[I", Cond.fieldLink RX4 20 "BeepNet$Sheets" "items" "[[I", Cond.methodLink RX4 23 yJ7_fill_53178, Cond.static yJ7_fill_53178, Cond.initialized RJ7, Cond.code yJ7_fill_53178 cJ7_fill_53178 4 none, Cond.instanceMethod yX1_init, Cond.code yX1_init cX1_init 1 none, Cond.methodLink RX1 3 objectInit, Cond.fieldLink RX1 9 "BeepNet$Net" "neighbours" "[I", Cond.instanceMethod yX2_init, Cond.code yX2_init cX2_init 1 none, Cond.methodLink RX2 3 objectInit, Cond.fieldLink RX2 9 "BeepNet$Reader" "tape" "[I"]
def wsX6_init_r3 : List Cond := [Cond.fieldLink RX2 15 "BeepNet$Reader" "rounds" "[I", Cond.instanceMethod yX5_init, Cond.code yX5_init cX5_init 1 none, Cond.methodLink RX5 3 objectInit, Cond.fieldLink RX5 9 "BeepNet$Timetable" "rounds" "[I", Cond.instanceMethod yX3_init, Cond.code yX3_init cX3_init 1 none, Cond.methodLink RX3 3 objectInit, Cond.fieldLink RX3 9 "BeepNet$Search" "heard" "[I", Cond.fieldLink RX3 15 "BeepNet$Search" "fewest" "[I", Cond.fieldLink RX3 18 "BeepNet$Search" "spent" "[I", Cond.arrayClass .long, Cond.fieldLink RX3 21 "BeepNet$Search" "cases" "[J", Cond.methodLink RX6 46 yX0_init, Cond.instanceMethod yX0_init, Cond.code yX0_init cX0_init 2 none, Cond.methodLink RX0 3 objectInit, Cond.fieldLink RX0 9 "BeepNet$Asks" "begun" "[I", Cond.fieldLink RX0 15 "BeepNet$Asks" "net" "LBeepNet$Net;"]
def wsX6_init : List Cond := .code yX6_init cX6_init 1 none :: ((wsX6_init_r1 ++ (wsX6_init_r2 ++ wsX6_init_r3)) ++ wsX40 ++ wsX60 ++ wsX10 ++ wsX20 ++ wsX50 ++ wsX30 ++ wsX00)
def wsX6_isSheet : List Cond := .code yX6_isSheet cX6_isSheet 1 (some .boolean) :: ([])
def wsX6_sheet : List Cond := .code yX6_sheet cX6_sheet 4 (some .int) :: ([.constant RX6 57 (-1000001), .fieldLink RX6 58 "BeepNet" "latestFinding" "I", .constant RX6 62 (-1000010), .fieldLink RX6 10 "BeepNet" "sheets" "LBeepNet$Sheets;", .methodLink RX6 53 yX6_isSheet, .static yX6_isSheet, .initialized RX6, .code yX6_isSheet cX6_isSheet 1 (some .boolean), .methodLink RX6 63 yX4_begin, .instanceMethod yX4_begin, .selects RX4 yX4_begin yX4_begin, .initialized RX4, .code yX4_begin cX4_begin 4 none, .fieldLink RX4 9 "BeepNet$Sheets" "lanes" "[I", .fieldLink RX4 15 "BeepNet$Sheets" "sizes" "[I", .fieldLink RX4 20 "BeepNet$Sheets" "items" "[[I", .methodLink RX4 23 yJ7_fill_53178, .static yJ7_fill_53178, .initialized RJ7, .code yJ7_fill_53178 cJ7_fill_53178 4 none] ++ wsX60 ++ wsX40)
def wsX6_set_r1 : List Cond := [Cond.constant RX6 57 (-1000001), Cond.fieldLink RX6 10 "BeepNet" "sheets" "LBeepNet$Sheets;", Cond.fieldLink RX6 58 "BeepNet" "latestFinding" "I", Cond.constant RX6 62 (-1000010), Cond.methodLink RX6 53 yX6_isSheet, Cond.static yX6_isSheet, Cond.initialized RX6, Cond.code yX6_isSheet cX6_isSheet 1 (some .boolean), Cond.methodLink RX6 67 yX4_findPlaces, Cond.instanceMethod yX4_findPlaces, Cond.selects RX4 yX4_findPlaces yX4_findPlaces, Cond.initialized RX4, Cond.code yX4_findPlaces cX4_findPlaces 4 (some .int), Cond.methodLink RX4 29 yX4_isMissing, Cond.instanceMethod yX4_isMissing, Cond.selects RX4 yX4_isMissing yX4_isMissing, Cond.code yX4_isMissing cX4_isMissing 2 (some .boolean), Cond.fieldLink RX4 9 "BeepNet$Sheets" "lanes" "[I", Cond.methodLink RX4 33 yX4_hasPlaces, Cond.instanceMethod yX4_hasPlaces, Cond.selects RX4 yX4_hasPlaces yX4_hasPlaces, Cond.code yX4_hasPlaces cX4_hasPlaces 4 (some .boolean), Cond.fieldLink RX4 15 "BeepNet$Sheets" "sizes" "[I", Cond.methodLink RX6 71 yX4_put]
def wsX6_set_r2 : List Cond := [Cond.instanceMethod yX4_put, Cond.selects RX4 yX4_put yX4_put, Cond.code yX4_put cX4_put 4 (some .int), Cond.fieldLink RX4 20 "BeepNet$Sheets" "items" "[[I", Cond.methodLink RX4 37 yX4_narrowed, Cond.static yX4_narrowed, Cond.code yX4_narrowed cX4_narrowed 2 (some .int)]
def wsX6_set : List Cond := .code yX6_set cX6_set 4 (some .int) :: ((wsX6_set_r1 ++ wsX6_set_r2) ++ wsX60 ++ wsX40)
def wsX6_copy_r1 : List Cond := [Cond.constant RX6 57 (-1000001), Cond.fieldLink RX6 10 "BeepNet" "sheets" "LBeepNet$Sheets;", Cond.fieldLink RX6 58 "BeepNet" "latestFinding" "I", Cond.constant RX6 62 (-1000010), Cond.methodLink RX6 53 yX6_isSheet, Cond.static yX6_isSheet, Cond.initialized RX6, Cond.code yX6_isSheet cX6_isSheet 1 (some .boolean), Cond.methodLink RX6 74 yX4_findMove, Cond.instanceMethod yX4_findMove, Cond.selects RX4 yX4_findMove yX4_findMove, Cond.initialized RX4, Cond.code yX4_findMove cX4_findMove 6 (some .int), Cond.fieldLink RX4 9 "BeepNet$Sheets" "lanes" "[I", Cond.methodLink RX4 29 yX4_isMissing, Cond.instanceMethod yX4_isMissing, Cond.selects RX4 yX4_isMissing yX4_isMissing, Cond.code yX4_isMissing cX4_isMissing 2 (some .boolean), Cond.methodLink RX4 33 yX4_hasPlaces, Cond.instanceMethod yX4_hasPlaces, Cond.selects RX4 yX4_hasPlaces yX4_hasPlaces, Cond.code yX4_hasPlaces cX4_hasPlaces 4 (some .boolean), Cond.fieldLink RX4 15 "BeepNet$Sheets" "sizes" "[I", Cond.methodLink RX6 78 yX4_move]
def wsX6_copy_r2 : List Cond := [Cond.instanceMethod yX4_move, Cond.selects RX4 yX4_move yX4_move, Cond.code yX4_move cX4_move 6 none, Cond.fieldLink RX4 20 "BeepNet$Sheets" "items" "[[I", Cond.methodLink RX4 41 arraycopyName, Cond.native arraycopyName, Cond.static arraycopyName, Cond.initialized "java/lang/System"]
def wsX6_copy : List Cond := .code yX6_copy cX6_copy 6 (some .int) :: ((wsX6_copy_r1 ++ wsX6_copy_r2) ++ wsX60 ++ wsX40)
def wsX6_drop : List Cond := .code yX6_drop cX6_drop 2 (some .int) :: ([.constant RX6 57 (-1000001), .fieldLink RX6 10 "BeepNet" "sheets" "LBeepNet$Sheets;", .fieldLink RX6 58 "BeepNet" "latestFinding" "I", .constant RX6 62 (-1000010), .methodLink RX6 53 yX6_isSheet, .static yX6_isSheet, .initialized RX6, .code yX6_isSheet cX6_isSheet 1 (some .boolean), .methodLink RX6 82 yX4_isMissing, .instanceMethod yX4_isMissing, .selects RX4 yX4_isMissing yX4_isMissing, .initialized RX4, .code yX4_isMissing cX4_isMissing 2 (some .boolean), .fieldLink RX4 9 "BeepNet$Sheets" "lanes" "[I", .methodLink RX6 85 yX4_remove, .instanceMethod yX4_remove, .selects RX4 yX4_remove yX4_remove, .code yX4_remove cX4_remove 2 (some .int), .fieldLink RX4 15 "BeepNet$Sheets" "sizes" "[I"] ++ wsX60 ++ wsX40)
def wsX6_post : List Cond := .code yX6_post cX6_post 1 (some .int) :: ([.fieldLink RX6 19 "BeepNet" "net" "LBeepNet$Net;", .constant RX6 93 (-1000003), .methodLink RX6 89 yX1_isFull, .instanceMethod yX1_isFull, .selects RX1 yX1_isFull yX1_isFull, .initialized RX1, .code yX1_isFull cX1_isFull 1 (some .boolean), .fieldLink RX1 15 "BeepNet$Net" "posts" "I", .methodLink RX6 94 yX1_add, .instanceMethod yX1_add, .selects RX1 yX1_add yX1_add, .code yX1_add cX1_add 1 (some .int)] ++ wsX60 ++ wsX10)
def wsX6_isPair : List Cond := .code yX6_isPair cX6_isPair 3 (some .boolean) :: ([.fieldLink RX6 19 "BeepNet" "net" "LBeepNet$Net;", .methodLink RX6 109 yX1_hasPost, .instanceMethod yX1_hasPost, .selects RX1 yX1_hasPost yX1_hasPost, .initialized RX1, .code yX1_hasPost cX1_hasPost 2 (some .boolean), .fieldLink RX1 15 "BeepNet$Net" "posts" "I"] ++ wsX60 ++ wsX10)
def wsX6_join : List Cond := .code yX6_join cX6_join 3 (some .int) :: ([.constant RX6 57 (-1000001), .fieldLink RX6 19 "BeepNet" "net" "LBeepNet$Net;", .methodLink RX6 98 yX6_isPair, .instanceMethod yX6_isPair, .selects RX6 yX6_isPair yX6_isPair, .initialized RX6, .code yX6_isPair cX6_isPair 3 (some .boolean), .methodLink RX6 109 yX1_hasPost, .instanceMethod yX1_hasPost, .selects RX1 yX1_hasPost yX1_hasPost, .initialized RX1, .code yX1_hasPost cX1_hasPost 2 (some .boolean), .fieldLink RX1 15 "BeepNet$Net" "posts" "I", .methodLink RX6 102 yX1_isLinked, .instanceMethod yX1_isLinked, .selects RX1 yX1_isLinked yX1_isLinked, .code yX1_isLinked cX1_isLinked 3 (some .boolean), .fieldLink RX1 9 "BeepNet$Net" "neighbours" "[I", .methodLink RX6 105 yX1_toggle, .instanceMethod yX1_toggle, .selects RX1 yX1_toggle yX1_toggle, .code yX1_toggle cX1_toggle 3 (some .int)] ++ wsX60 ++ wsX10)
def wsX6_part : List Cond := .code yX6_part cX6_part 3 (some .int) :: ([.constant RX6 57 (-1000001), .fieldLink RX6 19 "BeepNet" "net" "LBeepNet$Net;", .methodLink RX6 98 yX6_isPair, .instanceMethod yX6_isPair, .selects RX6 yX6_isPair yX6_isPair, .initialized RX6, .code yX6_isPair cX6_isPair 3 (some .boolean), .methodLink RX6 109 yX1_hasPost, .instanceMethod yX1_hasPost, .selects RX1 yX1_hasPost yX1_hasPost, .initialized RX1, .code yX1_hasPost cX1_hasPost 2 (some .boolean), .fieldLink RX1 15 "BeepNet$Net" "posts" "I", .methodLink RX6 102 yX1_isLinked, .instanceMethod yX1_isLinked, .selects RX1 yX1_isLinked yX1_isLinked, .code yX1_isLinked cX1_isLinked 3 (some .boolean), .fieldLink RX1 9 "BeepNet$Net" "neighbours" "[I", .methodLink RX6 105 yX1_toggle, .instanceMethod yX1_toggle, .selects RX1 yX1_toggle yX1_toggle, .code yX1_toggle cX1_toggle 3 (some .int)] ++ wsX60 ++ wsX10)
def wsX6_far : List Cond := .code yX6_far cX6_far 3 (some .int) :: ([.fieldLink RX6 19 "BeepNet" "net" "LBeepNet$Net;", .constant RX6 57 (-1000001), .methodLink RX6 109 yX1_hasPost, .instanceMethod yX1_hasPost, .selects RX1 yX1_hasPost yX1_hasPost, .initialized RX1, .code yX1_hasPost cX1_hasPost 2 (some .boolean), .fieldLink RX1 15 "BeepNet$Net" "posts" "I", .methodLink RX6 112 yX1_stepsBetween, .instanceMethod yX1_stepsBetween, .selects RX1 yX1_stepsBetween yX1_stepsBetween, .code yX1_stepsBetween cX1_stepsBetween 5 (some .int), .constant RX1 35 (-1000000), .methodLink RX1 32 yX1_oneStepFrom, .instanceMethod yX1_oneStepFrom, .selects RX1 yX1_oneStepFrom yX1_oneStepFrom, .code yX1_oneStepFrom cX1_oneStepFrom 4 (some .int), .fieldLink RX1 9 "BeepNet$Net" "neighbours" "[I"] ++ wsX60 ++ wsX10)
def wsX6_told_r1 : List Cond := [Cond.fieldLink RX6 19 "BeepNet" "net" "LBeepNet$Net;", Cond.constant RX6 57 (-1000001), Cond.methodLink RX6 109 yX1_hasPost, Cond.instanceMethod yX1_hasPost, Cond.selects RX1 yX1_hasPost yX1_hasPost, Cond.initialized RX1, Cond.code yX1_hasPost cX1_hasPost 2 (some .boolean), Cond.fieldLink RX1 15 "BeepNet$Net" "posts" "I", Cond.methodLink RX6 115 yX1_degree, Cond.instanceMethod yX1_degree, Cond.selects RX1 yX1_degree yX1_degree, Cond.code yX1_degree cX1_degree 2 (some .int), Cond.fieldLink RX1 9 "BeepNet$Net" "neighbours" "[I", Cond.methodLink RX1 23 yJ6_bitCount_0f7a4, Cond.static yJ6_bitCount_0f7a4, Cond.initialized RJ6, Cond.code yJ6_bitCount_0f7a4 cJ6_bitCount_0f7a4 1 (some .int), Cond.constant RJ6 265 (1431655765), Cond.constant RJ6 266 (858993459), Cond.constant RJ6 267 (252645135), Cond.methodLink RX6 118 yX1_neighboursOf, Cond.instanceMethod yX1_neighboursOf, Cond.selects RX1 yX1_neighboursOf yX1_neighboursOf, Cond.code yX1_neighboursOf cX1_neighboursOf 2 (some .int)]
def wsX6_told_r2 : List Cond := [Cond.methodLink RX6 121 yX1_width, Cond.instanceMethod yX1_width, Cond.selects RX1 yX1_width yX1_width, Cond.code yX1_width cX1_width 6 (some .int), Cond.methodLink RX1 32 yX1_oneStepFrom, Cond.instanceMethod yX1_oneStepFrom, Cond.selects RX1 yX1_oneStepFrom yX1_oneStepFrom, Cond.code yX1_oneStepFrom cX1_oneStepFrom 4 (some .int), Cond.methodLink RX6 124 yX1_reachOf, Cond.instanceMethod yX1_reachOf, Cond.selects RX1 yX1_reachOf yX1_reachOf, Cond.code yX1_reachOf cX1_reachOf 4 (some .int)]
def wsX6_told : List Cond := .code yX6_told cX6_told 3 (some .int) :: ((wsX6_told_r1 ++ wsX6_told_r2) ++ wsX60 ++ wsX10)
def wsX6_isHearing : List Cond := .code yX6_isHearing cX6_isHearing 1 (some .boolean) :: ([])
def wsX6_hears : List Cond := .code yX6_hears cX6_hears 3 (some .int) :: ([.fieldLink RX6 19 "BeepNet" "net" "LBeepNet$Net;", .constant RX6 57 (-1000001), .methodLink RX6 127 yX6_isHearing, .static yX6_isHearing, .initialized RX6, .code yX6_isHearing cX6_isHearing 1 (some .boolean), .methodLink RX6 130 yX1_hasSet, .instanceMethod yX1_hasSet, .selects RX1 yX1_hasSet yX1_hasSet, .initialized RX1, .code yX1_hasSet cX1_hasSet 2 (some .boolean), .methodLink RX1 19 yX1_allPosts, .instanceMethod yX1_allPosts, .selects RX1 yX1_allPosts yX1_allPosts, .code yX1_allPosts cX1_allPosts 1 (some .int), .fieldLink RX1 15 "BeepNet$Net" "posts" "I", .methodLink RX6 133 yX1_heardBy, .instanceMethod yX1_heardBy, .selects RX1 yX1_heardBy yX1_heardBy, .code yX1_heardBy cX1_heardBy 6 (some .int), .fieldLink RX1 9 "BeepNet$Net" "neighbours" "[I"] ++ wsX60 ++ wsX10)
def wsX6_spreads_r1 : List Cond := [Cond.fieldLink RX6 19 "BeepNet" "net" "LBeepNet$Net;", Cond.constant RX6 57 (-1000001), Cond.methodLink RX6 127 yX6_isHearing, Cond.static yX6_isHearing, Cond.initialized RX6, Cond.code yX6_isHearing cX6_isHearing 1 (some .boolean), Cond.methodLink RX6 130 yX1_hasSet, Cond.instanceMethod yX1_hasSet, Cond.selects RX1 yX1_hasSet yX1_hasSet, Cond.initialized RX1, Cond.code yX1_hasSet cX1_hasSet 2 (some .boolean), Cond.methodLink RX1 19 yX1_allPosts, Cond.instanceMethod yX1_allPosts, Cond.selects RX1 yX1_allPosts yX1_allPosts, Cond.code yX1_allPosts cX1_allPosts 1 (some .int), Cond.fieldLink RX1 15 "BeepNet$Net" "posts" "I", Cond.methodLink RX6 136 yX1_knowAfter, Cond.instanceMethod yX1_knowAfter, Cond.selects RX1 yX1_knowAfter yX1_knowAfter, Cond.code yX1_knowAfter cX1_knowAfter 4 (some .int), Cond.methodLink RX1 36 yX1_heardBy, Cond.instanceMethod yX1_heardBy, Cond.selects RX1 yX1_heardBy yX1_heardBy, Cond.code yX1_heardBy cX1_heardBy 6 (some .int)]
def wsX6_spreads_r2 : List Cond := [Cond.fieldLink RX1 9 "BeepNet$Net" "neighbours" "[I"]
def wsX6_spreads : List Cond := .code yX6_spreads cX6_spreads 4 (some .int) :: ((wsX6_spreads_r1 ++ wsX6_spreads_r2) ++ wsX60 ++ wsX10)
def wsX6_feed : List Cond := .code yX6_feed cX6_feed 4 (some .int) :: ([.constant RX6 57 (-1000001), .fieldLink RX6 26 "BeepNet" "reader" "LBeepNet$Reader;", .constant RX6 93 (-1000003), .methodLink RX6 139 yX2_hasRoom, .instanceMethod yX2_hasRoom, .selects RX2 yX2_hasRoom yX2_hasRoom, .initialized RX2, .code yX2_hasRoom cX2_hasRoom 2 (some .boolean), .fieldLink RX2 18 "BeepNet$Reader" "length" "I", .methodLink RX6 142 yX2_take, .instanceMethod yX2_take, .selects RX2 yX2_take yX2_take, .code yX2_take cX2_take 5 (some .int), .fieldLink RX2 9 "BeepNet$Reader" "tape" "[I", .constantLong RX2 22 (255)] ++ wsX60 ++ wsX20)
def wsX6_schedule_r1 : List Cond := [Cond.fieldLink RX6 26 "BeepNet" "reader" "LBeepNet$Reader;", Cond.fieldLink RX6 19 "BeepNet" "net" "LBeepNet$Net;", Cond.fieldLink RX6 152 "BeepNet" "latestFault" "I", Cond.constant RX6 155 (-1000100), Cond.fieldLink RX6 33 "BeepNet" "timetable" "LBeepNet$Timetable;", Cond.methodLink RX6 146 yX1_size, Cond.instanceMethod yX1_size, Cond.selects RX1 yX1_size yX1_size, Cond.initialized RX1, Cond.code yX1_size cX1_size 1 (some .int), Cond.fieldLink RX1 15 "BeepNet$Net" "posts" "I", Cond.methodLink RX6 149 yX2_read, Cond.instanceMethod yX2_read, Cond.selects RX2 yX2_read yX2_read, Cond.initialized RX2, Cond.code yX2_read cX2_read 4 (some .int), Cond.fieldLink RX2 24 "BeepNet$Reader" "roundsRead" "I", Cond.fieldLink RX2 36 "BeepNet$Reader" "behind" "I", Cond.fieldLink RX2 42 "BeepNet$Reader" "token" "I", Cond.fieldLink RX2 18 "BeepNet$Reader" "length" "I", Cond.methodLink RX2 39 yX2_advance, Cond.instanceMethod yX2_advance, Cond.selects RX2 yX2_advance yX2_advance, Cond.code yX2_advance cX2_advance 1 none]
def wsX6_schedule_r2 : List Cond := [Cond.fieldLink RX2 33 "BeepNet$Reader" "start" "I", Cond.fieldLink RX2 9 "BeepNet$Reader" "tape" "[I", Cond.methodLink RX2 62 yX2_isLetter, Cond.static yX2_isLetter, Cond.code yX2_isLetter cX2_isLetter 1 (some .boolean), Cond.methodLink RX2 66 yX2_advanceName, Cond.instanceMethod yX2_advanceName, Cond.selects RX2 yX2_advanceName yX2_advanceName, Cond.code yX2_advanceName cX2_advanceName 1 none, Cond.methodLink RX2 77 yX2_isWord, Cond.instanceMethod yX2_isWord, Cond.selects RX2 yX2_isWord yX2_isWord, Cond.code yX2_isWord cX2_isWord 3 (some .boolean), Cond.methodLink RX2 85 yJ0_length_8abf5, Cond.instanceMethod yJ0_length_8abf5, Cond.selects RJ0 yJ0_length_8abf5 yJ0_length_8abf5, Cond.initialized RJ0, Cond.code yJ0_length_8abf5 cJ0_length_8abf5 1 (some .int), Cond.fieldLink RJ0 9 "java/lang/String" "value" "[B", Cond.methodLink RJ0 335 yJ0_coder_7d493, Cond.instanceMethod yJ0_coder_7d493, Cond.selects RJ0 yJ0_coder_7d493 yJ0_coder_7d493, Cond.code yJ0_coder_7d493 cJ0_coder_7d493 1 (some .byte), Cond.fieldLink RJ0 38 "java/lang/String" "COMPACT_STRINGS" "Z"]
def wsX6_schedule_r3 : List Cond := [Cond.fieldLink RJ0 15 "java/lang/String" "coder" "B", Cond.methodLink RX2 89 yJ0_charAt_5068e, Cond.instanceMethod yJ0_charAt_5068e, Cond.selects RJ0 yJ0_charAt_5068e yJ0_charAt_5068e, Cond.code yJ0_charAt_5068e cJ0_charAt_5068e 2 (some .char), Cond.methodLink RJ0 492 yJ0_isLatin1_aae02, Cond.instanceMethod yJ0_isLatin1_aae02, Cond.selects RJ0 yJ0_isLatin1_aae02 yJ0_isLatin1_aae02, Cond.code yJ0_isLatin1_aae02 cJ0_isLatin1_aae02 1 (some .boolean), Cond.methodLink RJ0 495 yJ1_charAt_3b067, Cond.static yJ1_charAt_3b067, Cond.initialized RJ1, Cond.code yJ1_charAt_3b067 cJ1_charAt_3b067 2 (some .char), Cond.methodLink RJ1 9 yJ0_checkIndex_df160, Cond.static yJ0_checkIndex_df160, Cond.code yJ0_checkIndex_df160 cJ0_checkIndex_df160 2 none, Cond.fieldLink RJ0 1053 "jdk/internal/util/Preconditions" "SIOOBE_FORMATTER" "Ljava/util/function/BiFunction;", Cond.methodLink RJ0 1059 yJ3_checkIndex_8e157, Cond.static yJ3_checkIndex_8e157, Cond.initialized RJ3, Cond.code yJ3_checkIndex_8e157 cJ3_checkIndex_8e157 3 (some .int), Cond.methodLink RJ0 498 yJ2_charAt_3b067, Cond.static yJ2_charAt_3b067, Cond.initialized RJ2]
def wsX6_schedule_r4 : List Cond := [Cond.code yJ2_charAt_3b067 cJ2_charAt_3b067 2 (some .char), Cond.methodLink RJ2 67 yJ2_checkIndex_2214a, Cond.static yJ2_checkIndex_2214a, Cond.code yJ2_checkIndex_2214a cJ2_checkIndex_2214a 2 none, Cond.methodLink RJ2 48 yJ2_length_9d52b, Cond.static yJ2_length_9d52b, Cond.code yJ2_length_9d52b cJ2_length_9d52b 1 (some .int), Cond.methodLink RJ2 414 yJ0_checkIndex_df160, Cond.methodLink RJ2 71 yJ2_getChar_3b067, Cond.static yJ2_getChar_3b067, Cond.code yJ2_getChar_3b067 cJ2_getChar_3b067 2 (some .char), Cond.fieldLink RJ2 44 "java/lang/StringUTF16" "$assertionsDisabled" "Z", Cond.fieldLink RJ2 59 "java/lang/StringUTF16" "HI_BYTE_SHIFT" "I", Cond.fieldLink RJ2 63 "java/lang/StringUTF16" "LO_BYTE_SHIFT" "I", Cond.methodLink RX2 69 yX2_isFigure, Cond.static yX2_isFigure, Cond.code yX2_isFigure cX2_isFigure 1 (some .boolean), Cond.methodLink RX2 72 yX2_advanceNumber, Cond.instanceMethod yX2_advanceNumber, Cond.selects RX2 yX2_advanceNumber yX2_advanceNumber, Cond.code yX2_advanceNumber cX2_advanceNumber 1 none, Cond.fieldLink RX2 59 "BeepNet$Reader" "number" "I", Cond.methodLink RX2 45 yX2_readRound, Cond.instanceMethod yX2_readRound]
def wsX6_schedule_r5 : List Cond := [Cond.selects RX2 yX2_readRound yX2_readRound, Cond.code yX2_readRound cX2_readRound 4 (some .int), Cond.fieldLink RX2 15 "BeepNet$Reader" "rounds" "[I", Cond.methodLink RX2 49 yX2_faultOfWord, Cond.instanceMethod yX2_faultOfWord, Cond.selects RX2 yX2_faultOfWord yX2_faultOfWord, Cond.code yX2_faultOfWord cX2_faultOfWord 1 (some .int), Cond.methodLink RX2 53 yX2_soundsAtWord, Cond.instanceMethod yX2_soundsAtWord, Cond.selects RX2 yX2_soundsAtWord yX2_soundsAtWord, Cond.code yX2_soundsAtWord cX2_soundsAtWord 2 (some .int), Cond.methodLink RX2 56 yX2_readNumbers, Cond.instanceMethod yX2_readNumbers, Cond.selects RX2 yX2_readNumbers yX2_readNumbers, Cond.code yX2_readNumbers cX2_readNumbers 3 (some .int), Cond.methodLink RX6 156 yX2_tokenPlace, Cond.instanceMethod yX2_tokenPlace, Cond.selects RX2 yX2_tokenPlace yX2_tokenPlace, Cond.code yX2_tokenPlace cX2_tokenPlace 1 (some .int), Cond.methodLink RX6 159 yX5_become, Cond.instanceMethod yX5_become, Cond.selects RX5 yX5_become yX5_become, Cond.initialized RX5, Cond.code yX5_become cX5_become 2 none]
def wsX6_schedule_r6 : List Cond := [Cond.fieldLink RX5 9 "BeepNet$Timetable" "rounds" "[I", Cond.fieldLink RX5 15 "BeepNet$Timetable" "size" "I", Cond.methodLink RX5 19 yX2_giveRounds, Cond.instanceMethod yX2_giveRounds, Cond.selects RX2 yX2_giveRounds yX2_giveRounds, Cond.code yX2_giveRounds cX2_giveRounds 2 (some .int), Cond.methodLink RX2 27 arraycopyName, Cond.native arraycopyName, Cond.static arraycopyName, Cond.initialized "java/lang/System", Cond.methodLink RX6 163 yX5_size, Cond.instanceMethod yX5_size, Cond.selects RX5 yX5_size yX5_size, Cond.code yX5_size cX5_size 1 (some .int)]
def wsX6_schedule : List Cond := .code yX6_schedule cX6_schedule 2 (some .int) :: ((wsX6_schedule_r1 ++ (wsX6_schedule_r2 ++ (wsX6_schedule_r3 ++ (wsX6_schedule_r4 ++ (wsX6_schedule_r5 ++ wsX6_schedule_r6))))) ++ wsX60 ++ wsX10 ++ wsX20 ++ wsX50)
def wsX6_fault : List Cond := .code yX6_fault cX6_fault 1 (some .int) :: ([.fieldLink RX6 152 "BeepNet" "latestFault" "I"] ++ wsX60)
def wsX6_round : List Cond := .code yX6_round cX6_round 2 (some .int) :: ([.fieldLink RX6 33 "BeepNet" "timetable" "LBeepNet$Timetable;", .fieldLink RX6 19 "BeepNet" "net" "LBeepNet$Net;", .constant RX6 173 (-1000000), .methodLink RX6 164 yX5_hasRound, .instanceMethod yX5_hasRound, .selects RX5 yX5_hasRound yX5_hasRound, .initialized RX5, .code yX5_hasRound cX5_hasRound 2 (some .boolean), .fieldLink RX5 15 "BeepNet$Timetable" "size" "I", .methodLink RX6 167 yX1_allPosts, .instanceMethod yX1_allPosts, .selects RX1 yX1_allPosts yX1_allPosts, .initialized RX1, .code yX1_allPosts cX1_allPosts 1 (some .int), .fieldLink RX1 15 "BeepNet$Net" "posts" "I", .methodLink RX6 170 yX5_soundsIn, .instanceMethod yX5_soundsIn, .selects RX5 yX5_soundsIn yX5_soundsIn, .code yX5_soundsIn cX5_soundsIn 3 (some .int), .fieldLink RX5 9 "BeepNet$Timetable" "rounds" "[I"] ++ wsX60 ++ wsX50 ++ wsX10)
def wsX6_run_r1 : List Cond := [Cond.fieldLink RX6 19 "BeepNet" "net" "LBeepNet$Net;", Cond.constant RX6 57 (-1000001), Cond.fieldLink RX6 33 "BeepNet" "timetable" "LBeepNet$Timetable;", Cond.constant RX6 174 (-1000002), Cond.methodLink RX6 127 yX6_isHearing, Cond.static yX6_isHearing, Cond.initialized RX6, Cond.code yX6_isHearing cX6_isHearing 1 (some .boolean), Cond.methodLink RX6 109 yX1_hasPost, Cond.instanceMethod yX1_hasPost, Cond.selects RX1 yX1_hasPost yX1_hasPost, Cond.initialized RX1, Cond.code yX1_hasPost cX1_hasPost 2 (some .boolean), Cond.fieldLink RX1 15 "BeepNet$Net" "posts" "I", Cond.methodLink RX6 163 yX5_size, Cond.instanceMethod yX5_size, Cond.selects RX5 yX5_size yX5_size, Cond.initialized RX5, Cond.code yX5_size cX5_size 1 (some .int), Cond.fieldLink RX5 15 "BeepNet$Timetable" "size" "I", Cond.methodLink RX6 167 yX1_allPosts, Cond.instanceMethod yX1_allPosts, Cond.selects RX1 yX1_allPosts yX1_allPosts, Cond.code yX1_allPosts cX1_allPosts 1 (some .int)]
def wsX6_run_r2 : List Cond := [Cond.methodLink RX6 175 yX5_soundsOverAndOver, Cond.instanceMethod yX5_soundsOverAndOver, Cond.selects RX5 yX5_soundsOverAndOver yX5_soundsOverAndOver, Cond.code yX5_soundsOverAndOver cX5_soundsOverAndOver 3 (some .int), Cond.methodLink RX5 25 yX5_soundsIn, Cond.instanceMethod yX5_soundsIn, Cond.selects RX5 yX5_soundsIn yX5_soundsIn, Cond.code yX5_soundsIn cX5_soundsIn 3 (some .int), Cond.fieldLink RX5 9 "BeepNet$Timetable" "rounds" "[I", Cond.methodLink RX6 136 yX1_knowAfter, Cond.instanceMethod yX1_knowAfter, Cond.selects RX1 yX1_knowAfter yX1_knowAfter, Cond.code yX1_knowAfter cX1_knowAfter 4 (some .int), Cond.methodLink RX1 36 yX1_heardBy, Cond.instanceMethod yX1_heardBy, Cond.selects RX1 yX1_heardBy yX1_heardBy, Cond.code yX1_heardBy cX1_heardBy 6 (some .int), Cond.fieldLink RX1 9 "BeepNet$Net" "neighbours" "[I"]
def wsX6_run : List Cond := .code yX6_run cX6_run 6 (some .int) :: ((wsX6_run_r1 ++ wsX6_run_r2) ++ wsX60 ++ wsX10 ++ wsX50)
def wsX6_least_r1 : List Cond := [Cond.fieldLink RX6 19 "BeepNet" "net" "LBeepNet$Net;", Cond.constant RX6 57 (-1000001), Cond.fieldLink RX6 40 "BeepNet" "search" "LBeepNet$Search;", Cond.methodLink RX6 127 yX6_isHearing, Cond.static yX6_isHearing, Cond.initialized RX6, Cond.code yX6_isHearing cX6_isHearing 1 (some .boolean), Cond.methodLink RX6 130 yX1_hasSet, Cond.instanceMethod yX1_hasSet, Cond.selects RX1 yX1_hasSet yX1_hasSet, Cond.initialized RX1, Cond.code yX1_hasSet cX1_hasSet 2 (some .boolean), Cond.methodLink RX1 19 yX1_allPosts, Cond.instanceMethod yX1_allPosts, Cond.selects RX1 yX1_allPosts yX1_allPosts, Cond.code yX1_allPosts cX1_allPosts 1 (some .int), Cond.fieldLink RX1 15 "BeepNet$Net" "posts" "I", Cond.methodLink RX6 178 yX3_listen, Cond.instanceMethod yX3_listen, Cond.selects RX3 yX3_listen yX3_listen, Cond.initialized RX3, Cond.code yX3_listen cX3_listen 4 none, Cond.fieldLink RX3 9 "BeepNet$Search" "heard" "[I", Cond.methodLink RX3 25 yX1_allPosts]
def wsX6_least_r2 : List Cond := [Cond.methodLink RX3 31 yX1_heardBy, Cond.instanceMethod yX1_heardBy, Cond.selects RX1 yX1_heardBy yX1_heardBy, Cond.code yX1_heardBy cX1_heardBy 6 (some .int), Cond.fieldLink RX1 9 "BeepNet$Net" "neighbours" "[I", Cond.methodLink RX6 124 yX1_reachOf, Cond.instanceMethod yX1_reachOf, Cond.selects RX1 yX1_reachOf yX1_reachOf, Cond.code yX1_reachOf cX1_reachOf 4 (some .int), Cond.methodLink RX1 32 yX1_oneStepFrom, Cond.instanceMethod yX1_oneStepFrom, Cond.selects RX1 yX1_oneStepFrom yX1_oneStepFrom, Cond.code yX1_oneStepFrom cX1_oneStepFrom 4 (some .int), Cond.methodLink RX6 182 yX3_findFewest, Cond.instanceMethod yX3_findFewest, Cond.selects RX3 yX3_findFewest yX3_findFewest, Cond.code yX3_findFewest cX3_findFewest 4 none, Cond.fieldLink RX3 15 "BeepNet$Search" "fewest" "[I", Cond.methodLink RX3 35 yX3_fewestBehindOneRound, Cond.instanceMethod yX3_fewestBehindOneRound, Cond.selects RX3 yX3_fewestBehindOneRound yX3_fewestBehindOneRound, Cond.code yX3_fewestBehindOneRound cX3_fewestBehindOneRound 5 (some .int), Cond.methodLink RX3 39 Lib.Math.min.name, Cond.static Lib.Math.min.name]
def wsX6_least_r3 : List Cond := [Cond.initialized "java/lang/Math", Cond.code Lib.Math.min.name Lib.Math.min.code 2 (some .int), Cond.methodLink RX6 186 yX3_fewestFrom, Cond.instanceMethod yX3_fewestFrom, Cond.selects RX3 yX3_fewestFrom yX3_fewestFrom, Cond.code yX3_fewestFrom cX3_fewestFrom 2 (some .int), Cond.methodLink RX6 189 yX3_firstSet, Cond.instanceMethod yX3_firstSet, Cond.selects RX3 yX3_firstSet yX3_firstSet, Cond.code yX3_firstSet cX3_firstSet 3 (some .int)]
def wsX6_least : List Cond := .code yX6_least cX6_least 4 (some .int) :: ((wsX6_least_r1 ++ (wsX6_least_r2 ++ wsX6_least_r3)) ++ wsX60 ++ wsX10 ++ wsX30)
def wsX6_jammed_r1 : List Cond := [Cond.fieldLink RX6 19 "BeepNet" "net" "LBeepNet$Net;", Cond.constant RX6 57 (-1000001), Cond.fieldLink RX6 33 "BeepNet" "timetable" "LBeepNet$Timetable;", Cond.constant RX6 174 (-1000002), Cond.fieldLink RX6 40 "BeepNet" "search" "LBeepNet$Search;", Cond.methodLink RX6 127 yX6_isHearing, Cond.static yX6_isHearing, Cond.initialized RX6, Cond.code yX6_isHearing cX6_isHearing 1 (some .boolean), Cond.methodLink RX6 109 yX1_hasPost, Cond.instanceMethod yX1_hasPost, Cond.selects RX1 yX1_hasPost yX1_hasPost, Cond.initialized RX1, Cond.code yX1_hasPost cX1_hasPost 2 (some .boolean), Cond.fieldLink RX1 15 "BeepNet$Net" "posts" "I", Cond.methodLink RX6 163 yX5_size, Cond.instanceMethod yX5_size, Cond.selects RX5 yX5_size yX5_size, Cond.initialized RX5, Cond.code yX5_size cX5_size 1 (some .int), Cond.fieldLink RX5 15 "BeepNet$Timetable" "size" "I", Cond.methodLink RX6 178 yX3_listen, Cond.instanceMethod yX3_listen, Cond.selects RX3 yX3_listen yX3_listen]
def wsX6_jammed_r2 : List Cond := [Cond.initialized RX3, Cond.code yX3_listen cX3_listen 4 none, Cond.fieldLink RX3 9 "BeepNet$Search" "heard" "[I", Cond.methodLink RX3 25 yX1_allPosts, Cond.instanceMethod yX1_allPosts, Cond.selects RX1 yX1_allPosts yX1_allPosts, Cond.code yX1_allPosts cX1_allPosts 1 (some .int), Cond.methodLink RX3 31 yX1_heardBy, Cond.instanceMethod yX1_heardBy, Cond.selects RX1 yX1_heardBy yX1_heardBy, Cond.code yX1_heardBy cX1_heardBy 6 (some .int), Cond.fieldLink RX1 9 "BeepNet$Net" "neighbours" "[I", Cond.methodLink RX6 192 yX3_worstRounds, Cond.instanceMethod yX3_worstRounds, Cond.selects RX3 yX3_worstRounds yX3_worstRounds, Cond.code yX3_worstRounds cX3_worstRounds 9 (some .int), Cond.fieldLink RX3 18 "BeepNet$Search" "spent" "[I", Cond.constant RX3 62 (-1000000), Cond.methodLink RX3 44 yX1_reachOf, Cond.instanceMethod yX1_reachOf, Cond.selects RX1 yX1_reachOf yX1_reachOf, Cond.code yX1_reachOf cX1_reachOf 4 (some .int), Cond.methodLink RX1 32 yX1_oneStepFrom, Cond.instanceMethod yX1_oneStepFrom]
def wsX6_jammed_r3 : List Cond := [Cond.selects RX1 yX1_oneStepFrom yX1_oneStepFrom, Cond.code yX1_oneStepFrom cX1_oneStepFrom 4 (some .int), Cond.methodLink RX3 47 yJ7_fill_53178, Cond.static yJ7_fill_53178, Cond.initialized RJ7, Cond.code yJ7_fill_53178 cJ7_fill_53178 4 none, Cond.methodLink RX3 53 yX5_soundsOverAndOver, Cond.instanceMethod yX5_soundsOverAndOver, Cond.selects RX5 yX5_soundsOverAndOver yX5_soundsOverAndOver, Cond.code yX5_soundsOverAndOver cX5_soundsOverAndOver 3 (some .int), Cond.methodLink RX5 25 yX5_soundsIn, Cond.instanceMethod yX5_soundsIn, Cond.selects RX5 yX5_soundsIn yX5_soundsIn, Cond.code yX5_soundsIn cX5_soundsIn 3 (some .int), Cond.fieldLink RX5 9 "BeepNet$Timetable" "rounds" "[I", Cond.methodLink RX3 58 yX3_leavesSomeUntold, Cond.instanceMethod yX3_leavesSomeUntold, Cond.selects RX3 yX3_leavesSomeUntold yX3_leavesSomeUntold, Cond.code yX3_leavesSomeUntold cX3_leavesSomeUntold 9 (some .boolean), Cond.methodLink RX3 39 Lib.Math.min.name, Cond.static Lib.Math.min.name, Cond.initialized "java/lang/Math", Cond.code Lib.Math.min.name Lib.Math.min.code 2 (some .int)]
def wsX6_jammed : List Cond := .code yX6_jammed cX6_jammed 4 (some .int) :: ((wsX6_jammed_r1 ++ (wsX6_jammed_r2 ++ wsX6_jammed_r3)) ++ wsX60 ++ wsX10 ++ wsX50 ++ wsX30)
def wsX6_draws_r1 : List Cond := [Cond.fieldLink RX6 19 "BeepNet" "net" "LBeepNet$Net;", Cond.constantLong RX6 196 (-1000001), Cond.fieldLink RX6 40 "BeepNet" "search" "LBeepNet$Search;", Cond.methodLink RX6 127 yX6_isHearing, Cond.static yX6_isHearing, Cond.initialized RX6, Cond.code yX6_isHearing cX6_isHearing 1 (some .boolean), Cond.methodLink RX6 109 yX1_hasPost, Cond.instanceMethod yX1_hasPost, Cond.selects RX1 yX1_hasPost yX1_hasPost, Cond.initialized RX1, Cond.code yX1_hasPost cX1_hasPost 2 (some .boolean), Cond.fieldLink RX1 15 "BeepNet$Net" "posts" "I", Cond.methodLink RX6 178 yX3_listen, Cond.instanceMethod yX3_listen, Cond.selects RX3 yX3_listen yX3_listen, Cond.initialized RX3, Cond.code yX3_listen cX3_listen 4 none, Cond.fieldLink RX3 9 "BeepNet$Search" "heard" "[I", Cond.methodLink RX3 25 yX1_allPosts, Cond.instanceMethod yX1_allPosts, Cond.selects RX1 yX1_allPosts yX1_allPosts, Cond.code yX1_allPosts cX1_allPosts 1 (some .int), Cond.methodLink RX3 31 yX1_heardBy]
def wsX6_draws_r2 : List Cond := [Cond.instanceMethod yX1_heardBy, Cond.selects RX1 yX1_heardBy yX1_heardBy, Cond.code yX1_heardBy cX1_heardBy 6 (some .int), Cond.fieldLink RX1 9 "BeepNet$Net" "neighbours" "[I", Cond.methodLink RX6 198 yX3_casesThatReachAll, Cond.instanceMethod yX3_casesThatReachAll, Cond.selects RX3 yX3_casesThatReachAll yX3_casesThatReachAll, Cond.code yX3_casesThatReachAll cX3_casesThatReachAll 7 (some .long), Cond.fieldLink RX3 21 "BeepNet$Search" "cases" "[J", Cond.methodLink RX3 44 yX1_reachOf, Cond.instanceMethod yX1_reachOf, Cond.selects RX1 yX1_reachOf yX1_reachOf, Cond.code yX1_reachOf cX1_reachOf 4 (some .int), Cond.methodLink RX1 32 yX1_oneStepFrom, Cond.instanceMethod yX1_oneStepFrom, Cond.selects RX1 yX1_oneStepFrom yX1_oneStepFrom, Cond.code yX1_oneStepFrom cX1_oneStepFrom 4 (some .int), Cond.methodLink RX3 63 yJ7_fill_d0a16, Cond.static yJ7_fill_d0a16, Cond.initialized RJ7, Cond.code yJ7_fill_d0a16 cJ7_fill_d0a16 5 none, Cond.methodLink RX3 66 yX1_size, Cond.instanceMethod yX1_size, Cond.selects RX1 yX1_size yX1_size]
def wsX6_draws_r3 : List Cond := [Cond.code yX1_size cX1_size 1 (some .int), Cond.methodLink RX3 69 yX3_drawOneRound, Cond.instanceMethod yX3_drawOneRound, Cond.selects RX3 yX3_drawOneRound yX3_drawOneRound, Cond.code yX3_drawOneRound cX3_drawOneRound 5 none, Cond.methodLink RX3 73 yX3_drawFrom, Cond.instanceMethod yX3_drawFrom, Cond.selects RX3 yX3_drawFrom yX3_drawFrom, Cond.code yX3_drawFrom cX3_drawFrom 6 none, Cond.methodLink RX3 77 yJ6_bitCount_0f7a4, Cond.static yJ6_bitCount_0f7a4, Cond.initialized RJ6, Cond.code yJ6_bitCount_0f7a4 cJ6_bitCount_0f7a4 1 (some .int), Cond.constant RJ6 265 (1431655765), Cond.constant RJ6 266 (858993459), Cond.constant RJ6 267 (252645135)]
def wsX6_draws : List Cond := .code yX6_draws cX6_draws 4 (some .long) :: ((wsX6_draws_r1 ++ (wsX6_draws_r2 ++ wsX6_draws_r3)) ++ wsX60 ++ wsX10 ++ wsX30)
def wsX6_firstUnpicked : List Cond := .code yX6_firstUnpicked cX6_firstUnpicked 6 (some .int) :: ([.fieldLink RX6 19 "BeepNet" "net" "LBeepNet$Net;", .fieldLink RX6 10 "BeepNet" "sheets" "LBeepNet$Sheets;", .constant RX6 173 (-1000000), .methodLink RX6 167 yX1_allPosts, .instanceMethod yX1_allPosts, .selects RX1 yX1_allPosts yX1_allPosts, .initialized RX1, .code yX1_allPosts cX1_allPosts 1 (some .int), .fieldLink RX1 15 "BeepNet$Net" "posts" "I", .methodLink RX6 226 yJ6_bitCount_0f7a4, .static yJ6_bitCount_0f7a4, .initialized RJ6, .code yJ6_bitCount_0f7a4 cJ6_bitCount_0f7a4 1 (some .int), .constant RJ6 265 (1431655765), .constant RJ6 266 (858993459), .constant RJ6 267 (252645135), .methodLink RX6 231 yX4_picksOne, .instanceMethod yX4_picksOne, .selects RX4 yX4_picksOne yX4_picksOne, .initialized RX4, .code yX4_picksOne cX4_picksOne 6 (some .boolean), .fieldLink RX4 20 "BeepNet$Sheets" "items" "[[I", .methodLink RX4 47 yJ6_bitCount_0f7a4] ++ wsX60 ++ wsX10 ++ wsX40)
def wsX6_picks_r1 : List Cond := [Cond.constant RX6 57 (-1000001), Cond.fieldLink RX6 10 "BeepNet" "sheets" "LBeepNet$Sheets;", Cond.fieldLink RX6 58 "BeepNet" "latestFinding" "I", Cond.constant RX6 62 (-1000010), Cond.constant RX6 173 (-1000000), Cond.methodLink RX6 53 yX6_isSheet, Cond.static yX6_isSheet, Cond.initialized RX6, Cond.code yX6_isSheet cX6_isSheet 1 (some .boolean), Cond.methodLink RX6 67 yX4_findPlaces, Cond.instanceMethod yX4_findPlaces, Cond.selects RX4 yX4_findPlaces yX4_findPlaces, Cond.initialized RX4, Cond.code yX4_findPlaces cX4_findPlaces 4 (some .int), Cond.methodLink RX4 29 yX4_isMissing, Cond.instanceMethod yX4_isMissing, Cond.selects RX4 yX4_isMissing yX4_isMissing, Cond.code yX4_isMissing cX4_isMissing 2 (some .boolean), Cond.fieldLink RX4 9 "BeepNet$Sheets" "lanes" "[I", Cond.methodLink RX4 33 yX4_hasPlaces, Cond.instanceMethod yX4_hasPlaces, Cond.selects RX4 yX4_hasPlaces yX4_hasPlaces, Cond.code yX4_hasPlaces cX4_hasPlaces 4 (some .boolean), Cond.fieldLink RX4 15 "BeepNet$Sheets" "sizes" "[I"]
def wsX6_picks_r2 : List Cond := [Cond.methodLink RX6 202 yX6_firstUnpicked, Cond.instanceMethod yX6_firstUnpicked, Cond.selects RX6 yX6_firstUnpicked yX6_firstUnpicked, Cond.code yX6_firstUnpicked cX6_firstUnpicked 6 (some .int), Cond.fieldLink RX6 19 "BeepNet" "net" "LBeepNet$Net;", Cond.methodLink RX6 167 yX1_allPosts, Cond.instanceMethod yX1_allPosts, Cond.selects RX1 yX1_allPosts yX1_allPosts, Cond.initialized RX1, Cond.code yX1_allPosts cX1_allPosts 1 (some .int), Cond.fieldLink RX1 15 "BeepNet$Net" "posts" "I", Cond.methodLink RX6 226 yJ6_bitCount_0f7a4, Cond.static yJ6_bitCount_0f7a4, Cond.initialized RJ6, Cond.code yJ6_bitCount_0f7a4 cJ6_bitCount_0f7a4 1 (some .int), Cond.constant RJ6 265 (1431655765), Cond.constant RJ6 266 (858993459), Cond.constant RJ6 267 (252645135), Cond.methodLink RX6 231 yX4_picksOne, Cond.instanceMethod yX4_picksOne, Cond.selects RX4 yX4_picksOne yX4_picksOne, Cond.code yX4_picksOne cX4_picksOne 6 (some .boolean), Cond.fieldLink RX4 20 "BeepNet$Sheets" "items" "[[I", Cond.methodLink RX4 47 yJ6_bitCount_0f7a4]
def wsX6_picks : List Cond := .code yX6_picks cX6_picks 7 (some .int) :: ((wsX6_picks_r1 ++ wsX6_picks_r2) ++ wsX60 ++ wsX40 ++ wsX10)
def wsX6_kind_r1 : List Cond := [Cond.fieldLink RX6 19 "BeepNet" "net" "LBeepNet$Net;", Cond.constant RX6 57 (-1000001), Cond.methodLink RX6 109 yX1_hasPost, Cond.instanceMethod yX1_hasPost, Cond.selects RX1 yX1_hasPost yX1_hasPost, Cond.initialized RX1, Cond.code yX1_hasPost cX1_hasPost 2 (some .boolean), Cond.fieldLink RX1 15 "BeepNet$Net" "posts" "I", Cond.methodLink RX6 206 yX1_kindOf, Cond.instanceMethod yX1_kindOf, Cond.selects RX1 yX1_kindOf yX1_kindOf, Cond.code yX1_kindOf cX1_kindOf 3 (some .int), Cond.methodLink RX1 29 yX1_degree, Cond.instanceMethod yX1_degree, Cond.selects RX1 yX1_degree yX1_degree, Cond.code yX1_degree cX1_degree 2 (some .int), Cond.fieldLink RX1 9 "BeepNet$Net" "neighbours" "[I", Cond.methodLink RX1 23 yJ6_bitCount_0f7a4, Cond.static yJ6_bitCount_0f7a4, Cond.initialized RJ6, Cond.code yJ6_bitCount_0f7a4 cJ6_bitCount_0f7a4 1 (some .int), Cond.constant RJ6 265 (1431655765), Cond.constant RJ6 266 (858993459), Cond.constant RJ6 267 (252645135)]
def wsX6_kind_r2 : List Cond := [Cond.methodLink RX1 40 yX1_mostNeighbours, Cond.instanceMethod yX1_mostNeighbours, Cond.selects RX1 yX1_mostNeighbours yX1_mostNeighbours, Cond.code yX1_mostNeighbours cX1_mostNeighbours 3 (some .int), Cond.methodLink RX1 43 Lib.Math.max.name, Cond.static Lib.Math.max.name, Cond.initialized "java/lang/Math", Cond.code Lib.Math.max.name Lib.Math.max.code 2 (some .int)]
def wsX6_kind : List Cond := .code yX6_kind cX6_kind 2 (some .int) :: ((wsX6_kind_r1 ++ wsX6_kind_r2) ++ wsX60 ++ wsX10)
def wsX6_as_r1 : List Cond := [Cond.fieldLink RX6 19 "BeepNet" "net" "LBeepNet$Net;", Cond.constant RX6 57 (-1000001), Cond.fieldLink RX6 58 "BeepNet" "latestFinding" "I", Cond.constant RX6 62 (-1000010), Cond.methodLink RX6 109 yX1_hasPost, Cond.instanceMethod yX1_hasPost, Cond.selects RX1 yX1_hasPost yX1_hasPost, Cond.initialized RX1, Cond.code yX1_hasPost cX1_hasPost 2 (some .boolean), Cond.fieldLink RX1 15 "BeepNet$Net" "posts" "I", Cond.methodLink RX6 209 yX1_isOfKind, Cond.instanceMethod yX1_isOfKind, Cond.selects RX1 yX1_isOfKind yX1_isOfKind, Cond.code yX1_isOfKind cX1_isOfKind 4 (some .boolean), Cond.methodLink RX1 48 yX1_kindOf, Cond.instanceMethod yX1_kindOf, Cond.selects RX1 yX1_kindOf yX1_kindOf, Cond.code yX1_kindOf cX1_kindOf 3 (some .int), Cond.methodLink RX1 29 yX1_degree, Cond.instanceMethod yX1_degree, Cond.selects RX1 yX1_degree yX1_degree, Cond.code yX1_degree cX1_degree 2 (some .int), Cond.fieldLink RX1 9 "BeepNet$Net" "neighbours" "[I", Cond.methodLink RX1 23 yJ6_bitCount_0f7a4]
def wsX6_as_r2 : List Cond := [Cond.static yJ6_bitCount_0f7a4, Cond.initialized RJ6, Cond.code yJ6_bitCount_0f7a4 cJ6_bitCount_0f7a4 1 (some .int), Cond.constant RJ6 265 (1431655765), Cond.constant RJ6 266 (858993459), Cond.constant RJ6 267 (252645135), Cond.methodLink RX1 40 yX1_mostNeighbours, Cond.instanceMethod yX1_mostNeighbours, Cond.selects RX1 yX1_mostNeighbours yX1_mostNeighbours, Cond.code yX1_mostNeighbours cX1_mostNeighbours 3 (some .int), Cond.methodLink RX1 43 Lib.Math.max.name, Cond.static Lib.Math.max.name, Cond.initialized "java/lang/Math", Cond.code Lib.Math.max.name Lib.Math.max.code 2 (some .int), Cond.methodLink RX6 115 yX1_degree]
def wsX6_as : List Cond := .code yX6_as cX6_as 3 (some .int) :: ((wsX6_as_r1 ++ wsX6_as_r2) ++ wsX60 ++ wsX10)
def wsX6_ask_r1 : List Cond := [Cond.fieldLink RX6 19 "BeepNet" "net" "LBeepNet$Net;", Cond.constant RX6 57 (-1000001), Cond.fieldLink RX6 49 "BeepNet" "asks" "LBeepNet$Asks;", Cond.methodLink RX6 109 yX1_hasPost, Cond.instanceMethod yX1_hasPost, Cond.selects RX1 yX1_hasPost yX1_hasPost, Cond.initialized RX1, Cond.code yX1_hasPost cX1_hasPost 2 (some .boolean), Cond.fieldLink RX1 15 "BeepNet$Net" "posts" "I", Cond.methodLink RX6 212 yX0_answer, Cond.instanceMethod yX0_answer, Cond.selects RX0 yX0_answer yX0_answer, Cond.initialized RX0, Cond.code yX0_answer cX0_answer 3 (some .int), Cond.fieldLink RX0 19 "BeepNet$Asks" "length" "I", Cond.methodLink RX0 24 yX0_sizeOf, Cond.instanceMethod yX0_sizeOf, Cond.selects RX0 yX0_sizeOf yX0_sizeOf, Cond.code yX0_sizeOf cX0_sizeOf 3 (some .int), Cond.fieldLink RX0 15 "BeepNet$Asks" "net" "LBeepNet$Net;", Cond.methodLink RX0 31 yX1_kindOf, Cond.instanceMethod yX1_kindOf, Cond.selects RX1 yX1_kindOf yX1_kindOf, Cond.code yX1_kindOf cX1_kindOf 3 (some .int)]
def wsX6_ask_r2 : List Cond := [Cond.methodLink RX1 29 yX1_degree, Cond.instanceMethod yX1_degree, Cond.selects RX1 yX1_degree yX1_degree, Cond.code yX1_degree cX1_degree 2 (some .int), Cond.fieldLink RX1 9 "BeepNet$Net" "neighbours" "[I", Cond.methodLink RX1 23 yJ6_bitCount_0f7a4, Cond.static yJ6_bitCount_0f7a4, Cond.initialized RJ6, Cond.code yJ6_bitCount_0f7a4 cJ6_bitCount_0f7a4 1 (some .int), Cond.constant RJ6 265 (1431655765), Cond.constant RJ6 266 (858993459), Cond.constant RJ6 267 (252645135), Cond.methodLink RX1 40 yX1_mostNeighbours, Cond.instanceMethod yX1_mostNeighbours, Cond.selects RX1 yX1_mostNeighbours yX1_mostNeighbours, Cond.code yX1_mostNeighbours cX1_mostNeighbours 3 (some .int), Cond.methodLink RX1 43 Lib.Math.max.name, Cond.static Lib.Math.max.name, Cond.initialized "java/lang/Math", Cond.code Lib.Math.max.name Lib.Math.max.code 2 (some .int), Cond.methodLink RX0 37 yX0_sizeOfLeaf, Cond.instanceMethod yX0_sizeOfLeaf, Cond.selects RX0 yX0_sizeOfLeaf yX0_sizeOfLeaf, Cond.code yX0_sizeOfLeaf cX0_sizeOfLeaf 2 (some .int)]
def wsX6_ask_r3 : List Cond := [Cond.methodLink RX0 49 yX0_leave, Cond.instanceMethod yX0_leave, Cond.selects RX0 yX0_leave yX0_leave, Cond.code yX0_leave cX0_leave 2 none, Cond.fieldLink RX0 9 "BeepNet$Asks" "begun" "[I", Cond.methodLink RX0 43 yX0_sizeOfLinked, Cond.instanceMethod yX0_sizeOfLinked, Cond.selects RX0 yX0_sizeOfLinked yX0_sizeOfLinked, Cond.code yX0_sizeOfLinked cX0_sizeOfLinked 2 (some .int), Cond.methodLink RX0 46 yX0_sizeLent, Cond.instanceMethod yX0_sizeLent, Cond.selects RX0 yX0_sizeLent yX0_sizeLent, Cond.code yX0_sizeLent cX0_sizeLent 2 (some .int), Cond.methodLink RX0 53 yX1_degree, Cond.methodLink RX0 56 yX1_width, Cond.instanceMethod yX1_width, Cond.selects RX1 yX1_width yX1_width, Cond.code yX1_width cX1_width 6 (some .int), Cond.methodLink RX1 32 yX1_oneStepFrom, Cond.instanceMethod yX1_oneStepFrom, Cond.selects RX1 yX1_oneStepFrom yX1_oneStepFrom, Cond.code yX1_oneStepFrom cX1_oneStepFrom 4 (some .int), Cond.methodLink RX0 40 yX0_sizeOfHub, Cond.instanceMethod yX0_sizeOfHub]
def wsX6_ask_r4 : List Cond := [Cond.selects RX0 yX0_sizeOfHub yX0_sizeOfHub, Cond.code yX0_markOf cX0_markOf 3 (some .int), Cond.methodLink RX0 59 yX0_markOfHub, Cond.instanceMethod yX0_markOfHub, Cond.selects RX0 yX0_markOfHub yX0_markOfHub, Cond.code yX0_markOfHub cX0_markOfHub 2 (some .int), Cond.methodLink RX0 65 yX0_markLent, Cond.instanceMethod yX0_markLent, Cond.selects RX0 yX0_markLent yX0_markLent, Cond.code yX0_markLent cX0_markLent 2 (some .int), Cond.methodLink RX0 62 yX0_markOfLone, Cond.instanceMethod yX0_markOfLone, Cond.selects RX0 yX0_markOfLone yX0_markOfLone, Cond.code yX0_markOfLone cX0_markOfLone 4 (some .int), Cond.code yX0_sizeOfHub cX0_sizeOfHub 4 (some .int), Cond.methodLink RX0 28 yX0_markOf, Cond.instanceMethod yX0_markOf, Cond.selects RX0 yX0_markOf yX0_markOf]
def wsX6_ask : List Cond := .code yX6_ask cX6_ask 3 (some .int) :: ((wsX6_ask_r1 ++ (wsX6_ask_r2 ++ (wsX6_ask_r3 ++ wsX6_ask_r4))) ++ wsX60 ++ wsX10 ++ wsX00)
def wsX6_trace : List Cond := .code yX6_trace cX6_trace 2 (some .int) :: ([.fieldLink RX6 49 "BeepNet" "asks" "LBeepNet$Asks;", .methodLink RX6 215 yX0_begunBody, .instanceMethod yX0_begunBody, .selects RX0 yX0_begunBody yX0_begunBody, .initialized RX0, .code yX0_begunBody cX0_begunBody 2 (some .int), .fieldLink RX0 19 "BeepNet$Asks" "length" "I", .fieldLink RX0 9 "BeepNet$Asks" "begun" "[I", .constant RX0 23 (-1000000)] ++ wsX60 ++ wsX00)
def wsX6_count_r1 : List Cond := [Cond.fieldLink RX6 10 "BeepNet" "sheets" "LBeepNet$Sheets;", Cond.fieldLink RX6 19 "BeepNet" "net" "LBeepNet$Net;", Cond.fieldLink RX6 33 "BeepNet" "timetable" "LBeepNet$Timetable;", Cond.fieldLink RX6 26 "BeepNet" "reader" "LBeepNet$Reader;", Cond.constant RX6 57 (-1000001), Cond.methodLink RX6 218 yX4_size, Cond.instanceMethod yX4_size, Cond.selects RX4 yX4_size yX4_size, Cond.initialized RX4, Cond.code yX4_size cX4_size 3 (some .int), Cond.methodLink RX4 29 yX4_isMissing, Cond.instanceMethod yX4_isMissing, Cond.selects RX4 yX4_isMissing yX4_isMissing, Cond.code yX4_isMissing cX4_isMissing 2 (some .boolean), Cond.fieldLink RX4 9 "BeepNet$Sheets" "lanes" "[I", Cond.methodLink RX6 146 yX1_size, Cond.instanceMethod yX1_size, Cond.selects RX1 yX1_size yX1_size, Cond.initialized RX1, Cond.code yX1_size cX1_size 1 (some .int), Cond.fieldLink RX1 15 "BeepNet$Net" "posts" "I", Cond.methodLink RX6 219 yX1_pairs, Cond.instanceMethod yX1_pairs, Cond.selects RX1 yX1_pairs yX1_pairs]
def wsX6_count_r2 : List Cond := [Cond.code yX1_pairs cX1_pairs 3 (some .int), Cond.methodLink RX1 29 yX1_degree, Cond.instanceMethod yX1_degree, Cond.selects RX1 yX1_degree yX1_degree, Cond.code yX1_degree cX1_degree 2 (some .int), Cond.fieldLink RX1 9 "BeepNet$Net" "neighbours" "[I", Cond.methodLink RX1 23 yJ6_bitCount_0f7a4, Cond.static yJ6_bitCount_0f7a4, Cond.initialized RJ6, Cond.code yJ6_bitCount_0f7a4 cJ6_bitCount_0f7a4 1 (some .int), Cond.constant RJ6 265 (1431655765), Cond.constant RJ6 266 (858993459), Cond.constant RJ6 267 (252645135), Cond.methodLink RX6 163 yX5_size, Cond.instanceMethod yX5_size, Cond.selects RX5 yX5_size yX5_size, Cond.initialized RX5, Cond.code yX5_size cX5_size 1 (some .int), Cond.fieldLink RX5 15 "BeepNet$Timetable" "size" "I", Cond.methodLink RX6 222 yX1_countOf, Cond.instanceMethod yX1_countOf, Cond.selects RX1 yX1_countOf yX1_countOf, Cond.code yX1_countOf cX1_countOf 4 (some .int), Cond.methodLink RX1 48 yX1_kindOf]
def wsX6_count_r3 : List Cond := [Cond.instanceMethod yX1_kindOf, Cond.selects RX1 yX1_kindOf yX1_kindOf, Cond.code yX1_kindOf cX1_kindOf 3 (some .int), Cond.methodLink RX1 40 yX1_mostNeighbours, Cond.instanceMethod yX1_mostNeighbours, Cond.selects RX1 yX1_mostNeighbours yX1_mostNeighbours, Cond.code yX1_mostNeighbours cX1_mostNeighbours 3 (some .int), Cond.methodLink RX1 43 Lib.Math.max.name, Cond.static Lib.Math.max.name, Cond.initialized "java/lang/Math", Cond.code Lib.Math.max.name Lib.Math.max.code 2 (some .int), Cond.methodLink RX6 225 yX2_size, Cond.instanceMethod yX2_size, Cond.selects RX2 yX2_size yX2_size, Cond.initialized RX2, Cond.code yX2_size cX2_size 1 (some .int), Cond.fieldLink RX2 18 "BeepNet$Reader" "length" "I"]
def wsX6_count : List Cond := .code yX6_count cX6_count 2 (some .int) :: ((wsX6_count_r1 ++ (wsX6_count_r2 ++ wsX6_count_r3)) ++ wsX60 ++ wsX40 ++ wsX10 ++ wsX50 ++ wsX20)
def wsX6_status : List Cond := .code yX6_status cX6_status 1 (some .int) :: ([.fieldLink RX6 58 "BeepNet" "latestFinding" "I"] ++ wsX60)
def wsX7_init : List Cond := .code yX7_init cX7_init 1 none :: ([.methodLink RX7 1 objectInit, .instanceMethod objectInit, .code objectInit ⟨#[0xb1]⟩ 1 none, .arrayClass .int, .fieldLink RX7 7 "BeepNetModel" "lane" "[I", .fieldLink RX7 13 "BeepNetModel" "many" "[I", .fieldLink RX7 16 "BeepNetModel" "item" "[I", .fieldLink RX7 19 "BeepNetModel" "beside" "[I", .fieldLink RX7 22 "BeepNetModel" "round" "[I", .fieldLink RX7 25 "BeepNetModel" "reads" "[I", .fieldLink RX7 28 "BeepNetModel" "tape" "[I", .fieldLink RX7 31 "BeepNetModel" "fewest" "[I", .arrayClass .boolean, .fieldLink RX7 34 "BeepNetModel" "may" "[Z", .fieldLink RX7 38 "BeepNetModel" "then" "[Z", .arrayClass .long, .fieldLink RX7 41 "BeepNetModel" "cases" "[J", .fieldLink RX7 45 "BeepNetModel" "next" "[J", .fieldLink RX7 48 "BeepNetModel" "trace" "[I"] ++ wsX70)
def wsX7_in : List Cond := .code yX7_in cX7_in 6 (some .boolean) :: ([])
def wsX7_found : List Cond := .code yX7_found cX7_found 2 (some .int) :: ([.fieldLink RX7 55 "BeepNetModel" "status" "I", .constant RX7 58 (-1000010)] ++ wsX70)
def wsX7_isSheet : List Cond := .code yX7_isSheet cX7_isSheet 1 (some .boolean) :: ([.constantLong RX7 59 (7), .methodLink RX7 61 yX7_in, .static yX7_in, .initialized RX7, .code yX7_in cX7_in 6 (some .boolean)])
def wsX7_sheet : List Cond := .code yX7_sheet cX7_sheet 5 (some .int) :: ([.fieldLink RX7 51 "BeepNetModel" "thrown" "I", .constantLong RX7 69 (2), .constant RX7 71 (-1000001), .fieldLink RX7 55 "BeepNetModel" "status" "I", .fieldLink RX7 7 "BeepNetModel" "lane" "[I", .fieldLink RX7 13 "BeepNetModel" "many" "[I", .fieldLink RX7 16 "BeepNetModel" "item" "[I", .methodLink RX7 65 yX7_isSheet, .static yX7_isSheet, .initialized RX7, .code yX7_isSheet cX7_isSheet 1 (some .boolean), .constantLong RX7 59 (7), .methodLink RX7 61 yX7_in, .static yX7_in, .code yX7_in cX7_in 6 (some .boolean), .methodLink RX7 72 yX7_found, .instanceMethod yX7_found, .selects RX7 yX7_found yX7_found, .code yX7_found cX7_found 2 (some .int), .constant RX7 58 (-1000010)] ++ wsX70)
def wsX7_set : List Cond := .code yX7_set cX7_set 4 (some .int) :: ([.fieldLink RX7 51 "BeepNetModel" "thrown" "I", .constant RX7 71 (-1000001), .fieldLink RX7 55 "BeepNetModel" "status" "I", .fieldLink RX7 7 "BeepNetModel" "lane" "[I", .fieldLink RX7 13 "BeepNetModel" "many" "[I", .fieldLink RX7 16 "BeepNetModel" "item" "[I", .methodLink RX7 65 yX7_isSheet, .static yX7_isSheet, .initialized RX7, .code yX7_isSheet cX7_isSheet 1 (some .boolean), .constantLong RX7 59 (7), .methodLink RX7 61 yX7_in, .static yX7_in, .code yX7_in cX7_in 6 (some .boolean), .methodLink RX7 72 yX7_found, .instanceMethod yX7_found, .selects RX7 yX7_found yX7_found, .code yX7_found cX7_found 2 (some .int), .constant RX7 58 (-1000010)] ++ wsX70)
def wsX7_copy : List Cond := .code yX7_copy cX7_copy 9 (some .int) :: ([.fieldLink RX7 51 "BeepNetModel" "thrown" "I", .constant RX7 71 (-1000001), .fieldLink RX7 55 "BeepNetModel" "status" "I", .fieldLink RX7 7 "BeepNetModel" "lane" "[I", .fieldLink RX7 13 "BeepNetModel" "many" "[I", .fieldLink RX7 16 "BeepNetModel" "item" "[I", .methodLink RX7 65 yX7_isSheet, .static yX7_isSheet, .initialized RX7, .code yX7_isSheet cX7_isSheet 1 (some .boolean), .constantLong RX7 59 (7), .methodLink RX7 61 yX7_in, .static yX7_in, .code yX7_in cX7_in 6 (some .boolean), .methodLink RX7 72 yX7_found, .instanceMethod yX7_found, .selects RX7 yX7_found yX7_found, .code yX7_found cX7_found 2 (some .int), .constant RX7 58 (-1000010)] ++ wsX70)
def wsX7_drop : List Cond := .code yX7_drop cX7_drop 2 (some .int) :: ([.fieldLink RX7 51 "BeepNetModel" "thrown" "I", .constant RX7 71 (-1000001), .fieldLink RX7 55 "BeepNetModel" "status" "I", .fieldLink RX7 7 "BeepNetModel" "lane" "[I", .fieldLink RX7 13 "BeepNetModel" "many" "[I", .methodLink RX7 65 yX7_isSheet, .static yX7_isSheet, .initialized RX7, .code yX7_isSheet cX7_isSheet 1 (some .boolean), .constantLong RX7 59 (7), .methodLink RX7 61 yX7_in, .static yX7_in, .code yX7_in cX7_in 6 (some .boolean), .methodLink RX7 72 yX7_found, .instanceMethod yX7_found, .selects RX7 yX7_found yX7_found, .code yX7_found cX7_found 2 (some .int), .constant RX7 58 (-1000010)] ++ wsX70)
def wsX7_isPost : List Cond := .code yX7_isPost cX7_isPost 2 (some .boolean) :: ([.fieldLink RX7 76 "BeepNetModel" "posts" "I", .methodLink RX7 61 yX7_in, .static yX7_in, .initialized RX7, .code yX7_in cX7_in 6 (some .boolean)] ++ wsX70)
def wsX7_size : List Cond := .code yX7_size cX7_size 3 (some .int) :: ([])
def wsX7_all : List Cond := .code yX7_all cX7_all 1 (some .int) :: ([.fieldLink RX7 76 "BeepNetModel" "posts" "I"] ++ wsX70)
def wsX7_post : List Cond := .code yX7_post cX7_post 1 (some .int) :: ([.fieldLink RX7 51 "BeepNetModel" "thrown" "I", .fieldLink RX7 76 "BeepNetModel" "posts" "I", .constant RX7 79 (-1000003)] ++ wsX70)
def wsX7_join : List Cond := .code yX7_join cX7_join 4 (some .int) :: ([.fieldLink RX7 51 "BeepNetModel" "thrown" "I", .constant RX7 71 (-1000001), .fieldLink RX7 19 "BeepNetModel" "beside" "[I", .methodLink RX7 80 yX7_isPost, .instanceMethod yX7_isPost, .selects RX7 yX7_isPost yX7_isPost, .initialized RX7, .code yX7_isPost cX7_isPost 2 (some .boolean), .fieldLink RX7 76 "BeepNetModel" "posts" "I", .methodLink RX7 61 yX7_in, .static yX7_in, .code yX7_in cX7_in 6 (some .boolean)] ++ wsX70)
def wsX7_part : List Cond := .code yX7_part cX7_part 4 (some .int) :: ([.fieldLink RX7 51 "BeepNetModel" "thrown" "I", .constant RX7 71 (-1000001), .fieldLink RX7 19 "BeepNetModel" "beside" "[I", .methodLink RX7 80 yX7_isPost, .instanceMethod yX7_isPost, .selects RX7 yX7_isPost yX7_isPost, .initialized RX7, .code yX7_isPost cX7_isPost 2 (some .boolean), .fieldLink RX7 76 "BeepNetModel" "posts" "I", .methodLink RX7 61 yX7_in, .static yX7_in, .code yX7_in cX7_in 6 (some .boolean)] ++ wsX70)
def wsX7_around : List Cond := .code yX7_around cX7_around 4 (some .int) :: ([.fieldLink RX7 76 "BeepNetModel" "posts" "I", .fieldLink RX7 19 "BeepNetModel" "beside" "[I"] ++ wsX70)
def wsX7_reach : List Cond := .code yX7_reach cX7_reach 4 (some .int) :: ([.methodLink RX7 83 yX7_around, .instanceMethod yX7_around, .selects RX7 yX7_around yX7_around, .initialized RX7, .code yX7_around cX7_around 4 (some .int), .fieldLink RX7 76 "BeepNetModel" "posts" "I", .fieldLink RX7 19 "BeepNetModel" "beside" "[I"] ++ wsX70)
def wsX7_farOf : List Cond := .code yX7_farOf cX7_farOf 5 (some .int) :: ([.constant RX7 86 (-1000000), .methodLink RX7 83 yX7_around, .instanceMethod yX7_around, .selects RX7 yX7_around yX7_around, .initialized RX7, .code yX7_around cX7_around 4 (some .int), .fieldLink RX7 76 "BeepNetModel" "posts" "I", .fieldLink RX7 19 "BeepNetModel" "beside" "[I"] ++ wsX70)
def wsX7_widthOf : List Cond := .code yX7_widthOf cX7_widthOf 4 (some .int) :: ([.fieldLink RX7 76 "BeepNetModel" "posts" "I", .methodLink RX7 87 yX7_farOf, .instanceMethod yX7_farOf, .selects RX7 yX7_farOf yX7_farOf, .initialized RX7, .code yX7_farOf cX7_farOf 5 (some .int), .constant RX7 86 (-1000000), .methodLink RX7 83 yX7_around, .instanceMethod yX7_around, .selects RX7 yX7_around yX7_around, .code yX7_around cX7_around 4 (some .int), .fieldLink RX7 19 "BeepNetModel" "beside" "[I"] ++ wsX70)
def wsX7_far : List Cond := .code yX7_far cX7_far 3 (some .int) :: ([.fieldLink RX7 51 "BeepNetModel" "thrown" "I", .constant RX7 71 (-1000001), .methodLink RX7 80 yX7_isPost, .instanceMethod yX7_isPost, .selects RX7 yX7_isPost yX7_isPost, .initialized RX7, .code yX7_isPost cX7_isPost 2 (some .boolean), .fieldLink RX7 76 "BeepNetModel" "posts" "I", .methodLink RX7 61 yX7_in, .static yX7_in, .code yX7_in cX7_in 6 (some .boolean), .methodLink RX7 87 yX7_farOf, .instanceMethod yX7_farOf, .selects RX7 yX7_farOf yX7_farOf, .code yX7_farOf cX7_farOf 5 (some .int), .constant RX7 86 (-1000000), .methodLink RX7 83 yX7_around, .instanceMethod yX7_around, .selects RX7 yX7_around yX7_around, .code yX7_around cX7_around 4 (some .int), .fieldLink RX7 19 "BeepNetModel" "beside" "[I"] ++ wsX70)
def wsX7_told_r1 : List Cond := [Cond.fieldLink RX7 51 "BeepNetModel" "thrown" "I", Cond.constantLong RX7 91 (3), Cond.constant RX7 71 (-1000001), Cond.fieldLink RX7 19 "BeepNetModel" "beside" "[I", Cond.methodLink RX7 80 yX7_isPost, Cond.instanceMethod yX7_isPost, Cond.selects RX7 yX7_isPost yX7_isPost, Cond.initialized RX7, Cond.code yX7_isPost cX7_isPost 2 (some .boolean), Cond.fieldLink RX7 76 "BeepNetModel" "posts" "I", Cond.methodLink RX7 61 yX7_in, Cond.static yX7_in, Cond.code yX7_in cX7_in 6 (some .boolean), Cond.methodLink RX7 93 yX7_size, Cond.static yX7_size, Cond.code yX7_size cX7_size 3 (some .int), Cond.methodLink RX7 96 yX7_widthOf, Cond.instanceMethod yX7_widthOf, Cond.selects RX7 yX7_widthOf yX7_widthOf, Cond.code yX7_widthOf cX7_widthOf 4 (some .int), Cond.methodLink RX7 87 yX7_farOf, Cond.instanceMethod yX7_farOf, Cond.selects RX7 yX7_farOf yX7_farOf, Cond.code yX7_farOf cX7_farOf 5 (some .int)]
def wsX7_told_r2 : List Cond := [Cond.constant RX7 86 (-1000000), Cond.methodLink RX7 83 yX7_around, Cond.instanceMethod yX7_around, Cond.selects RX7 yX7_around yX7_around, Cond.code yX7_around cX7_around 4 (some .int), Cond.methodLink RX7 99 yX7_reach, Cond.instanceMethod yX7_reach, Cond.selects RX7 yX7_reach yX7_reach, Cond.code yX7_reach cX7_reach 4 (some .int)]
def wsX7_told : List Cond := .code yX7_told cX7_told 3 (some .int) :: ((wsX7_told_r1 ++ wsX7_told_r2) ++ wsX70)
def wsX7_isHearing : List Cond := .code yX7_isHearing cX7_isHearing 1 (some .boolean) :: ([.methodLink RX7 61 yX7_in, .static yX7_in, .initialized RX7, .code yX7_in cX7_in 6 (some .boolean)])
def wsX7_isSet : List Cond := .code yX7_isSet cX7_isSet 2 (some .boolean) :: ([.methodLink RX7 102 yX7_all, .instanceMethod yX7_all, .selects RX7 yX7_all yX7_all, .initialized RX7, .code yX7_all cX7_all 1 (some .int), .fieldLink RX7 76 "BeepNetModel" "posts" "I", .methodLink RX7 61 yX7_in, .static yX7_in, .code yX7_in cX7_in 6 (some .boolean)] ++ wsX70)
def wsX7_hearing : List Cond := .code yX7_hearing cX7_hearing 6 (some .int) :: ([.fieldLink RX7 76 "BeepNetModel" "posts" "I", .fieldLink RX7 19 "BeepNetModel" "beside" "[I", .methodLink RX7 93 yX7_size, .static yX7_size, .initialized RX7, .code yX7_size cX7_size 3 (some .int)] ++ wsX70)
def wsX7_spread : List Cond := .code yX7_spread cX7_spread 4 (some .int) :: ([.methodLink RX7 106 yX7_hearing, .instanceMethod yX7_hearing, .selects RX7 yX7_hearing yX7_hearing, .initialized RX7, .code yX7_hearing cX7_hearing 6 (some .int), .fieldLink RX7 76 "BeepNetModel" "posts" "I", .fieldLink RX7 19 "BeepNetModel" "beside" "[I", .methodLink RX7 93 yX7_size, .static yX7_size, .code yX7_size cX7_size 3 (some .int)] ++ wsX70)
def wsX7_hears_r1 : List Cond := [Cond.fieldLink RX7 51 "BeepNetModel" "thrown" "I", Cond.constant RX7 71 (-1000001), Cond.methodLink RX7 109 yX7_isHearing, Cond.static yX7_isHearing, Cond.initialized RX7, Cond.code yX7_isHearing cX7_isHearing 1 (some .boolean), Cond.methodLink RX7 61 yX7_in, Cond.static yX7_in, Cond.code yX7_in cX7_in 6 (some .boolean), Cond.methodLink RX7 112 yX7_isSet, Cond.instanceMethod yX7_isSet, Cond.selects RX7 yX7_isSet yX7_isSet, Cond.code yX7_isSet cX7_isSet 2 (some .boolean), Cond.methodLink RX7 102 yX7_all, Cond.instanceMethod yX7_all, Cond.selects RX7 yX7_all yX7_all, Cond.code yX7_all cX7_all 1 (some .int), Cond.fieldLink RX7 76 "BeepNetModel" "posts" "I", Cond.methodLink RX7 106 yX7_hearing, Cond.instanceMethod yX7_hearing, Cond.selects RX7 yX7_hearing yX7_hearing, Cond.code yX7_hearing cX7_hearing 6 (some .int), Cond.fieldLink RX7 19 "BeepNetModel" "beside" "[I", Cond.methodLink RX7 93 yX7_size]
def wsX7_hears_r2 : List Cond := [Cond.static yX7_size, Cond.code yX7_size cX7_size 3 (some .int)]
def wsX7_hears : List Cond := .code yX7_hears cX7_hears 3 (some .int) :: ((wsX7_hears_r1 ++ wsX7_hears_r2) ++ wsX70)
def wsX7_spreads_r1 : List Cond := [Cond.fieldLink RX7 51 "BeepNetModel" "thrown" "I", Cond.constant RX7 71 (-1000001), Cond.methodLink RX7 109 yX7_isHearing, Cond.static yX7_isHearing, Cond.initialized RX7, Cond.code yX7_isHearing cX7_isHearing 1 (some .boolean), Cond.methodLink RX7 61 yX7_in, Cond.static yX7_in, Cond.code yX7_in cX7_in 6 (some .boolean), Cond.methodLink RX7 112 yX7_isSet, Cond.instanceMethod yX7_isSet, Cond.selects RX7 yX7_isSet yX7_isSet, Cond.code yX7_isSet cX7_isSet 2 (some .boolean), Cond.methodLink RX7 102 yX7_all, Cond.instanceMethod yX7_all, Cond.selects RX7 yX7_all yX7_all, Cond.code yX7_all cX7_all 1 (some .int), Cond.fieldLink RX7 76 "BeepNetModel" "posts" "I", Cond.methodLink RX7 115 yX7_spread, Cond.instanceMethod yX7_spread, Cond.selects RX7 yX7_spread yX7_spread, Cond.code yX7_spread cX7_spread 4 (some .int), Cond.methodLink RX7 106 yX7_hearing, Cond.instanceMethod yX7_hearing]
def wsX7_spreads_r2 : List Cond := [Cond.selects RX7 yX7_hearing yX7_hearing, Cond.code yX7_hearing cX7_hearing 6 (some .int), Cond.fieldLink RX7 19 "BeepNetModel" "beside" "[I", Cond.methodLink RX7 93 yX7_size, Cond.static yX7_size, Cond.code yX7_size cX7_size 3 (some .int)]
def wsX7_spreads : List Cond := .code yX7_spreads cX7_spreads 4 (some .int) :: ((wsX7_spreads_r1 ++ wsX7_spreads_r2) ++ wsX70)
def wsX7_feed : List Cond := .code yX7_feed cX7_feed 5 (some .int) :: ([.fieldLink RX7 51 "BeepNetModel" "thrown" "I", .constantLong RX7 119 (8), .constant RX7 71 (-1000001), .fieldLink RX7 121 "BeepNetModel" "taped" "I", .constant RX7 79 (-1000003), .fieldLink RX7 28 "BeepNetModel" "tape" "[I", .constantLong RX7 124 (255), .methodLink RX7 61 yX7_in, .static yX7_in, .initialized RX7, .code yX7_in cX7_in 6 (some .boolean)] ++ wsX70)
def wsX7_byteAt : List Cond := .code yX7_byteAt cX7_byteAt 2 (some .int) :: ([.fieldLink RX7 126 "BeepNetModel" "length" "I", .fieldLink RX7 28 "BeepNetModel" "tape" "[I", .constant RX7 86 (-1000000)] ++ wsX70)
def wsX7_isLetter : List Cond := .code yX7_isLetter cX7_isLetter 1 (some .boolean) :: ([])
def wsX7_isFigure : List Cond := .code yX7_isFigure cX7_isFigure 1 (some .boolean) :: ([])
def wsX7_step : List Cond := .code yX7_step cX7_step 2 none :: ([.fieldLink RX7 129 "BeepNetModel" "at" "I", .fieldLink RX7 135 "BeepNetModel" "from" "I", .constant RX7 86 (-1000000), .fieldLink RX7 138 "BeepNetModel" "sort" "I", .fieldLink RX7 147 "BeepNetModel" "till" "I", .methodLink RX7 132 yX7_byteAt, .instanceMethod yX7_byteAt, .selects RX7 yX7_byteAt yX7_byteAt, .initialized RX7, .code yX7_byteAt cX7_byteAt 2 (some .int), .fieldLink RX7 126 "BeepNetModel" "length" "I", .fieldLink RX7 28 "BeepNetModel" "tape" "[I", .methodLink RX7 141 yX7_isLetter, .static yX7_isLetter, .code yX7_isLetter cX7_isLetter 1 (some .boolean), .methodLink RX7 144 yX7_isFigure, .static yX7_isFigure, .code yX7_isFigure cX7_isFigure 1 (some .boolean)] ++ wsX70)
def wsX7_bad : List Cond := .code yX7_bad cX7_bad 2 none :: ([.fieldLink RX7 150 "BeepNetModel" "fault" "I", .fieldLink RX7 135 "BeepNetModel" "from" "I", .fieldLink RX7 153 "BeepNetModel" "faultAt" "I"] ++ wsX70)
def wsX7_need_r1 : List Cond := [Cond.fieldLink RX7 150 "BeepNetModel" "fault" "I", Cond.methodLink RX7 156 yX7_bad, Cond.instanceMethod yX7_bad, Cond.selects RX7 yX7_bad yX7_bad, Cond.initialized RX7, Cond.code yX7_bad cX7_bad 2 none, Cond.fieldLink RX7 135 "BeepNetModel" "from" "I", Cond.fieldLink RX7 153 "BeepNetModel" "faultAt" "I", Cond.methodLink RX7 160 yX7_step, Cond.instanceMethod yX7_step, Cond.selects RX7 yX7_step yX7_step, Cond.code yX7_step cX7_step 2 none, Cond.fieldLink RX7 129 "BeepNetModel" "at" "I", Cond.constant RX7 86 (-1000000), Cond.fieldLink RX7 138 "BeepNetModel" "sort" "I", Cond.fieldLink RX7 147 "BeepNetModel" "till" "I", Cond.methodLink RX7 132 yX7_byteAt, Cond.instanceMethod yX7_byteAt, Cond.selects RX7 yX7_byteAt yX7_byteAt, Cond.code yX7_byteAt cX7_byteAt 2 (some .int), Cond.fieldLink RX7 126 "BeepNetModel" "length" "I", Cond.fieldLink RX7 28 "BeepNetModel" "tape" "[I", Cond.methodLink RX7 141 yX7_isLetter, Cond.static yX7_isLetter]
def wsX7_need_r2 : List Cond := [Cond.code yX7_isLetter cX7_isLetter 1 (some .boolean), Cond.methodLink RX7 144 yX7_isFigure, Cond.static yX7_isFigure, Cond.code yX7_isFigure cX7_isFigure 1 (some .boolean)]
def wsX7_need : List Cond := .code yX7_need cX7_need 2 none :: ((wsX7_need_r1 ++ wsX7_need_r2) ++ wsX70)
def wsX7_word : List Cond := .code yX7_word cX7_word 4 (some .long) :: ([.fieldLink RX7 135 "BeepNetModel" "from" "I", .fieldLink RX7 147 "BeepNetModel" "till" "I", .fieldLink RX7 138 "BeepNetModel" "sort" "I", .fieldLink RX7 28 "BeepNetModel" "tape" "[I"] ++ wsX70)
def wsX7_readRound_r1 : List Cond := [Cond.constantLong RX7 167 (491496238692), Cond.constantLong RX7 169 (6384748), Cond.constantLong RX7 171 (500219601765), Cond.fieldLink RX7 173 "BeepNetModel" "read" "I", Cond.fieldLink RX7 25 "BeepNetModel" "reads" "[I", Cond.fieldLink RX7 150 "BeepNetModel" "fault" "I", Cond.fieldLink RX7 138 "BeepNetModel" "sort" "I", Cond.fieldLink RX7 135 "BeepNetModel" "from" "I", Cond.fieldLink RX7 147 "BeepNetModel" "till" "I", Cond.fieldLink RX7 28 "BeepNetModel" "tape" "[I", Cond.fieldLink RX7 76 "BeepNetModel" "posts" "I", Cond.methodLink RX7 163 yX7_word, Cond.instanceMethod yX7_word, Cond.selects RX7 yX7_word yX7_word, Cond.initialized RX7, Cond.code yX7_word cX7_word 4 (some .long), Cond.methodLink RX7 156 yX7_bad, Cond.instanceMethod yX7_bad, Cond.selects RX7 yX7_bad yX7_bad, Cond.code yX7_bad cX7_bad 2 none, Cond.fieldLink RX7 153 "BeepNetModel" "faultAt" "I", Cond.methodLink RX7 176 yX7_need, Cond.instanceMethod yX7_need, Cond.selects RX7 yX7_need yX7_need]
def wsX7_readRound_r2 : List Cond := [Cond.code yX7_need cX7_need 2 none, Cond.methodLink RX7 160 yX7_step, Cond.instanceMethod yX7_step, Cond.selects RX7 yX7_step yX7_step, Cond.code yX7_step cX7_step 2 none, Cond.fieldLink RX7 129 "BeepNetModel" "at" "I", Cond.constant RX7 86 (-1000000), Cond.methodLink RX7 132 yX7_byteAt, Cond.instanceMethod yX7_byteAt, Cond.selects RX7 yX7_byteAt yX7_byteAt, Cond.code yX7_byteAt cX7_byteAt 2 (some .int), Cond.fieldLink RX7 126 "BeepNetModel" "length" "I", Cond.methodLink RX7 141 yX7_isLetter, Cond.static yX7_isLetter, Cond.code yX7_isLetter cX7_isLetter 1 (some .boolean), Cond.methodLink RX7 144 yX7_isFigure, Cond.static yX7_isFigure, Cond.code yX7_isFigure cX7_isFigure 1 (some .boolean)]
def wsX7_readRound : List Cond := .code yX7_readRound cX7_readRound 7 none :: ((wsX7_readRound_r1 ++ wsX7_readRound_r2) ++ wsX70)
def wsX7_schedule_r1 : List Cond := [Cond.fieldLink RX7 51 "BeepNetModel" "thrown" "I", Cond.fieldLink RX7 121 "BeepNetModel" "taped" "I", Cond.fieldLink RX7 126 "BeepNetModel" "length" "I", Cond.fieldLink RX7 129 "BeepNetModel" "at" "I", Cond.fieldLink RX7 150 "BeepNetModel" "fault" "I", Cond.fieldLink RX7 173 "BeepNetModel" "read" "I", Cond.fieldLink RX7 138 "BeepNetModel" "sort" "I", Cond.fieldLink RX7 183 "BeepNetModel" "latest" "I", Cond.constant RX7 186 (-1000100), Cond.fieldLink RX7 153 "BeepNetModel" "faultAt" "I", Cond.fieldLink RX7 187 "BeepNetModel" "rounds" "I", Cond.fieldLink RX7 22 "BeepNetModel" "round" "[I", Cond.fieldLink RX7 25 "BeepNetModel" "reads" "[I", Cond.methodLink RX7 160 yX7_step, Cond.instanceMethod yX7_step, Cond.selects RX7 yX7_step yX7_step, Cond.initialized RX7, Cond.code yX7_step cX7_step 2 none, Cond.fieldLink RX7 135 "BeepNetModel" "from" "I", Cond.constant RX7 86 (-1000000), Cond.fieldLink RX7 147 "BeepNetModel" "till" "I", Cond.methodLink RX7 132 yX7_byteAt, Cond.instanceMethod yX7_byteAt, Cond.selects RX7 yX7_byteAt yX7_byteAt]
def wsX7_schedule_r2 : List Cond := [Cond.code yX7_byteAt cX7_byteAt 2 (some .int), Cond.fieldLink RX7 28 "BeepNetModel" "tape" "[I", Cond.methodLink RX7 141 yX7_isLetter, Cond.static yX7_isLetter, Cond.code yX7_isLetter cX7_isLetter 1 (some .boolean), Cond.methodLink RX7 144 yX7_isFigure, Cond.static yX7_isFigure, Cond.code yX7_isFigure cX7_isFigure 1 (some .boolean), Cond.methodLink RX7 180 yX7_readRound, Cond.instanceMethod yX7_readRound, Cond.selects RX7 yX7_readRound yX7_readRound, Cond.code yX7_readRound cX7_readRound 7 none, Cond.constantLong RX7 167 (491496238692), Cond.constantLong RX7 169 (6384748), Cond.constantLong RX7 171 (500219601765), Cond.fieldLink RX7 76 "BeepNetModel" "posts" "I", Cond.methodLink RX7 163 yX7_word, Cond.instanceMethod yX7_word, Cond.selects RX7 yX7_word yX7_word, Cond.code yX7_word cX7_word 4 (some .long), Cond.methodLink RX7 156 yX7_bad, Cond.instanceMethod yX7_bad, Cond.selects RX7 yX7_bad yX7_bad, Cond.code yX7_bad cX7_bad 2 none]
def wsX7_schedule_r3 : List Cond := [Cond.methodLink RX7 176 yX7_need, Cond.instanceMethod yX7_need, Cond.selects RX7 yX7_need yX7_need, Cond.code yX7_need cX7_need 2 none]
def wsX7_schedule : List Cond := .code yX7_schedule cX7_schedule 2 (some .int) :: ((wsX7_schedule_r1 ++ (wsX7_schedule_r2 ++ wsX7_schedule_r3)) ++ wsX70)
def wsX7_fault : List Cond := .code yX7_fault cX7_fault 1 (some .int) :: ([.fieldLink RX7 51 "BeepNetModel" "thrown" "I", .fieldLink RX7 183 "BeepNetModel" "latest" "I"] ++ wsX70)
def wsX7_soundsIn : List Cond := .code yX7_soundsIn cX7_soundsIn 2 (some .int) :: ([.fieldLink RX7 22 "BeepNetModel" "round" "[I", .fieldLink RX7 187 "BeepNetModel" "rounds" "I", .methodLink RX7 102 yX7_all, .instanceMethod yX7_all, .selects RX7 yX7_all yX7_all, .initialized RX7, .code yX7_all cX7_all 1 (some .int), .fieldLink RX7 76 "BeepNetModel" "posts" "I"] ++ wsX70)
def wsX7_round : List Cond := .code yX7_round cX7_round 2 (some .int) :: ([.fieldLink RX7 51 "BeepNetModel" "thrown" "I", .fieldLink RX7 187 "BeepNetModel" "rounds" "I", .constant RX7 86 (-1000000), .methodLink RX7 61 yX7_in, .static yX7_in, .initialized RX7, .code yX7_in cX7_in 6 (some .boolean), .methodLink RX7 190 yX7_soundsIn, .instanceMethod yX7_soundsIn, .selects RX7 yX7_soundsIn yX7_soundsIn, .code yX7_soundsIn cX7_soundsIn 2 (some .int), .fieldLink RX7 22 "BeepNetModel" "round" "[I", .methodLink RX7 102 yX7_all, .instanceMethod yX7_all, .selects RX7 yX7_all yX7_all, .code yX7_all cX7_all 1 (some .int), .fieldLink RX7 76 "BeepNetModel" "posts" "I"] ++ wsX70)
def wsX7_run_r1 : List Cond := [Cond.fieldLink RX7 51 "BeepNetModel" "thrown" "I", Cond.constantLong RX7 193 (60), Cond.constant RX7 71 (-1000001), Cond.fieldLink RX7 187 "BeepNetModel" "rounds" "I", Cond.constant RX7 195 (-1000002), Cond.methodLink RX7 109 yX7_isHearing, Cond.static yX7_isHearing, Cond.initialized RX7, Cond.code yX7_isHearing cX7_isHearing 1 (some .boolean), Cond.methodLink RX7 61 yX7_in, Cond.static yX7_in, Cond.code yX7_in cX7_in 6 (some .boolean), Cond.methodLink RX7 80 yX7_isPost, Cond.instanceMethod yX7_isPost, Cond.selects RX7 yX7_isPost yX7_isPost, Cond.code yX7_isPost cX7_isPost 2 (some .boolean), Cond.fieldLink RX7 76 "BeepNetModel" "posts" "I", Cond.methodLink RX7 190 yX7_soundsIn, Cond.instanceMethod yX7_soundsIn, Cond.selects RX7 yX7_soundsIn yX7_soundsIn, Cond.code yX7_soundsIn cX7_soundsIn 2 (some .int), Cond.fieldLink RX7 22 "BeepNetModel" "round" "[I", Cond.methodLink RX7 102 yX7_all, Cond.instanceMethod yX7_all]
def wsX7_run_r2 : List Cond := [Cond.selects RX7 yX7_all yX7_all, Cond.code yX7_all cX7_all 1 (some .int), Cond.methodLink RX7 115 yX7_spread, Cond.instanceMethod yX7_spread, Cond.selects RX7 yX7_spread yX7_spread, Cond.code yX7_spread cX7_spread 4 (some .int), Cond.methodLink RX7 106 yX7_hearing, Cond.instanceMethod yX7_hearing, Cond.selects RX7 yX7_hearing yX7_hearing, Cond.code yX7_hearing cX7_hearing 6 (some .int), Cond.fieldLink RX7 19 "BeepNetModel" "beside" "[I", Cond.methodLink RX7 93 yX7_size, Cond.static yX7_size, Cond.code yX7_size cX7_size 3 (some .int)]
def wsX7_run : List Cond := .code yX7_run cX7_run 6 (some .int) :: ((wsX7_run_r1 ++ wsX7_run_r2) ++ wsX70)
def wsX7_findFewest : List Cond := .code yX7_findFewest cX7_findFewest 7 none :: ([.fieldLink RX7 31 "BeepNetModel" "fewest" "[I", .constant RX7 86 (-1000000), .methodLink RX7 102 yX7_all, .instanceMethod yX7_all, .selects RX7 yX7_all yX7_all, .initialized RX7, .code yX7_all cX7_all 1 (some .int), .fieldLink RX7 76 "BeepNetModel" "posts" "I", .methodLink RX7 115 yX7_spread, .instanceMethod yX7_spread, .selects RX7 yX7_spread yX7_spread, .code yX7_spread cX7_spread 4 (some .int), .methodLink RX7 106 yX7_hearing, .instanceMethod yX7_hearing, .selects RX7 yX7_hearing yX7_hearing, .code yX7_hearing cX7_hearing 6 (some .int), .fieldLink RX7 19 "BeepNetModel" "beside" "[I", .methodLink RX7 93 yX7_size, .static yX7_size, .code yX7_size cX7_size 3 (some .int)] ++ wsX70)
def wsX7_least_r1 : List Cond := [Cond.fieldLink RX7 51 "BeepNetModel" "thrown" "I", Cond.constant RX7 71 (-1000001), Cond.fieldLink RX7 31 "BeepNetModel" "fewest" "[I", Cond.methodLink RX7 109 yX7_isHearing, Cond.static yX7_isHearing, Cond.initialized RX7, Cond.code yX7_isHearing cX7_isHearing 1 (some .boolean), Cond.methodLink RX7 61 yX7_in, Cond.static yX7_in, Cond.code yX7_in cX7_in 6 (some .boolean), Cond.methodLink RX7 112 yX7_isSet, Cond.instanceMethod yX7_isSet, Cond.selects RX7 yX7_isSet yX7_isSet, Cond.code yX7_isSet cX7_isSet 2 (some .boolean), Cond.methodLink RX7 102 yX7_all, Cond.instanceMethod yX7_all, Cond.selects RX7 yX7_all yX7_all, Cond.code yX7_all cX7_all 1 (some .int), Cond.fieldLink RX7 76 "BeepNetModel" "posts" "I", Cond.methodLink RX7 99 yX7_reach, Cond.instanceMethod yX7_reach, Cond.selects RX7 yX7_reach yX7_reach, Cond.code yX7_reach cX7_reach 4 (some .int), Cond.methodLink RX7 83 yX7_around]
def wsX7_least_r2 : List Cond := [Cond.instanceMethod yX7_around, Cond.selects RX7 yX7_around yX7_around, Cond.code yX7_around cX7_around 4 (some .int), Cond.fieldLink RX7 19 "BeepNetModel" "beside" "[I", Cond.methodLink RX7 196 yX7_findFewest, Cond.instanceMethod yX7_findFewest, Cond.selects RX7 yX7_findFewest yX7_findFewest, Cond.code yX7_findFewest cX7_findFewest 7 none, Cond.constant RX7 86 (-1000000), Cond.methodLink RX7 115 yX7_spread, Cond.instanceMethod yX7_spread, Cond.selects RX7 yX7_spread yX7_spread, Cond.code yX7_spread cX7_spread 4 (some .int), Cond.methodLink RX7 106 yX7_hearing, Cond.instanceMethod yX7_hearing, Cond.selects RX7 yX7_hearing yX7_hearing, Cond.code yX7_hearing cX7_hearing 6 (some .int), Cond.methodLink RX7 93 yX7_size, Cond.static yX7_size, Cond.code yX7_size cX7_size 3 (some .int)]
def wsX7_least : List Cond := .code yX7_least cX7_least 5 (some .int) :: ((wsX7_least_r1 ++ wsX7_least_r2) ++ wsX70)
def wsX7_jammed_r1 : List Cond := [Cond.fieldLink RX7 51 "BeepNetModel" "thrown" "I", Cond.constantLong RX7 200 (5), Cond.constant RX7 71 (-1000001), Cond.fieldLink RX7 187 "BeepNetModel" "rounds" "I", Cond.constant RX7 195 (-1000002), Cond.fieldLink RX7 34 "BeepNetModel" "may" "[Z", Cond.fieldLink RX7 38 "BeepNetModel" "then" "[Z", Cond.constant RX7 86 (-1000000), Cond.methodLink RX7 109 yX7_isHearing, Cond.static yX7_isHearing, Cond.initialized RX7, Cond.code yX7_isHearing cX7_isHearing 1 (some .boolean), Cond.methodLink RX7 61 yX7_in, Cond.static yX7_in, Cond.code yX7_in cX7_in 6 (some .boolean), Cond.methodLink RX7 80 yX7_isPost, Cond.instanceMethod yX7_isPost, Cond.selects RX7 yX7_isPost yX7_isPost, Cond.code yX7_isPost cX7_isPost 2 (some .boolean), Cond.fieldLink RX7 76 "BeepNetModel" "posts" "I", Cond.methodLink RX7 99 yX7_reach, Cond.instanceMethod yX7_reach, Cond.selects RX7 yX7_reach yX7_reach, Cond.code yX7_reach cX7_reach 4 (some .int)]
def wsX7_jammed_r2 : List Cond := [Cond.methodLink RX7 83 yX7_around, Cond.instanceMethod yX7_around, Cond.selects RX7 yX7_around yX7_around, Cond.code yX7_around cX7_around 4 (some .int), Cond.fieldLink RX7 19 "BeepNetModel" "beside" "[I", Cond.methodLink RX7 190 yX7_soundsIn, Cond.instanceMethod yX7_soundsIn, Cond.selects RX7 yX7_soundsIn yX7_soundsIn, Cond.code yX7_soundsIn cX7_soundsIn 2 (some .int), Cond.fieldLink RX7 22 "BeepNetModel" "round" "[I", Cond.methodLink RX7 102 yX7_all, Cond.instanceMethod yX7_all, Cond.selects RX7 yX7_all yX7_all, Cond.code yX7_all cX7_all 1 (some .int), Cond.methodLink RX7 115 yX7_spread, Cond.instanceMethod yX7_spread, Cond.selects RX7 yX7_spread yX7_spread, Cond.code yX7_spread cX7_spread 4 (some .int), Cond.methodLink RX7 106 yX7_hearing, Cond.instanceMethod yX7_hearing, Cond.selects RX7 yX7_hearing yX7_hearing, Cond.code yX7_hearing cX7_hearing 6 (some .int), Cond.methodLink RX7 93 yX7_size, Cond.static yX7_size]
def wsX7_jammed_r3 : List Cond := [Cond.code yX7_size cX7_size 3 (some .int)]
def wsX7_jammed : List Cond := .code yX7_jammed cX7_jammed 8 (some .int) :: ((wsX7_jammed_r1 ++ (wsX7_jammed_r2 ++ wsX7_jammed_r3)) ++ wsX70)
def wsX7_draws_r1 : List Cond := [Cond.fieldLink RX7 51 "BeepNetModel" "thrown" "I", Cond.constantLong RX7 59 (7), Cond.constantLong RX7 202 (-1000001), Cond.fieldLink RX7 41 "BeepNetModel" "cases" "[J", Cond.fieldLink RX7 45 "BeepNetModel" "next" "[J", Cond.methodLink RX7 109 yX7_isHearing, Cond.static yX7_isHearing, Cond.initialized RX7, Cond.code yX7_isHearing cX7_isHearing 1 (some .boolean), Cond.methodLink RX7 61 yX7_in, Cond.static yX7_in, Cond.code yX7_in cX7_in 6 (some .boolean), Cond.methodLink RX7 80 yX7_isPost, Cond.instanceMethod yX7_isPost, Cond.selects RX7 yX7_isPost yX7_isPost, Cond.code yX7_isPost cX7_isPost 2 (some .boolean), Cond.fieldLink RX7 76 "BeepNetModel" "posts" "I", Cond.methodLink RX7 102 yX7_all, Cond.instanceMethod yX7_all, Cond.selects RX7 yX7_all yX7_all, Cond.code yX7_all cX7_all 1 (some .int), Cond.methodLink RX7 115 yX7_spread, Cond.instanceMethod yX7_spread, Cond.selects RX7 yX7_spread yX7_spread]
def wsX7_draws_r2 : List Cond := [Cond.code yX7_spread cX7_spread 4 (some .int), Cond.methodLink RX7 106 yX7_hearing, Cond.instanceMethod yX7_hearing, Cond.selects RX7 yX7_hearing yX7_hearing, Cond.code yX7_hearing cX7_hearing 6 (some .int), Cond.fieldLink RX7 19 "BeepNetModel" "beside" "[I", Cond.methodLink RX7 93 yX7_size, Cond.static yX7_size, Cond.code yX7_size cX7_size 3 (some .int), Cond.methodLink RX7 99 yX7_reach, Cond.instanceMethod yX7_reach, Cond.selects RX7 yX7_reach yX7_reach, Cond.code yX7_reach cX7_reach 4 (some .int), Cond.methodLink RX7 83 yX7_around, Cond.instanceMethod yX7_around, Cond.selects RX7 yX7_around yX7_around, Cond.code yX7_around cX7_around 4 (some .int)]
def wsX7_draws : List Cond := .code yX7_draws cX7_draws 7 (some .long) :: ((wsX7_draws_r1 ++ wsX7_draws_r2) ++ wsX70)
def wsX7_picks_r1 : List Cond := [Cond.fieldLink RX7 51 "BeepNetModel" "thrown" "I", Cond.constantLong RX7 204 (40), Cond.constantLong RX7 206 (4), Cond.constant RX7 71 (-1000001), Cond.fieldLink RX7 55 "BeepNetModel" "status" "I", Cond.fieldLink RX7 7 "BeepNetModel" "lane" "[I", Cond.fieldLink RX7 13 "BeepNetModel" "many" "[I", Cond.fieldLink RX7 16 "BeepNetModel" "item" "[I", Cond.constant RX7 86 (-1000000), Cond.methodLink RX7 65 yX7_isSheet, Cond.static yX7_isSheet, Cond.initialized RX7, Cond.code yX7_isSheet cX7_isSheet 1 (some .boolean), Cond.constantLong RX7 59 (7), Cond.methodLink RX7 61 yX7_in, Cond.static yX7_in, Cond.code yX7_in cX7_in 6 (some .boolean), Cond.methodLink RX7 72 yX7_found, Cond.instanceMethod yX7_found, Cond.selects RX7 yX7_found yX7_found, Cond.code yX7_found cX7_found 2 (some .int), Cond.constant RX7 58 (-1000010), Cond.methodLink RX7 102 yX7_all, Cond.instanceMethod yX7_all]
def wsX7_picks_r2 : List Cond := [Cond.selects RX7 yX7_all yX7_all, Cond.code yX7_all cX7_all 1 (some .int), Cond.fieldLink RX7 76 "BeepNetModel" "posts" "I", Cond.methodLink RX7 93 yX7_size, Cond.static yX7_size, Cond.code yX7_size cX7_size 3 (some .int)]
def wsX7_picks : List Cond := .code yX7_picks cX7_picks 9 (some .int) :: ((wsX7_picks_r1 ++ wsX7_picks_r2) ++ wsX70)
def wsX7_kindOf : List Cond := .code yX7_kindOf cX7_kindOf 5 (some .int) :: ([.fieldLink RX7 19 "BeepNetModel" "beside" "[I", .fieldLink RX7 76 "BeepNetModel" "posts" "I", .methodLink RX7 93 yX7_size, .static yX7_size, .initialized RX7, .code yX7_size cX7_size 3 (some .int)] ++ wsX70)
def wsX7_isOf : List Cond := .code yX7_isOf cX7_isOf 2 (some .boolean) :: ([])
def wsX7_kind : List Cond := .code yX7_kind cX7_kind 2 (some .int) :: ([.fieldLink RX7 51 "BeepNetModel" "thrown" "I", .constant RX7 71 (-1000001), .methodLink RX7 80 yX7_isPost, .instanceMethod yX7_isPost, .selects RX7 yX7_isPost yX7_isPost, .initialized RX7, .code yX7_isPost cX7_isPost 2 (some .boolean), .fieldLink RX7 76 "BeepNetModel" "posts" "I", .methodLink RX7 61 yX7_in, .static yX7_in, .code yX7_in cX7_in 6 (some .boolean), .methodLink RX7 208 yX7_kindOf, .instanceMethod yX7_kindOf, .selects RX7 yX7_kindOf yX7_kindOf, .code yX7_kindOf cX7_kindOf 5 (some .int), .fieldLink RX7 19 "BeepNetModel" "beside" "[I", .methodLink RX7 93 yX7_size, .static yX7_size, .code yX7_size cX7_size 3 (some .int)] ++ wsX70)
def wsX7_as_r1 : List Cond := [Cond.fieldLink RX7 51 "BeepNetModel" "thrown" "I", Cond.constantLong RX7 206 (4), Cond.constant RX7 71 (-1000001), Cond.fieldLink RX7 55 "BeepNetModel" "status" "I", Cond.fieldLink RX7 19 "BeepNetModel" "beside" "[I", Cond.methodLink RX7 80 yX7_isPost, Cond.instanceMethod yX7_isPost, Cond.selects RX7 yX7_isPost yX7_isPost, Cond.initialized RX7, Cond.code yX7_isPost cX7_isPost 2 (some .boolean), Cond.fieldLink RX7 76 "BeepNetModel" "posts" "I", Cond.methodLink RX7 61 yX7_in, Cond.static yX7_in, Cond.code yX7_in cX7_in 6 (some .boolean), Cond.methodLink RX7 208 yX7_kindOf, Cond.instanceMethod yX7_kindOf, Cond.selects RX7 yX7_kindOf yX7_kindOf, Cond.code yX7_kindOf cX7_kindOf 5 (some .int), Cond.methodLink RX7 93 yX7_size, Cond.static yX7_size, Cond.code yX7_size cX7_size 3 (some .int), Cond.methodLink RX7 211 yX7_isOf, Cond.static yX7_isOf, Cond.code yX7_isOf cX7_isOf 2 (some .boolean)]
def wsX7_as_r2 : List Cond := [Cond.methodLink RX7 72 yX7_found, Cond.instanceMethod yX7_found, Cond.selects RX7 yX7_found yX7_found, Cond.code yX7_found cX7_found 2 (some .int), Cond.constant RX7 58 (-1000010)]
def wsX7_as : List Cond := .code yX7_as cX7_as 3 (some .int) :: ((wsX7_as_r1 ++ wsX7_as_r2) ++ wsX70)
def wsX7_began : List Cond := .code yX7_began cX7_began 2 none :: ([.fieldLink RX7 215 "BeepNetModel" "traced" "I", .fieldLink RX7 48 "BeepNetModel" "trace" "[I"] ++ wsX70)
def wsX7_sized_r1 : List Cond := [Cond.fieldLink RX7 19 "BeepNetModel" "beside" "[I", Cond.methodLink RX7 208 yX7_kindOf, Cond.instanceMethod yX7_kindOf, Cond.selects RX7 yX7_kindOf yX7_kindOf, Cond.initialized RX7, Cond.code yX7_kindOf cX7_kindOf 5 (some .int), Cond.fieldLink RX7 76 "BeepNetModel" "posts" "I", Cond.methodLink RX7 93 yX7_size, Cond.static yX7_size, Cond.code yX7_size cX7_size 3 (some .int), Cond.methodLink RX7 218 yX7_began, Cond.instanceMethod yX7_began, Cond.selects RX7 yX7_began yX7_began, Cond.code yX7_began cX7_began 2 none, Cond.fieldLink RX7 215 "BeepNetModel" "traced" "I", Cond.fieldLink RX7 48 "BeepNetModel" "trace" "[I", Cond.methodLink RX7 96 yX7_widthOf, Cond.instanceMethod yX7_widthOf, Cond.selects RX7 yX7_widthOf yX7_widthOf, Cond.code yX7_widthOf cX7_widthOf 4 (some .int), Cond.methodLink RX7 87 yX7_farOf, Cond.instanceMethod yX7_farOf, Cond.selects RX7 yX7_farOf yX7_farOf, Cond.code yX7_farOf cX7_farOf 5 (some .int)]
def wsX7_sized_r2 : List Cond := [Cond.constant RX7 86 (-1000000), Cond.methodLink RX7 83 yX7_around, Cond.instanceMethod yX7_around, Cond.selects RX7 yX7_around yX7_around, Cond.code yX7_around cX7_around 4 (some .int)]
def wsX7_sized : List Cond := .code yX7_sized cX7_sized 4 (some .int) :: ((wsX7_sized_r1 ++ wsX7_sized_r2) ++ wsX70)
def wsX7_marked_r1 : List Cond := [Cond.methodLink RX7 208 yX7_kindOf, Cond.instanceMethod yX7_kindOf, Cond.selects RX7 yX7_kindOf yX7_kindOf, Cond.initialized RX7, Cond.code yX7_kindOf cX7_kindOf 5 (some .int), Cond.fieldLink RX7 19 "BeepNetModel" "beside" "[I", Cond.fieldLink RX7 76 "BeepNetModel" "posts" "I", Cond.methodLink RX7 93 yX7_size, Cond.static yX7_size, Cond.code yX7_size cX7_size 3 (some .int), Cond.methodLink RX7 218 yX7_began, Cond.instanceMethod yX7_began, Cond.selects RX7 yX7_began yX7_began, Cond.code yX7_began cX7_began 2 none, Cond.fieldLink RX7 215 "BeepNetModel" "traced" "I", Cond.fieldLink RX7 48 "BeepNetModel" "trace" "[I", Cond.methodLink RX7 221 yX7_sized, Cond.instanceMethod yX7_sized, Cond.selects RX7 yX7_sized yX7_sized, Cond.code yX7_sized cX7_sized 4 (some .int), Cond.methodLink RX7 96 yX7_widthOf, Cond.instanceMethod yX7_widthOf, Cond.selects RX7 yX7_widthOf yX7_widthOf, Cond.code yX7_widthOf cX7_widthOf 4 (some .int)]
def wsX7_marked_r2 : List Cond := [Cond.methodLink RX7 87 yX7_farOf, Cond.instanceMethod yX7_farOf, Cond.selects RX7 yX7_farOf yX7_farOf, Cond.code yX7_farOf cX7_farOf 5 (some .int), Cond.constant RX7 86 (-1000000), Cond.methodLink RX7 83 yX7_around, Cond.instanceMethod yX7_around, Cond.selects RX7 yX7_around yX7_around, Cond.code yX7_around cX7_around 4 (some .int)]
def wsX7_marked : List Cond := .code yX7_marked cX7_marked 3 (some .int) :: ((wsX7_marked_r1 ++ wsX7_marked_r2) ++ wsX70)
def wsX7_ask_r1 : List Cond := [Cond.fieldLink RX7 51 "BeepNetModel" "thrown" "I", Cond.constant RX7 71 (-1000001), Cond.fieldLink RX7 215 "BeepNetModel" "traced" "I", Cond.methodLink RX7 80 yX7_isPost, Cond.instanceMethod yX7_isPost, Cond.selects RX7 yX7_isPost yX7_isPost, Cond.initialized RX7, Cond.code yX7_isPost cX7_isPost 2 (some .boolean), Cond.fieldLink RX7 76 "BeepNetModel" "posts" "I", Cond.methodLink RX7 61 yX7_in, Cond.static yX7_in, Cond.code yX7_in cX7_in 6 (some .boolean), Cond.methodLink RX7 221 yX7_sized, Cond.instanceMethod yX7_sized, Cond.selects RX7 yX7_sized yX7_sized, Cond.code yX7_sized cX7_sized 4 (some .int), Cond.fieldLink RX7 19 "BeepNetModel" "beside" "[I", Cond.methodLink RX7 208 yX7_kindOf, Cond.instanceMethod yX7_kindOf, Cond.selects RX7 yX7_kindOf yX7_kindOf, Cond.code yX7_kindOf cX7_kindOf 5 (some .int), Cond.methodLink RX7 93 yX7_size, Cond.static yX7_size, Cond.code yX7_size cX7_size 3 (some .int)]
def wsX7_ask_r2 : List Cond := [Cond.methodLink RX7 218 yX7_began, Cond.instanceMethod yX7_began, Cond.selects RX7 yX7_began yX7_began, Cond.code yX7_began cX7_began 2 none, Cond.fieldLink RX7 48 "BeepNetModel" "trace" "[I", Cond.methodLink RX7 96 yX7_widthOf, Cond.instanceMethod yX7_widthOf, Cond.selects RX7 yX7_widthOf yX7_widthOf, Cond.code yX7_widthOf cX7_widthOf 4 (some .int), Cond.methodLink RX7 87 yX7_farOf, Cond.instanceMethod yX7_farOf, Cond.selects RX7 yX7_farOf yX7_farOf, Cond.code yX7_farOf cX7_farOf 5 (some .int), Cond.constant RX7 86 (-1000000), Cond.methodLink RX7 83 yX7_around, Cond.instanceMethod yX7_around, Cond.selects RX7 yX7_around yX7_around, Cond.code yX7_around cX7_around 4 (some .int), Cond.methodLink RX7 224 yX7_marked, Cond.instanceMethod yX7_marked, Cond.selects RX7 yX7_marked yX7_marked, Cond.code yX7_marked cX7_marked 3 (some .int)]
def wsX7_ask : List Cond := .code yX7_ask cX7_ask 3 (some .int) :: ((wsX7_ask_r1 ++ wsX7_ask_r2) ++ wsX70)
def wsX7_trace : List Cond := .code yX7_trace cX7_trace 2 (some .int) :: ([.fieldLink RX7 51 "BeepNetModel" "thrown" "I", .fieldLink RX7 215 "BeepNetModel" "traced" "I", .fieldLink RX7 48 "BeepNetModel" "trace" "[I", .constant RX7 86 (-1000000), .methodLink RX7 61 yX7_in, .static yX7_in, .initialized RX7, .code yX7_in cX7_in 6 (some .boolean)] ++ wsX70)
def wsX7_count : List Cond := .code yX7_count cX7_count 4 (some .int) :: ([.fieldLink RX7 51 "BeepNetModel" "thrown" "I", .fieldLink RX7 7 "BeepNetModel" "lane" "[I", .fieldLink RX7 76 "BeepNetModel" "posts" "I", .fieldLink RX7 19 "BeepNetModel" "beside" "[I", .fieldLink RX7 187 "BeepNetModel" "rounds" "I", .fieldLink RX7 121 "BeepNetModel" "taped" "I", .constant RX7 71 (-1000001), .methodLink RX7 93 yX7_size, .static yX7_size, .initialized RX7, .code yX7_size cX7_size 3 (some .int), .methodLink RX7 208 yX7_kindOf, .instanceMethod yX7_kindOf, .selects RX7 yX7_kindOf yX7_kindOf, .code yX7_kindOf cX7_kindOf 5 (some .int)] ++ wsX70)
def wsX7_status : List Cond := .code yX7_status cX7_status 1 (some .int) :: ([.fieldLink RX7 51 "BeepNetModel" "thrown" "I", .fieldLink RX7 55 "BeepNetModel" "status" "I"] ++ wsX70)
def wsJ9_max_7cf53 : List Cond := .code yJ9_max_7cf53 cJ9_max_7cf53 2 (some .int) :: ([])
def wsJ9_min_7cf53 : List Cond := .code yJ9_min_7cf53 cJ9_min_7cf53 2 (some .int) :: ([])
def wsL_law_r1 : List Cond := [Cond.classLink RL 7 RX6, Cond.instantiable RX6 8, Cond.initialized RX6, Cond.classLink RL 10 RX7, Cond.instantiable RX7 28, Cond.initialized RX7, Cond.constantLong RL 62 (4294967295), Cond.methodLink RL 9 yX6_init, Cond.instanceMethod yX6_init, Cond.code yX6_init cX6_init 1 none, Cond.methodLink RX6 1 objectInit, Cond.instanceMethod objectInit, Cond.code objectInit ⟨#[0xb1]⟩ 1 none, Cond.classLink RX6 7 RX4, Cond.instantiable RX4 3, Cond.initialized RX4, Cond.fieldLink RX6 10 "BeepNet" "sheets" "LBeepNet$Sheets;", Cond.classLink RX6 16 RX1, Cond.instantiable RX1 2, Cond.initialized RX1, Cond.fieldLink RX6 19 "BeepNet" "net" "LBeepNet$Net;", Cond.classLink RX6 23 RX2, Cond.instantiable RX2 8, Cond.initialized RX2]
def wsL_law_r2 : List Cond := [Cond.fieldLink RX6 26 "BeepNet" "reader" "LBeepNet$Reader;", Cond.classLink RX6 30 RX5, Cond.instantiable RX5 2, Cond.initialized RX5, Cond.fieldLink RX6 33 "BeepNet" "timetable" "LBeepNet$Timetable;", Cond.classLink RX6 37 RX3, Cond.instantiable RX3 4, Cond.initialized RX3, Cond.fieldLink RX6 40 "BeepNet" "search" "LBeepNet$Search;", Cond.classLink RX6 44 RX0, Cond.instantiable RX0 3, Cond.initialized RX0, Cond.fieldLink RX6 49 "BeepNet" "asks" "LBeepNet$Asks;", Cond.methodLink RX6 9 yX4_init, Cond.instanceMethod yX4_init, Cond.code yX4_init cX4_init 1 none, Cond.methodLink RX4 3 objectInit, Cond.arrayClass .int, Cond.fieldLink RX4 9 "BeepNet$Sheets" "lanes" "[I", Cond.fieldLink RX4 15 "BeepNet$Sheets" "sizes" "[I", Cond.classLink RX4 18 "[[I", Cond.fieldLink RX4 20 "BeepNet$Sheets" "items" "[[I", Cond.methodLink RX4 23 yJ7_fill_53178, Cond.static yJ7_fill_53178]
def wsL_law_r3 : List Cond := [Cond.initialized RJ7, Cond.code yJ7_fill_53178 cJ7_fill_53178 4 none, Cond.instanceMethod yX1_init, Cond.code yX1_init cX1_init 1 none, Cond.methodLink RX1 3 objectInit, Cond.fieldLink RX1 9 "BeepNet$Net" "neighbours" "[I", Cond.instanceMethod yX2_init, Cond.code yX2_init cX2_init 1 none, Cond.methodLink RX2 3 objectInit, Cond.fieldLink RX2 9 "BeepNet$Reader" "tape" "[I", Cond.fieldLink RX2 15 "BeepNet$Reader" "rounds" "[I", Cond.instanceMethod yX5_init, Cond.code yX5_init cX5_init 1 none, Cond.methodLink RX5 3 objectInit, Cond.fieldLink RX5 9 "BeepNet$Timetable" "rounds" "[I", Cond.instanceMethod yX3_init, Cond.code yX3_init cX3_init 1 none, Cond.methodLink RX3 3 objectInit, Cond.fieldLink RX3 9 "BeepNet$Search" "heard" "[I", Cond.fieldLink RX3 15 "BeepNet$Search" "fewest" "[I", Cond.fieldLink RX3 18 "BeepNet$Search" "spent" "[I", Cond.arrayClass .long, Cond.fieldLink RX3 21 "BeepNet$Search" "cases" "[J", Cond.methodLink RX6 46 yX0_init]
def wsL_law_r4 : List Cond := [Cond.instanceMethod yX0_init, Cond.code yX0_init cX0_init 2 none, Cond.methodLink RX0 3 objectInit, Cond.fieldLink RX0 9 "BeepNet$Asks" "begun" "[I", Cond.fieldLink RX0 15 "BeepNet$Asks" "net" "LBeepNet$Net;", Cond.methodLink RL 12 yX7_init, Cond.instanceMethod yX7_init, Cond.code yX7_init cX7_init 1 none, Cond.methodLink RX7 1 objectInit, Cond.fieldLink RX7 7 "BeepNetModel" "lane" "[I", Cond.fieldLink RX7 13 "BeepNetModel" "many" "[I", Cond.fieldLink RX7 16 "BeepNetModel" "item" "[I", Cond.fieldLink RX7 19 "BeepNetModel" "beside" "[I", Cond.fieldLink RX7 22 "BeepNetModel" "round" "[I", Cond.fieldLink RX7 25 "BeepNetModel" "reads" "[I", Cond.fieldLink RX7 28 "BeepNetModel" "tape" "[I", Cond.fieldLink RX7 31 "BeepNetModel" "fewest" "[I", Cond.arrayClass .boolean, Cond.fieldLink RX7 34 "BeepNetModel" "may" "[Z", Cond.fieldLink RX7 38 "BeepNetModel" "then" "[Z", Cond.fieldLink RX7 41 "BeepNetModel" "cases" "[J", Cond.fieldLink RX7 45 "BeepNetModel" "next" "[J", Cond.fieldLink RX7 48 "BeepNetModel" "trace" "[I", Cond.methodLink RL 13 yX6_sheet]
def wsL_law_r5 : List Cond := [Cond.instanceMethod yX6_sheet, Cond.selects RX6 yX6_sheet yX6_sheet, Cond.code yX6_sheet cX6_sheet 4 (some .int), Cond.constant RX6 57 (-1000001), Cond.fieldLink RX6 58 "BeepNet" "latestFinding" "I", Cond.constant RX6 62 (-1000010), Cond.methodLink RX6 53 yX6_isSheet, Cond.static yX6_isSheet, Cond.code yX6_isSheet cX6_isSheet 1 (some .boolean), Cond.methodLink RX6 63 yX4_begin, Cond.instanceMethod yX4_begin, Cond.selects RX4 yX4_begin yX4_begin, Cond.code yX4_begin cX4_begin 4 none, Cond.methodLink RL 17 yX7_sheet, Cond.instanceMethod yX7_sheet, Cond.selects RX7 yX7_sheet yX7_sheet, Cond.code yX7_sheet cX7_sheet 5 (some .int), Cond.fieldLink RX7 51 "BeepNetModel" "thrown" "I", Cond.constantLong RX7 69 (2), Cond.constant RX7 71 (-1000001), Cond.fieldLink RX7 55 "BeepNetModel" "status" "I", Cond.methodLink RX7 65 yX7_isSheet, Cond.static yX7_isSheet, Cond.code yX7_isSheet cX7_isSheet 1 (some .boolean)]
def wsL_law_r6 : List Cond := [Cond.constantLong RX7 59 (7), Cond.methodLink RX7 61 yX7_in, Cond.static yX7_in, Cond.code yX7_in cX7_in 6 (some .boolean), Cond.methodLink RX7 72 yX7_found, Cond.instanceMethod yX7_found, Cond.selects RX7 yX7_found yX7_found, Cond.code yX7_found cX7_found 2 (some .int), Cond.constant RX7 58 (-1000010), Cond.methodLink RL 18 yX6_set, Cond.instanceMethod yX6_set, Cond.selects RX6 yX6_set yX6_set, Cond.code yX6_set cX6_set 4 (some .int), Cond.methodLink RX6 67 yX4_findPlaces, Cond.instanceMethod yX4_findPlaces, Cond.selects RX4 yX4_findPlaces yX4_findPlaces, Cond.code yX4_findPlaces cX4_findPlaces 4 (some .int), Cond.methodLink RX4 29 yX4_isMissing, Cond.instanceMethod yX4_isMissing, Cond.selects RX4 yX4_isMissing yX4_isMissing, Cond.code yX4_isMissing cX4_isMissing 2 (some .boolean), Cond.methodLink RX4 33 yX4_hasPlaces, Cond.instanceMethod yX4_hasPlaces, Cond.selects RX4 yX4_hasPlaces yX4_hasPlaces]
def wsL_law_r7 : List Cond := [Cond.code yX4_hasPlaces cX4_hasPlaces 4 (some .boolean), Cond.methodLink RX6 71 yX4_put, Cond.instanceMethod yX4_put, Cond.selects RX4 yX4_put yX4_put, Cond.code yX4_put cX4_put 4 (some .int), Cond.methodLink RX4 37 yX4_narrowed, Cond.static yX4_narrowed, Cond.code yX4_narrowed cX4_narrowed 2 (some .int), Cond.methodLink RL 21 yX7_set, Cond.instanceMethod yX7_set, Cond.selects RX7 yX7_set yX7_set, Cond.code yX7_set cX7_set 4 (some .int), Cond.methodLink RL 22 yX6_copy, Cond.instanceMethod yX6_copy, Cond.selects RX6 yX6_copy yX6_copy, Cond.code yX6_copy cX6_copy 6 (some .int), Cond.methodLink RX6 74 yX4_findMove, Cond.instanceMethod yX4_findMove, Cond.selects RX4 yX4_findMove yX4_findMove, Cond.code yX4_findMove cX4_findMove 6 (some .int), Cond.methodLink RX6 78 yX4_move, Cond.instanceMethod yX4_move, Cond.selects RX4 yX4_move yX4_move, Cond.code yX4_move cX4_move 6 none]
def wsL_law_r8 : List Cond := [Cond.methodLink RX4 41 arraycopyName, Cond.native arraycopyName, Cond.static arraycopyName, Cond.initialized "java/lang/System", Cond.methodLink RL 26 yX7_copy, Cond.instanceMethod yX7_copy, Cond.selects RX7 yX7_copy yX7_copy, Cond.code yX7_copy cX7_copy 9 (some .int), Cond.methodLink RL 27 yX6_drop, Cond.instanceMethod yX6_drop, Cond.selects RX6 yX6_drop yX6_drop, Cond.code yX6_drop cX6_drop 2 (some .int), Cond.methodLink RX6 82 yX4_isMissing, Cond.methodLink RX6 85 yX4_remove, Cond.instanceMethod yX4_remove, Cond.selects RX4 yX4_remove yX4_remove, Cond.code yX4_remove cX4_remove 2 (some .int), Cond.methodLink RL 31 yX7_drop, Cond.instanceMethod yX7_drop, Cond.selects RX7 yX7_drop yX7_drop, Cond.code yX7_drop cX7_drop 2 (some .int), Cond.methodLink RL 32 yX6_post, Cond.instanceMethod yX6_post, Cond.selects RX6 yX6_post yX6_post]
def wsL_law_r9 : List Cond := [Cond.code yX6_post cX6_post 1 (some .int), Cond.constant RX6 93 (-1000003), Cond.methodLink RX6 89 yX1_isFull, Cond.instanceMethod yX1_isFull, Cond.selects RX1 yX1_isFull yX1_isFull, Cond.code yX1_isFull cX1_isFull 1 (some .boolean), Cond.fieldLink RX1 15 "BeepNet$Net" "posts" "I", Cond.methodLink RX6 94 yX1_add, Cond.instanceMethod yX1_add, Cond.selects RX1 yX1_add yX1_add, Cond.code yX1_add cX1_add 1 (some .int), Cond.methodLink RL 36 yX7_post, Cond.instanceMethod yX7_post, Cond.selects RX7 yX7_post yX7_post, Cond.code yX7_post cX7_post 1 (some .int), Cond.fieldLink RX7 76 "BeepNetModel" "posts" "I", Cond.constant RX7 79 (-1000003), Cond.methodLink RL 37 yX6_join, Cond.instanceMethod yX6_join, Cond.selects RX6 yX6_join yX6_join, Cond.code yX6_join cX6_join 3 (some .int), Cond.methodLink RX6 98 yX6_isPair, Cond.instanceMethod yX6_isPair, Cond.selects RX6 yX6_isPair yX6_isPair]
def wsL_law_r10 : List Cond := [Cond.code yX6_isPair cX6_isPair 3 (some .boolean), Cond.methodLink RX6 109 yX1_hasPost, Cond.instanceMethod yX1_hasPost, Cond.selects RX1 yX1_hasPost yX1_hasPost, Cond.code yX1_hasPost cX1_hasPost 2 (some .boolean), Cond.methodLink RX6 102 yX1_isLinked, Cond.instanceMethod yX1_isLinked, Cond.selects RX1 yX1_isLinked yX1_isLinked, Cond.code yX1_isLinked cX1_isLinked 3 (some .boolean), Cond.methodLink RX6 105 yX1_toggle, Cond.instanceMethod yX1_toggle, Cond.selects RX1 yX1_toggle yX1_toggle, Cond.code yX1_toggle cX1_toggle 3 (some .int), Cond.methodLink RL 41 yX7_join, Cond.instanceMethod yX7_join, Cond.selects RX7 yX7_join yX7_join, Cond.code yX7_join cX7_join 4 (some .int), Cond.methodLink RX7 80 yX7_isPost, Cond.instanceMethod yX7_isPost, Cond.selects RX7 yX7_isPost yX7_isPost, Cond.code yX7_isPost cX7_isPost 2 (some .boolean), Cond.methodLink RL 42 yX6_part, Cond.instanceMethod yX6_part, Cond.selects RX6 yX6_part yX6_part]
def wsL_law_r11 : List Cond := [Cond.code yX6_part cX6_part 3 (some .int), Cond.methodLink RL 45 yX7_part, Cond.instanceMethod yX7_part, Cond.selects RX7 yX7_part yX7_part, Cond.code yX7_part cX7_part 4 (some .int), Cond.methodLink RL 46 yX6_far, Cond.instanceMethod yX6_far, Cond.selects RX6 yX6_far yX6_far, Cond.code yX6_far cX6_far 3 (some .int), Cond.methodLink RX6 112 yX1_stepsBetween, Cond.instanceMethod yX1_stepsBetween, Cond.selects RX1 yX1_stepsBetween yX1_stepsBetween, Cond.code yX1_stepsBetween cX1_stepsBetween 5 (some .int), Cond.constant RX1 35 (-1000000), Cond.methodLink RX1 32 yX1_oneStepFrom, Cond.instanceMethod yX1_oneStepFrom, Cond.selects RX1 yX1_oneStepFrom yX1_oneStepFrom, Cond.code yX1_oneStepFrom cX1_oneStepFrom 4 (some .int), Cond.methodLink RL 49 yX7_far, Cond.instanceMethod yX7_far, Cond.selects RX7 yX7_far yX7_far, Cond.code yX7_far cX7_far 3 (some .int), Cond.methodLink RX7 87 yX7_farOf, Cond.instanceMethod yX7_farOf]
def wsL_law_r12 : List Cond := [Cond.selects RX7 yX7_farOf yX7_farOf, Cond.code yX7_farOf cX7_farOf 5 (some .int), Cond.constant RX7 86 (-1000000), Cond.methodLink RX7 83 yX7_around, Cond.instanceMethod yX7_around, Cond.selects RX7 yX7_around yX7_around, Cond.code yX7_around cX7_around 4 (some .int), Cond.methodLink RL 50 yX6_told, Cond.instanceMethod yX6_told, Cond.selects RX6 yX6_told yX6_told, Cond.code yX6_told cX6_told 3 (some .int), Cond.methodLink RX6 115 yX1_degree, Cond.instanceMethod yX1_degree, Cond.selects RX1 yX1_degree yX1_degree, Cond.code yX1_degree cX1_degree 2 (some .int), Cond.methodLink RX1 23 yJ6_bitCount_0f7a4, Cond.static yJ6_bitCount_0f7a4, Cond.initialized RJ6, Cond.code yJ6_bitCount_0f7a4 cJ6_bitCount_0f7a4 1 (some .int), Cond.constant RJ6 265 (1431655765), Cond.constant RJ6 266 (858993459), Cond.constant RJ6 267 (252645135), Cond.methodLink RX6 118 yX1_neighboursOf, Cond.instanceMethod yX1_neighboursOf]
def wsL_law_r13 : List Cond := [Cond.selects RX1 yX1_neighboursOf yX1_neighboursOf, Cond.code yX1_neighboursOf cX1_neighboursOf 2 (some .int), Cond.methodLink RX6 121 yX1_width, Cond.instanceMethod yX1_width, Cond.selects RX1 yX1_width yX1_width, Cond.code yX1_width cX1_width 6 (some .int), Cond.methodLink RX6 124 yX1_reachOf, Cond.instanceMethod yX1_reachOf, Cond.selects RX1 yX1_reachOf yX1_reachOf, Cond.code yX1_reachOf cX1_reachOf 4 (some .int), Cond.methodLink RL 53 yX7_told, Cond.instanceMethod yX7_told, Cond.selects RX7 yX7_told yX7_told, Cond.code yX7_told cX7_told 3 (some .int), Cond.constantLong RX7 91 (3), Cond.methodLink RX7 93 yX7_size, Cond.static yX7_size, Cond.code yX7_size cX7_size 3 (some .int), Cond.methodLink RX7 96 yX7_widthOf, Cond.instanceMethod yX7_widthOf, Cond.selects RX7 yX7_widthOf yX7_widthOf, Cond.code yX7_widthOf cX7_widthOf 4 (some .int), Cond.methodLink RX7 99 yX7_reach, Cond.instanceMethod yX7_reach]
def wsL_law_r14 : List Cond := [Cond.selects RX7 yX7_reach yX7_reach, Cond.code yX7_reach cX7_reach 4 (some .int), Cond.methodLink RL 54 yX6_hears, Cond.instanceMethod yX6_hears, Cond.selects RX6 yX6_hears yX6_hears, Cond.code yX6_hears cX6_hears 3 (some .int), Cond.methodLink RX6 127 yX6_isHearing, Cond.static yX6_isHearing, Cond.code yX6_isHearing cX6_isHearing 1 (some .boolean), Cond.methodLink RX6 130 yX1_hasSet, Cond.instanceMethod yX1_hasSet, Cond.selects RX1 yX1_hasSet yX1_hasSet, Cond.code yX1_hasSet cX1_hasSet 2 (some .boolean), Cond.methodLink RX1 19 yX1_allPosts, Cond.instanceMethod yX1_allPosts, Cond.selects RX1 yX1_allPosts yX1_allPosts, Cond.code yX1_allPosts cX1_allPosts 1 (some .int), Cond.methodLink RX6 133 yX1_heardBy, Cond.instanceMethod yX1_heardBy, Cond.selects RX1 yX1_heardBy yX1_heardBy, Cond.code yX1_heardBy cX1_heardBy 6 (some .int), Cond.methodLink RL 57 yX7_hears, Cond.instanceMethod yX7_hears, Cond.selects RX7 yX7_hears yX7_hears]
def wsL_law_r15 : List Cond := [Cond.code yX7_hears cX7_hears 3 (some .int), Cond.methodLink RX7 109 yX7_isHearing, Cond.static yX7_isHearing, Cond.code yX7_isHearing cX7_isHearing 1 (some .boolean), Cond.methodLink RX7 112 yX7_isSet, Cond.instanceMethod yX7_isSet, Cond.selects RX7 yX7_isSet yX7_isSet, Cond.code yX7_isSet cX7_isSet 2 (some .boolean), Cond.methodLink RX7 102 yX7_all, Cond.instanceMethod yX7_all, Cond.selects RX7 yX7_all yX7_all, Cond.code yX7_all cX7_all 1 (some .int), Cond.methodLink RX7 106 yX7_hearing, Cond.instanceMethod yX7_hearing, Cond.selects RX7 yX7_hearing yX7_hearing, Cond.code yX7_hearing cX7_hearing 6 (some .int), Cond.methodLink RL 58 yX6_spreads, Cond.instanceMethod yX6_spreads, Cond.selects RX6 yX6_spreads yX6_spreads, Cond.code yX6_spreads cX6_spreads 4 (some .int), Cond.methodLink RX6 136 yX1_knowAfter, Cond.instanceMethod yX1_knowAfter, Cond.selects RX1 yX1_knowAfter yX1_knowAfter, Cond.code yX1_knowAfter cX1_knowAfter 4 (some .int)]
def wsL_law_r16 : List Cond := [Cond.methodLink RX1 36 yX1_heardBy, Cond.methodLink RL 61 yX7_spreads, Cond.instanceMethod yX7_spreads, Cond.selects RX7 yX7_spreads yX7_spreads, Cond.code yX7_spreads cX7_spreads 4 (some .int), Cond.methodLink RX7 115 yX7_spread, Cond.instanceMethod yX7_spread, Cond.selects RX7 yX7_spread yX7_spread, Cond.code yX7_spread cX7_spread 4 (some .int), Cond.methodLink RL 64 yX6_feed, Cond.instanceMethod yX6_feed, Cond.selects RX6 yX6_feed yX6_feed, Cond.code yX6_feed cX6_feed 4 (some .int), Cond.methodLink RX6 139 yX2_hasRoom, Cond.instanceMethod yX2_hasRoom, Cond.selects RX2 yX2_hasRoom yX2_hasRoom, Cond.code yX2_hasRoom cX2_hasRoom 2 (some .boolean), Cond.fieldLink RX2 18 "BeepNet$Reader" "length" "I", Cond.methodLink RX6 142 yX2_take, Cond.instanceMethod yX2_take, Cond.selects RX2 yX2_take yX2_take, Cond.code yX2_take cX2_take 5 (some .int), Cond.constantLong RX2 22 (255), Cond.methodLink RL 68 yX7_feed]
def wsL_law_r17 : List Cond := [Cond.instanceMethod yX7_feed, Cond.selects RX7 yX7_feed yX7_feed, Cond.code yX7_feed cX7_feed 5 (some .int), Cond.constantLong RX7 119 (8), Cond.fieldLink RX7 121 "BeepNetModel" "taped" "I", Cond.constantLong RX7 124 (255), Cond.methodLink RL 69 yX6_schedule, Cond.instanceMethod yX6_schedule, Cond.selects RX6 yX6_schedule yX6_schedule, Cond.code yX6_schedule cX6_schedule 2 (some .int), Cond.fieldLink RX6 152 "BeepNet" "latestFault" "I", Cond.constant RX6 155 (-1000100), Cond.methodLink RX6 146 yX1_size, Cond.instanceMethod yX1_size, Cond.selects RX1 yX1_size yX1_size, Cond.code yX1_size cX1_size 1 (some .int), Cond.methodLink RX6 149 yX2_read, Cond.instanceMethod yX2_read, Cond.selects RX2 yX2_read yX2_read, Cond.code yX2_read cX2_read 4 (some .int), Cond.fieldLink RX2 24 "BeepNet$Reader" "roundsRead" "I", Cond.fieldLink RX2 36 "BeepNet$Reader" "behind" "I", Cond.fieldLink RX2 42 "BeepNet$Reader" "token" "I", Cond.methodLink RX2 39 yX2_advance]
def wsL_law_r18 : List Cond := [Cond.instanceMethod yX2_advance, Cond.selects RX2 yX2_advance yX2_advance, Cond.code yX2_advance cX2_advance 1 none, Cond.fieldLink RX2 33 "BeepNet$Reader" "start" "I", Cond.methodLink RX2 62 yX2_isLetter, Cond.static yX2_isLetter, Cond.code yX2_isLetter cX2_isLetter 1 (some .boolean), Cond.methodLink RX2 66 yX2_advanceName, Cond.instanceMethod yX2_advanceName, Cond.selects RX2 yX2_advanceName yX2_advanceName, Cond.code yX2_advanceName cX2_advanceName 1 none, Cond.methodLink RX2 77 yX2_isWord, Cond.instanceMethod yX2_isWord, Cond.selects RX2 yX2_isWord yX2_isWord, Cond.code yX2_isWord cX2_isWord 3 (some .boolean), Cond.methodLink RX2 85 yJ0_length_8abf5, Cond.instanceMethod yJ0_length_8abf5, Cond.selects RJ0 yJ0_length_8abf5 yJ0_length_8abf5, Cond.initialized RJ0, Cond.code yJ0_length_8abf5 cJ0_length_8abf5 1 (some .int), Cond.fieldLink RJ0 9 "java/lang/String" "value" "[B", Cond.methodLink RJ0 335 yJ0_coder_7d493, Cond.instanceMethod yJ0_coder_7d493, Cond.selects RJ0 yJ0_coder_7d493 yJ0_coder_7d493]
def wsL_law_r19 : List Cond := [Cond.code yJ0_coder_7d493 cJ0_coder_7d493 1 (some .byte), Cond.fieldLink RJ0 38 "java/lang/String" "COMPACT_STRINGS" "Z", Cond.fieldLink RJ0 15 "java/lang/String" "coder" "B", Cond.methodLink RX2 89 yJ0_charAt_5068e, Cond.instanceMethod yJ0_charAt_5068e, Cond.selects RJ0 yJ0_charAt_5068e yJ0_charAt_5068e, Cond.code yJ0_charAt_5068e cJ0_charAt_5068e 2 (some .char), Cond.methodLink RJ0 492 yJ0_isLatin1_aae02, Cond.instanceMethod yJ0_isLatin1_aae02, Cond.selects RJ0 yJ0_isLatin1_aae02 yJ0_isLatin1_aae02, Cond.code yJ0_isLatin1_aae02 cJ0_isLatin1_aae02 1 (some .boolean), Cond.methodLink RJ0 495 yJ1_charAt_3b067, Cond.static yJ1_charAt_3b067, Cond.initialized RJ1, Cond.code yJ1_charAt_3b067 cJ1_charAt_3b067 2 (some .char), Cond.methodLink RJ1 9 yJ0_checkIndex_df160, Cond.static yJ0_checkIndex_df160, Cond.code yJ0_checkIndex_df160 cJ0_checkIndex_df160 2 none, Cond.fieldLink RJ0 1053 "jdk/internal/util/Preconditions" "SIOOBE_FORMATTER" "Ljava/util/function/BiFunction;", Cond.methodLink RJ0 1059 yJ3_checkIndex_8e157, Cond.static yJ3_checkIndex_8e157, Cond.initialized RJ3, Cond.code yJ3_checkIndex_8e157 cJ3_checkIndex_8e157 3 (some .int), Cond.methodLink RJ0 498 yJ2_charAt_3b067]
def wsL_law_r20 : List Cond := [Cond.static yJ2_charAt_3b067, Cond.initialized RJ2, Cond.code yJ2_charAt_3b067 cJ2_charAt_3b067 2 (some .char), Cond.methodLink RJ2 67 yJ2_checkIndex_2214a, Cond.static yJ2_checkIndex_2214a, Cond.code yJ2_checkIndex_2214a cJ2_checkIndex_2214a 2 none, Cond.methodLink RJ2 48 yJ2_length_9d52b, Cond.static yJ2_length_9d52b, Cond.code yJ2_length_9d52b cJ2_length_9d52b 1 (some .int), Cond.methodLink RJ2 414 yJ0_checkIndex_df160, Cond.methodLink RJ2 71 yJ2_getChar_3b067, Cond.static yJ2_getChar_3b067, Cond.code yJ2_getChar_3b067 cJ2_getChar_3b067 2 (some .char), Cond.fieldLink RJ2 44 "java/lang/StringUTF16" "$assertionsDisabled" "Z", Cond.fieldLink RJ2 59 "java/lang/StringUTF16" "HI_BYTE_SHIFT" "I", Cond.fieldLink RJ2 63 "java/lang/StringUTF16" "LO_BYTE_SHIFT" "I", Cond.methodLink RX2 69 yX2_isFigure, Cond.static yX2_isFigure, Cond.code yX2_isFigure cX2_isFigure 1 (some .boolean), Cond.methodLink RX2 72 yX2_advanceNumber, Cond.instanceMethod yX2_advanceNumber, Cond.selects RX2 yX2_advanceNumber yX2_advanceNumber, Cond.code yX2_advanceNumber cX2_advanceNumber 1 none, Cond.fieldLink RX2 59 "BeepNet$Reader" "number" "I"]
def wsL_law_r21 : List Cond := [Cond.methodLink RX2 45 yX2_readRound, Cond.instanceMethod yX2_readRound, Cond.selects RX2 yX2_readRound yX2_readRound, Cond.code yX2_readRound cX2_readRound 4 (some .int), Cond.methodLink RX2 49 yX2_faultOfWord, Cond.instanceMethod yX2_faultOfWord, Cond.selects RX2 yX2_faultOfWord yX2_faultOfWord, Cond.code yX2_faultOfWord cX2_faultOfWord 1 (some .int), Cond.methodLink RX2 53 yX2_soundsAtWord, Cond.instanceMethod yX2_soundsAtWord, Cond.selects RX2 yX2_soundsAtWord yX2_soundsAtWord, Cond.code yX2_soundsAtWord cX2_soundsAtWord 2 (some .int), Cond.methodLink RX2 56 yX2_readNumbers, Cond.instanceMethod yX2_readNumbers, Cond.selects RX2 yX2_readNumbers yX2_readNumbers, Cond.code yX2_readNumbers cX2_readNumbers 3 (some .int), Cond.methodLink RX6 156 yX2_tokenPlace, Cond.instanceMethod yX2_tokenPlace, Cond.selects RX2 yX2_tokenPlace yX2_tokenPlace, Cond.code yX2_tokenPlace cX2_tokenPlace 1 (some .int), Cond.methodLink RX6 159 yX5_become, Cond.instanceMethod yX5_become, Cond.selects RX5 yX5_become yX5_become, Cond.code yX5_become cX5_become 2 none]
def wsL_law_r22 : List Cond := [Cond.fieldLink RX5 15 "BeepNet$Timetable" "size" "I", Cond.methodLink RX5 19 yX2_giveRounds, Cond.instanceMethod yX2_giveRounds, Cond.selects RX2 yX2_giveRounds yX2_giveRounds, Cond.code yX2_giveRounds cX2_giveRounds 2 (some .int), Cond.methodLink RX2 27 arraycopyName, Cond.methodLink RX6 163 yX5_size, Cond.instanceMethod yX5_size, Cond.selects RX5 yX5_size yX5_size, Cond.code yX5_size cX5_size 1 (some .int), Cond.methodLink RL 72 yX7_schedule, Cond.instanceMethod yX7_schedule, Cond.selects RX7 yX7_schedule yX7_schedule, Cond.code yX7_schedule cX7_schedule 2 (some .int), Cond.fieldLink RX7 126 "BeepNetModel" "length" "I", Cond.fieldLink RX7 129 "BeepNetModel" "at" "I", Cond.fieldLink RX7 150 "BeepNetModel" "fault" "I", Cond.fieldLink RX7 173 "BeepNetModel" "read" "I", Cond.fieldLink RX7 138 "BeepNetModel" "sort" "I", Cond.fieldLink RX7 183 "BeepNetModel" "latest" "I", Cond.constant RX7 186 (-1000100), Cond.fieldLink RX7 153 "BeepNetModel" "faultAt" "I", Cond.fieldLink RX7 187 "BeepNetModel" "rounds" "I", Cond.methodLink RX7 160 yX7_step]
def wsL_law_r23 : List Cond := [Cond.instanceMethod yX7_step, Cond.selects RX7 yX7_step yX7_step, Cond.code yX7_step cX7_step 2 none, Cond.fieldLink RX7 135 "BeepNetModel" "from" "I", Cond.fieldLink RX7 147 "BeepNetModel" "till" "I", Cond.methodLink RX7 132 yX7_byteAt, Cond.instanceMethod yX7_byteAt, Cond.selects RX7 yX7_byteAt yX7_byteAt, Cond.code yX7_byteAt cX7_byteAt 2 (some .int), Cond.methodLink RX7 141 yX7_isLetter, Cond.static yX7_isLetter, Cond.code yX7_isLetter cX7_isLetter 1 (some .boolean), Cond.methodLink RX7 144 yX7_isFigure, Cond.static yX7_isFigure, Cond.code yX7_isFigure cX7_isFigure 1 (some .boolean), Cond.methodLink RX7 180 yX7_readRound, Cond.instanceMethod yX7_readRound, Cond.selects RX7 yX7_readRound yX7_readRound, Cond.code yX7_readRound cX7_readRound 7 none, Cond.constantLong RX7 167 (491496238692), Cond.constantLong RX7 169 (6384748), Cond.constantLong RX7 171 (500219601765), Cond.methodLink RX7 163 yX7_word, Cond.instanceMethod yX7_word]
def wsL_law_r24 : List Cond := [Cond.selects RX7 yX7_word yX7_word, Cond.code yX7_word cX7_word 4 (some .long), Cond.methodLink RX7 156 yX7_bad, Cond.instanceMethod yX7_bad, Cond.selects RX7 yX7_bad yX7_bad, Cond.code yX7_bad cX7_bad 2 none, Cond.methodLink RX7 176 yX7_need, Cond.instanceMethod yX7_need, Cond.selects RX7 yX7_need yX7_need, Cond.code yX7_need cX7_need 2 none, Cond.methodLink RL 73 yX6_fault, Cond.instanceMethod yX6_fault, Cond.selects RX6 yX6_fault yX6_fault, Cond.code yX6_fault cX6_fault 1 (some .int), Cond.methodLink RL 76 yX7_fault, Cond.instanceMethod yX7_fault, Cond.selects RX7 yX7_fault yX7_fault, Cond.code yX7_fault cX7_fault 1 (some .int), Cond.methodLink RL 77 yX6_round, Cond.instanceMethod yX6_round, Cond.selects RX6 yX6_round yX6_round, Cond.code yX6_round cX6_round 2 (some .int), Cond.constant RX6 173 (-1000000), Cond.methodLink RX6 164 yX5_hasRound]
def wsL_law_r25 : List Cond := [Cond.instanceMethod yX5_hasRound, Cond.selects RX5 yX5_hasRound yX5_hasRound, Cond.code yX5_hasRound cX5_hasRound 2 (some .boolean), Cond.methodLink RX6 167 yX1_allPosts, Cond.methodLink RX6 170 yX5_soundsIn, Cond.instanceMethod yX5_soundsIn, Cond.selects RX5 yX5_soundsIn yX5_soundsIn, Cond.code yX5_soundsIn cX5_soundsIn 3 (some .int), Cond.methodLink RL 80 yX7_round, Cond.instanceMethod yX7_round, Cond.selects RX7 yX7_round yX7_round, Cond.code yX7_round cX7_round 2 (some .int), Cond.methodLink RX7 190 yX7_soundsIn, Cond.instanceMethod yX7_soundsIn, Cond.selects RX7 yX7_soundsIn yX7_soundsIn, Cond.code yX7_soundsIn cX7_soundsIn 2 (some .int), Cond.methodLink RL 81 yX6_run, Cond.instanceMethod yX6_run, Cond.selects RX6 yX6_run yX6_run, Cond.code yX6_run cX6_run 6 (some .int), Cond.constant RX6 174 (-1000002), Cond.methodLink RX6 175 yX5_soundsOverAndOver, Cond.instanceMethod yX5_soundsOverAndOver, Cond.selects RX5 yX5_soundsOverAndOver yX5_soundsOverAndOver]
def wsL_law_r26 : List Cond := [Cond.code yX5_soundsOverAndOver cX5_soundsOverAndOver 3 (some .int), Cond.methodLink RX5 25 yX5_soundsIn, Cond.methodLink RL 84 yX7_run, Cond.instanceMethod yX7_run, Cond.selects RX7 yX7_run yX7_run, Cond.code yX7_run cX7_run 6 (some .int), Cond.constantLong RX7 193 (60), Cond.constant RX7 195 (-1000002), Cond.methodLink RL 85 yX6_least, Cond.instanceMethod yX6_least, Cond.selects RX6 yX6_least yX6_least, Cond.code yX6_least cX6_least 4 (some .int), Cond.methodLink RX6 178 yX3_listen, Cond.instanceMethod yX3_listen, Cond.selects RX3 yX3_listen yX3_listen, Cond.code yX3_listen cX3_listen 4 none, Cond.methodLink RX3 25 yX1_allPosts, Cond.methodLink RX3 31 yX1_heardBy, Cond.methodLink RX6 182 yX3_findFewest, Cond.instanceMethod yX3_findFewest, Cond.selects RX3 yX3_findFewest yX3_findFewest, Cond.code yX3_findFewest cX3_findFewest 4 none, Cond.methodLink RX3 35 yX3_fewestBehindOneRound, Cond.instanceMethod yX3_fewestBehindOneRound]
def wsL_law_r27 : List Cond := [Cond.selects RX3 yX3_fewestBehindOneRound yX3_fewestBehindOneRound, Cond.code yX3_fewestBehindOneRound cX3_fewestBehindOneRound 5 (some .int), Cond.methodLink RX3 39 Lib.Math.min.name, Cond.static Lib.Math.min.name, Cond.initialized "java/lang/Math", Cond.code Lib.Math.min.name Lib.Math.min.code 2 (some .int), Cond.methodLink RX6 186 yX3_fewestFrom, Cond.instanceMethod yX3_fewestFrom, Cond.selects RX3 yX3_fewestFrom yX3_fewestFrom, Cond.code yX3_fewestFrom cX3_fewestFrom 2 (some .int), Cond.methodLink RX6 189 yX3_firstSet, Cond.instanceMethod yX3_firstSet, Cond.selects RX3 yX3_firstSet yX3_firstSet, Cond.code yX3_firstSet cX3_firstSet 3 (some .int), Cond.methodLink RL 88 yX7_least, Cond.instanceMethod yX7_least, Cond.selects RX7 yX7_least yX7_least, Cond.code yX7_least cX7_least 5 (some .int), Cond.methodLink RX7 196 yX7_findFewest, Cond.instanceMethod yX7_findFewest, Cond.selects RX7 yX7_findFewest yX7_findFewest, Cond.code yX7_findFewest cX7_findFewest 7 none, Cond.methodLink RL 89 yX6_jammed, Cond.instanceMethod yX6_jammed]
def wsL_law_r28 : List Cond := [Cond.selects RX6 yX6_jammed yX6_jammed, Cond.code yX6_jammed cX6_jammed 4 (some .int), Cond.methodLink RX6 192 yX3_worstRounds, Cond.instanceMethod yX3_worstRounds, Cond.selects RX3 yX3_worstRounds yX3_worstRounds, Cond.code yX3_worstRounds cX3_worstRounds 9 (some .int), Cond.constant RX3 62 (-1000000), Cond.methodLink RX3 44 yX1_reachOf, Cond.methodLink RX3 47 yJ7_fill_53178, Cond.methodLink RX3 53 yX5_soundsOverAndOver, Cond.methodLink RX3 58 yX3_leavesSomeUntold, Cond.instanceMethod yX3_leavesSomeUntold, Cond.selects RX3 yX3_leavesSomeUntold yX3_leavesSomeUntold, Cond.code yX3_leavesSomeUntold cX3_leavesSomeUntold 9 (some .boolean), Cond.methodLink RL 92 yX7_jammed, Cond.instanceMethod yX7_jammed, Cond.selects RX7 yX7_jammed yX7_jammed, Cond.code yX7_jammed cX7_jammed 8 (some .int), Cond.constantLong RX7 200 (5), Cond.methodLink RL 93 yX6_draws, Cond.instanceMethod yX6_draws, Cond.selects RX6 yX6_draws yX6_draws, Cond.code yX6_draws cX6_draws 4 (some .long), Cond.constantLong RX6 196 (-1000001)]
def wsL_law_r29 : List Cond := [Cond.methodLink RX6 198 yX3_casesThatReachAll, Cond.instanceMethod yX3_casesThatReachAll, Cond.selects RX3 yX3_casesThatReachAll yX3_casesThatReachAll, Cond.code yX3_casesThatReachAll cX3_casesThatReachAll 7 (some .long), Cond.methodLink RX3 63 yJ7_fill_d0a16, Cond.static yJ7_fill_d0a16, Cond.code yJ7_fill_d0a16 cJ7_fill_d0a16 5 none, Cond.methodLink RX3 66 yX1_size, Cond.methodLink RX3 69 yX3_drawOneRound, Cond.instanceMethod yX3_drawOneRound, Cond.selects RX3 yX3_drawOneRound yX3_drawOneRound, Cond.code yX3_drawOneRound cX3_drawOneRound 5 none, Cond.methodLink RX3 73 yX3_drawFrom, Cond.instanceMethod yX3_drawFrom, Cond.selects RX3 yX3_drawFrom yX3_drawFrom, Cond.code yX3_drawFrom cX3_drawFrom 6 none, Cond.methodLink RX3 77 yJ6_bitCount_0f7a4, Cond.methodLink RL 97 yX7_draws, Cond.instanceMethod yX7_draws, Cond.selects RX7 yX7_draws yX7_draws, Cond.code yX7_draws cX7_draws 7 (some .long), Cond.constantLong RX7 202 (-1000001), Cond.methodLink RL 98 yX6_picks, Cond.instanceMethod yX6_picks]
def wsL_law_r30 : List Cond := [Cond.selects RX6 yX6_picks yX6_picks, Cond.code yX6_picks cX6_picks 7 (some .int), Cond.methodLink RX6 202 yX6_firstUnpicked, Cond.instanceMethod yX6_firstUnpicked, Cond.selects RX6 yX6_firstUnpicked yX6_firstUnpicked, Cond.code yX6_firstUnpicked cX6_firstUnpicked 6 (some .int), Cond.methodLink RX6 226 yJ6_bitCount_0f7a4, Cond.methodLink RX6 231 yX4_picksOne, Cond.instanceMethod yX4_picksOne, Cond.selects RX4 yX4_picksOne yX4_picksOne, Cond.code yX4_picksOne cX4_picksOne 6 (some .boolean), Cond.methodLink RX4 47 yJ6_bitCount_0f7a4, Cond.methodLink RL 101 yX7_picks, Cond.instanceMethod yX7_picks, Cond.selects RX7 yX7_picks yX7_picks, Cond.code yX7_picks cX7_picks 9 (some .int), Cond.constantLong RX7 204 (40), Cond.constantLong RX7 206 (4), Cond.methodLink RL 102 yX6_kind, Cond.instanceMethod yX6_kind, Cond.selects RX6 yX6_kind yX6_kind, Cond.code yX6_kind cX6_kind 2 (some .int), Cond.methodLink RX6 206 yX1_kindOf, Cond.instanceMethod yX1_kindOf]
def wsL_law_r31 : List Cond := [Cond.selects RX1 yX1_kindOf yX1_kindOf, Cond.code yX1_kindOf cX1_kindOf 3 (some .int), Cond.methodLink RX1 29 yX1_degree, Cond.methodLink RX1 40 yX1_mostNeighbours, Cond.instanceMethod yX1_mostNeighbours, Cond.selects RX1 yX1_mostNeighbours yX1_mostNeighbours, Cond.code yX1_mostNeighbours cX1_mostNeighbours 3 (some .int), Cond.methodLink RX1 43 Lib.Math.max.name, Cond.static Lib.Math.max.name, Cond.code Lib.Math.max.name Lib.Math.max.code 2 (some .int), Cond.methodLink RL 105 yX7_kind, Cond.instanceMethod yX7_kind, Cond.selects RX7 yX7_kind yX7_kind, Cond.code yX7_kind cX7_kind 2 (some .int), Cond.methodLink RX7 208 yX7_kindOf, Cond.instanceMethod yX7_kindOf, Cond.selects RX7 yX7_kindOf yX7_kindOf, Cond.code yX7_kindOf cX7_kindOf 5 (some .int), Cond.methodLink RL 106 yX6_as, Cond.instanceMethod yX6_as, Cond.selects RX6 yX6_as yX6_as, Cond.code yX6_as cX6_as 3 (some .int), Cond.methodLink RX6 209 yX1_isOfKind, Cond.instanceMethod yX1_isOfKind]
def wsL_law_r32 : List Cond := [Cond.selects RX1 yX1_isOfKind yX1_isOfKind, Cond.code yX1_isOfKind cX1_isOfKind 4 (some .boolean), Cond.methodLink RX1 48 yX1_kindOf, Cond.methodLink RL 109 yX7_as, Cond.instanceMethod yX7_as, Cond.selects RX7 yX7_as yX7_as, Cond.code yX7_as cX7_as 3 (some .int), Cond.methodLink RX7 211 yX7_isOf, Cond.static yX7_isOf, Cond.code yX7_isOf cX7_isOf 2 (some .boolean), Cond.methodLink RL 110 yX6_ask, Cond.instanceMethod yX6_ask, Cond.selects RX6 yX6_ask yX6_ask, Cond.code yX6_ask cX6_ask 3 (some .int), Cond.methodLink RX6 212 yX0_answer, Cond.instanceMethod yX0_answer, Cond.selects RX0 yX0_answer yX0_answer, Cond.code yX0_answer cX0_answer 3 (some .int), Cond.fieldLink RX0 19 "BeepNet$Asks" "length" "I", Cond.methodLink RX0 24 yX0_sizeOf, Cond.instanceMethod yX0_sizeOf, Cond.selects RX0 yX0_sizeOf yX0_sizeOf, Cond.code yX0_sizeOf cX0_sizeOf 3 (some .int), Cond.methodLink RX0 31 yX1_kindOf]
def wsL_law_r33 : List Cond := [Cond.methodLink RX0 37 yX0_sizeOfLeaf, Cond.instanceMethod yX0_sizeOfLeaf, Cond.selects RX0 yX0_sizeOfLeaf yX0_sizeOfLeaf, Cond.code yX0_sizeOfLeaf cX0_sizeOfLeaf 2 (some .int), Cond.methodLink RX0 49 yX0_leave, Cond.instanceMethod yX0_leave, Cond.selects RX0 yX0_leave yX0_leave, Cond.code yX0_leave cX0_leave 2 none, Cond.methodLink RX0 43 yX0_sizeOfLinked, Cond.instanceMethod yX0_sizeOfLinked, Cond.selects RX0 yX0_sizeOfLinked yX0_sizeOfLinked, Cond.code yX0_sizeOfLinked cX0_sizeOfLinked 2 (some .int), Cond.methodLink RX0 46 yX0_sizeLent, Cond.instanceMethod yX0_sizeLent, Cond.selects RX0 yX0_sizeLent yX0_sizeLent, Cond.code yX0_sizeLent cX0_sizeLent 2 (some .int), Cond.methodLink RX0 53 yX1_degree, Cond.methodLink RX0 56 yX1_width, Cond.methodLink RX0 40 yX0_sizeOfHub, Cond.instanceMethod yX0_sizeOfHub, Cond.selects RX0 yX0_sizeOfHub yX0_sizeOfHub, Cond.code yX0_markOf cX0_markOf 3 (some .int), Cond.methodLink RX0 59 yX0_markOfHub, Cond.instanceMethod yX0_markOfHub]
def wsL_law_r34 : List Cond := [Cond.selects RX0 yX0_markOfHub yX0_markOfHub, Cond.code yX0_markOfHub cX0_markOfHub 2 (some .int), Cond.methodLink RX0 65 yX0_markLent, Cond.instanceMethod yX0_markLent, Cond.selects RX0 yX0_markLent yX0_markLent, Cond.code yX0_markLent cX0_markLent 2 (some .int), Cond.methodLink RX0 62 yX0_markOfLone, Cond.instanceMethod yX0_markOfLone, Cond.selects RX0 yX0_markOfLone yX0_markOfLone, Cond.code yX0_markOfLone cX0_markOfLone 4 (some .int), Cond.code yX0_sizeOfHub cX0_sizeOfHub 4 (some .int), Cond.methodLink RX0 28 yX0_markOf, Cond.instanceMethod yX0_markOf, Cond.selects RX0 yX0_markOf yX0_markOf, Cond.methodLink RL 113 yX7_ask, Cond.instanceMethod yX7_ask, Cond.selects RX7 yX7_ask yX7_ask, Cond.code yX7_ask cX7_ask 3 (some .int), Cond.fieldLink RX7 215 "BeepNetModel" "traced" "I", Cond.methodLink RX7 221 yX7_sized, Cond.instanceMethod yX7_sized, Cond.selects RX7 yX7_sized yX7_sized, Cond.code yX7_sized cX7_sized 4 (some .int), Cond.methodLink RX7 218 yX7_began]
def wsL_law_r35 : List Cond := [Cond.instanceMethod yX7_began, Cond.selects RX7 yX7_began yX7_began, Cond.code yX7_began cX7_began 2 none, Cond.methodLink RX7 224 yX7_marked, Cond.instanceMethod yX7_marked, Cond.selects RX7 yX7_marked yX7_marked, Cond.code yX7_marked cX7_marked 3 (some .int), Cond.methodLink RL 114 yX6_trace, Cond.instanceMethod yX6_trace, Cond.selects RX6 yX6_trace yX6_trace, Cond.code yX6_trace cX6_trace 2 (some .int), Cond.methodLink RX6 215 yX0_begunBody, Cond.instanceMethod yX0_begunBody, Cond.selects RX0 yX0_begunBody yX0_begunBody, Cond.code yX0_begunBody cX0_begunBody 2 (some .int), Cond.constant RX0 23 (-1000000), Cond.methodLink RL 117 yX7_trace, Cond.instanceMethod yX7_trace, Cond.selects RX7 yX7_trace yX7_trace, Cond.code yX7_trace cX7_trace 2 (some .int), Cond.methodLink RL 118 yX6_count, Cond.instanceMethod yX6_count, Cond.selects RX6 yX6_count yX6_count, Cond.code yX6_count cX6_count 2 (some .int)]
def wsL_law_r36 : List Cond := [Cond.methodLink RX6 218 yX4_size, Cond.instanceMethod yX4_size, Cond.selects RX4 yX4_size yX4_size, Cond.code yX4_size cX4_size 3 (some .int), Cond.methodLink RX6 219 yX1_pairs, Cond.instanceMethod yX1_pairs, Cond.selects RX1 yX1_pairs yX1_pairs, Cond.code yX1_pairs cX1_pairs 3 (some .int), Cond.methodLink RX6 222 yX1_countOf, Cond.instanceMethod yX1_countOf, Cond.selects RX1 yX1_countOf yX1_countOf, Cond.code yX1_countOf cX1_countOf 4 (some .int), Cond.methodLink RX6 225 yX2_size, Cond.instanceMethod yX2_size, Cond.selects RX2 yX2_size yX2_size, Cond.code yX2_size cX2_size 1 (some .int), Cond.methodLink RL 121 yX7_count, Cond.instanceMethod yX7_count, Cond.selects RX7 yX7_count yX7_count, Cond.code yX7_count cX7_count 4 (some .int), Cond.methodLink RL 122 yX6_status, Cond.instanceMethod yX6_status, Cond.selects RX6 yX6_status yX6_status, Cond.code yX6_status cX6_status 1 (some .int)]
def wsL_law_r37 : List Cond := [Cond.methodLink RL 125 yX7_status, Cond.instanceMethod yX7_status, Cond.selects RX7 yX7_status yX7_status, Cond.code yX7_status cX7_status 1 (some .int)]
def wsL_law : List Cond := (wsL_law_r1 ++ (wsL_law_r2 ++ (wsL_law_r3 ++ (wsL_law_r4 ++ (wsL_law_r5 ++ (wsL_law_r6 ++ (wsL_law_r7 ++ (wsL_law_r8 ++ (wsL_law_r9 ++ (wsL_law_r10 ++ (wsL_law_r11 ++ (wsL_law_r12 ++ (wsL_law_r13 ++ (wsL_law_r14 ++ (wsL_law_r15 ++ (wsL_law_r16 ++ (wsL_law_r17 ++ (wsL_law_r18 ++ (wsL_law_r19 ++ (wsL_law_r20 ++ (wsL_law_r21 ++ (wsL_law_r22 ++ (wsL_law_r23 ++ (wsL_law_r24 ++ (wsL_law_r25 ++ (wsL_law_r26 ++ (wsL_law_r27 ++ (wsL_law_r28 ++ (wsL_law_r29 ++ (wsL_law_r30 ++ (wsL_law_r31 ++ (wsL_law_r32 ++ (wsL_law_r33 ++ (wsL_law_r34 ++ (wsL_law_r35 ++ (wsL_law_r36 ++ wsL_law_r37)))))))))))))))))))))))))))))))))))) ++ wsX60 ++ wsX70 ++ wsX40 ++ wsX10 ++ wsX20 ++ wsX50 ++ wsX30 ++ wsX00 ++ ([] : List Cond)
end
section
set_option maxRecDepth 20000 in
theorem wsL_law_in : ∀ w ∈ wsL_law, w ∈ lw_tbl := fun w h => (goodIn_p wsL_law [70, 73, 78, 84, 100, 113, 144, 157, 177, 733, 217, 220, 226, 824, 827, 831, 837, 230, 234, 238, 242, 246, 249, 842, 253, 257, 261, 846, 268, 273, 850, 277, 281, 286, 854, 290, 294, 298, 302, 306, 859, 863, 310, 867, 314, 318, 322, 871, 875, 879, 327, 331, 334, 341, 345, 349, 884, 888, 892, 896, 353, 356, 360, 364, 368, 900, 903, 907, 911, 915, 372, 376, 919, 923, 381, 385, 389, 927, 394, 398, 402, 406, 409, 413, 418, 422, 426, 432, 436, 439, 442, 447, 450, 453, 456, 460, 471, 475, 479, 483, 487, 491, 496, 500, 504, 509, 933, 937, 941, 944, 947, 951, 955, 962, 966, 514, 971, 518, 522, 527, 975, 979, 532, 537, 983, 542, 546, 552, 556, 559, 563, 567, 989, 993, 571, 575, 582, 997, 587, 592, 595, 600, 604, 1002, 609, 613, 618, 1007, 623, 627, 632, 635, 1013, 1017, 639, 643, 1021, 1024, 648, 652, 656, 661, 665, 669, 673, 683, 687, 691, 695, 679, 1028, 1032, 1036, 1040, 699, 703, 1044, 708, 712, 716, 720, 724, 1048, 728, 1052] (by decide +kernel) (by decide +kernel) w h).1
theorem inlX0 : ∀ w ∈ wsX00, w ∈ wsL_law := fun _ h => List.mem_append_left _ (List.mem_append_right _ h)
theorem inX0 : ∀ w ∈ wsX00, w ∈ lw_tbl := fun w h => wsL_law_in w (inlX0 w h)
theorem inlX1 : ∀ w ∈ wsX10, w ∈ wsL_law := fun _ h => List.mem_append_left _ (List.mem_append_left _ (List.mem_append_left _ (List.mem_append_left _ (List.mem_append_left _ (List.mem_append_right _ h)))))
theorem inX1 : ∀ w ∈ wsX10, w ∈ lw_tbl := fun w h => wsL_law_in w (inlX1 w h)
theorem inlX2 : ∀ w ∈ wsX20, w ∈ wsL_law := fun _ h => List.mem_append_left _ (List.mem_append_left _ (List.mem_append_left _ (List.mem_append_left _ (List.mem_append_right _ h))))
theorem inX2 : ∀ w ∈ wsX20, w ∈ lw_tbl := fun w h => wsL_law_in w (inlX2 w h)
theorem inlX3 : ∀ w ∈ wsX30, w ∈ wsL_law := fun _ h => List.mem_append_left _ (List.mem_append_left _ (List.mem_append_right _ h))
theorem inX3 : ∀ w ∈ wsX30, w ∈ lw_tbl := fun w h => wsL_law_in w (inlX3 w h)
theorem inlX4 : ∀ w ∈ wsX40, w ∈ wsL_law := fun _ h => List.mem_append_left _ (List.mem_append_left _ (List.mem_append_left _ (List.mem_append_left _ (List.mem_append_left _ (List.mem_append_left _ (List.mem_append_right _ h))))))
theorem inX4 : ∀ w ∈ wsX40, w ∈ lw_tbl := fun w h => wsL_law_in w (inlX4 w h)
theorem inlX5 : ∀ w ∈ wsX50, w ∈ wsL_law := fun _ h => List.mem_append_left _ (List.mem_append_left _ (List.mem_append_left _ (List.mem_append_right _ h)))
theorem inX5 : ∀ w ∈ wsX50, w ∈ lw_tbl := fun w h => wsL_law_in w (inlX5 w h)
theorem inlX6 : ∀ w ∈ wsX60, w ∈ wsL_law := fun _ h => List.mem_append_left _ (List.mem_append_left _ (List.mem_append_left _ (List.mem_append_left _ (List.mem_append_left _ (List.mem_append_left _ (List.mem_append_left _ (List.mem_append_left _ (List.mem_append_right _ h))))))))
theorem inX6 : ∀ w ∈ wsX60, w ∈ lw_tbl := fun w h => wsL_law_in w (inlX6 w h)
theorem inlX7 : ∀ w ∈ wsX70, w ∈ wsL_law := fun _ h => List.mem_append_left _ (List.mem_append_left _ (List.mem_append_left _ (List.mem_append_left _ (List.mem_append_left _ (List.mem_append_left _ (List.mem_append_left _ (List.mem_append_right _ h)))))))
theorem inX7 : ∀ w ∈ wsX70, w ∈ lw_tbl := fun w h => wsL_law_in w (inlX7 w h)
theorem inJ6 : ∀ w ∈ wsJ60, w ∈ lw_tbl := by decide +kernel
theorem inJ9 : ∀ w ∈ wsJ90, w ∈ lw_tbl := by decide +kernel
theorem inJ0 : ∀ w ∈ wsJ00, w ∈ lw_tbl := by decide +kernel
theorem inJ1 : ∀ w ∈ wsJ10, w ∈ lw_tbl := by decide +kernel
theorem inJ2 : ∀ w ∈ wsJ20, w ∈ lw_tbl := by decide +kernel
theorem inJ10 : ∀ w ∈ wsJ100, w ∈ lw_tbl := by decide +kernel
theorem inJ7 : ∀ w ∈ wsJ70, w ∈ lw_tbl := by decide +kernel
theorem inJ3 : ∀ w ∈ wsJ30, w ∈ lw_tbl := by decide +kernel
end
section
theorem dX0_init_0 : decode cX0_init 0 = .ok (.aload_n 0, 1) := by decide +kernel
theorem dX0_init_1 : decode cX0_init 1 = .ok (.invokespecial 3, 3) := by decide +kernel
theorem dX0_init_4 : decode cX0_init 4 = .ok (.aload_n 0, 1) := by decide +kernel
theorem dX0_init_5 : decode cX0_init 5 = .ok (.bipush 16, 2) := by decide +kernel
theorem dX0_init_7 : decode cX0_init 7 = .ok (.newarray .int, 2) := by decide +kernel
theorem dX0_init_9 : decode cX0_init 9 = .ok (.putfield 9, 3) := by decide +kernel
theorem dX0_init_12 : decode cX0_init 12 = .ok (.aload_n 0, 1) := by decide +kernel
theorem dX0_init_13 : decode cX0_init 13 = .ok (.aload_n 1, 1) := by decide +kernel
theorem dX0_init_14 : decode cX0_init 14 = .ok (.putfield 15, 3) := by decide +kernel
theorem dX0_init_17 : decode cX0_init 17 = .ok (.return_, 1) := by decide +kernel
theorem dX0_begunBody_0 : decode cX0_begunBody 0 = .ok (.iload_n 1, 1) := by decide +kernel
theorem dX0_begunBody_1 : decode cX0_begunBody 1 = .ok (.ifCond .lt 20, 3) := by decide +kernel
theorem dX0_begunBody_4 : decode cX0_begunBody 4 = .ok (.iload_n 1, 1) := by decide +kernel
theorem dX0_begunBody_5 : decode cX0_begunBody 5 = .ok (.aload_n 0, 1) := by decide +kernel
theorem dX0_begunBody_6 : decode cX0_begunBody 6 = .ok (.getfield 19, 3) := by decide +kernel
theorem dX0_begunBody_9 : decode cX0_begunBody 9 = .ok (.if_icmp .ge 12, 3) := by decide +kernel
theorem dX0_begunBody_12 : decode cX0_begunBody 12 = .ok (.aload_n 0, 1) := by decide +kernel
theorem dX0_begunBody_13 : decode cX0_begunBody 13 = .ok (.getfield 9, 3) := by decide +kernel
theorem dX0_begunBody_16 : decode cX0_begunBody 16 = .ok (.iload_n 1, 1) := by decide +kernel
theorem dX0_begunBody_17 : decode cX0_begunBody 17 = .ok (.iaload, 1) := by decide +kernel
theorem dX0_begunBody_18 : decode cX0_begunBody 18 = .ok (.goto 5, 3) := by decide +kernel
theorem dX0_begunBody_21 : decode cX0_begunBody 21 = .ok (.ldc 23, 2) := by decide +kernel
theorem dX0_begunBody_23 : decode cX0_begunBody 23 = .ok (.ireturn, 1) := by decide +kernel
set_option maxRecDepth 20000 in
theorem ggX0_answer_X0_sizeOf : GoodIn wsX0_answer wsX0_sizeOf := goodIn_r _ [6, 7, 8, 9, 10, 11, 12, 13, 14, 15, 16, 17, 18, 19, 20, 21, 22, 23, 24, 25, 26, 27, 28, 29, 30, 31, 32, 33, 34, 35, 36, 5, 37, 38, 39, 40, 41, 1, 42, 43, 44, 45, 46, 47, 48, 49, 50, 51, 52, 53, 54, 55, 56, 57, 58, 59, 60, 61, 62, 63, 64, 65, 66, 67, 68, 69, 70, 71, 72, 73, 74, 75, 2, 3, 4, 76, 77, 78, 79, 80, 81, 82, 83, 84] (by decide +kernel) (by decide +kernel)
set_option maxRecDepth 20000 in
theorem gX0_answer_X0_sizeOf : GoodIn wsX0_answer (wsV RX0 24 RX0 yX0_sizeOf wsX0_sizeOf) := goodIn_app (goodIn_of _ (by decide +kernel)) ggX0_answer_X0_sizeOf
set_option maxRecDepth 20000 in
theorem ggX0_answer_X0_markOf : GoodIn wsX0_answer wsX0_markOf := goodIn_r _ [63, 7, 8, 9, 10, 11, 12, 13, 14, 15, 16, 17, 18, 19, 20, 21, 22, 23, 24, 25, 26, 27, 28, 29, 30, 31, 32, 33, 64, 65, 66, 5, 67, 38, 39, 40, 41, 1, 42, 68, 69, 70, 71, 72, 73, 74, 75, 2, 3, 4, 6, 34, 35, 36, 37, 43, 44, 45, 46, 47, 48, 49, 50, 51, 52, 53, 54, 55, 56, 57, 58, 59, 60, 61, 62, 76, 77, 78, 79, 80, 81, 82, 83, 84] (by decide +kernel) (by decide +kernel)
set_option maxRecDepth 20000 in
theorem gX0_answer_X0_markOf : GoodIn wsX0_answer (wsV RX0 28 RX0 yX0_markOf wsX0_markOf) := goodIn_app (goodIn_of _ (by decide +kernel)) ggX0_answer_X0_markOf
theorem dX0_answer_0 : decode cX0_answer 0 = .ok (.aload_n 0, 1) := by decide +kernel
theorem dX0_answer_1 : decode cX0_answer 1 = .ok (.iconst 0, 1) := by decide +kernel
theorem dX0_answer_2 : decode cX0_answer 2 = .ok (.putfield 19, 3) := by decide +kernel
theorem dX0_answer_5 : decode cX0_answer 5 = .ok (.iload_n 2, 1) := by decide +kernel
theorem dX0_answer_6 : decode cX0_answer 6 = .ok (.ifCond .ne 12, 3) := by decide +kernel
theorem dX0_answer_9 : decode cX0_answer 9 = .ok (.aload_n 0, 1) := by decide +kernel
theorem dX0_answer_10 : decode cX0_answer 10 = .ok (.iload_n 1, 1) := by decide +kernel
theorem dX0_answer_11 : decode cX0_answer 11 = .ok (.iconst 0, 1) := by decide +kernel
theorem dX0_answer_12 : decode cX0_answer 12 = .ok (.invokevirtual 24, 3) := by decide +kernel
theorem dX0_answer_15 : decode cX0_answer 15 = .ok (.goto 9, 3) := by decide +kernel
theorem dX0_answer_18 : decode cX0_answer 18 = .ok (.aload_n 0, 1) := by decide +kernel
theorem dX0_answer_19 : decode cX0_answer 19 = .ok (.iload_n 1, 1) := by decide +kernel
theorem dX0_answer_20 : decode cX0_answer 20 = .ok (.iconst 0, 1) := by decide +kernel
theorem dX0_answer_21 : decode cX0_answer 21 = .ok (.invokevirtual 28, 3) := by decide +kernel
theorem dX0_answer_24 : decode cX0_answer 24 = .ok (.ireturn, 1) := by decide +kernel
theorem dX0_leave_0 : decode cX0_leave 0 = .ok (.aload_n 0, 1) := by decide +kernel
theorem dX0_leave_1 : decode cX0_leave 1 = .ok (.getfield 19, 3) := by decide +kernel
theorem dX0_leave_4 : decode cX0_leave 4 = .ok (.bipush 16, 2) := by decide +kernel
theorem dX0_leave_6 : decode cX0_leave 6 = .ok (.if_icmp .ge 23, 3) := by decide +kernel
theorem dX0_leave_9 : decode cX0_leave 9 = .ok (.aload_n 0, 1) := by decide +kernel
theorem dX0_leave_10 : decode cX0_leave 10 = .ok (.getfield 9, 3) := by decide +kernel
theorem dX0_leave_13 : decode cX0_leave 13 = .ok (.aload_n 0, 1) := by decide +kernel
theorem dX0_leave_14 : decode cX0_leave 14 = .ok (.getfield 19, 3) := by decide +kernel
theorem dX0_leave_17 : decode cX0_leave 17 = .ok (.iload_n 1, 1) := by decide +kernel
theorem dX0_leave_18 : decode cX0_leave 18 = .ok (.iastore, 1) := by decide +kernel
theorem dX0_leave_19 : decode cX0_leave 19 = .ok (.aload_n 0, 1) := by decide +kernel
theorem dX0_leave_20 : decode cX0_leave 20 = .ok (.dup, 1) := by decide +kernel
theorem dX0_leave_21 : decode cX0_leave 21 = .ok (.getfield 19, 3) := by decide +kernel
theorem dX0_leave_24 : decode cX0_leave 24 = .ok (.iconst 1, 1) := by decide +kernel
theorem dX0_leave_25 : decode cX0_leave 25 = .ok (.iadd, 1) := by decide +kernel
theorem dX0_leave_26 : decode cX0_leave 26 = .ok (.putfield 19, 3) := by decide +kernel
theorem dX0_leave_29 : decode cX0_leave 29 = .ok (.return_, 1) := by decide +kernel
set_option maxRecDepth 20000 in
theorem ggX0_sizeOf_X1_kindOf : GoodIn wsX0_sizeOf wsX1_kindOf := goodIn_r _ [6, 7, 8, 9, 5, 10, 11, 12, 13, 14, 15, 16, 17, 18, 19, 20, 21, 22, 23, 24, 25, 26, 27, 82, 83] (by decide +kernel) (by decide +kernel)
set_option maxRecDepth 20000 in
theorem gX0_sizeOf_X1_kindOf : GoodIn wsX0_sizeOf (wsV RX0 31 RX1 yX1_kindOf wsX1_kindOf) := goodIn_app (goodIn_of _ (by decide +kernel)) ggX0_sizeOf_X1_kindOf
set_option maxRecDepth 20000 in
theorem ggX0_sizeOf_X0_sizeOfLeaf : GoodIn wsX0_sizeOf wsX0_sizeOfLeaf := goodIn_r _ [32, 33, 34, 35, 31, 36, 37, 38, 39, 40, 41, 42, 1, 43, 44, 45, 46, 47, 8, 9, 5, 10, 11, 12, 13, 14, 15, 16, 17, 18, 48, 49, 50, 51, 23, 52, 53, 54, 55, 79, 80, 81, 82, 83] (by decide +kernel) (by decide +kernel)
set_option maxRecDepth 20000 in
theorem gX0_sizeOf_X0_sizeOfLeaf : GoodIn wsX0_sizeOf (wsV RX0 37 RX0 yX0_sizeOfLeaf wsX0_sizeOfLeaf) := goodIn_app (goodIn_of _ (by decide +kernel)) ggX0_sizeOf_X0_sizeOfLeaf
set_option maxRecDepth 20000 in
theorem ggX0_sizeOf_X0_sizeOfHub : GoodIn wsX0_sizeOf wsX0_sizeOfHub := goodIn_r _ [75, 33, 34, 35, 31, 36, 37, 38, 39, 40, 41, 42, 1, 43, 44, 45, 46, 47, 8, 9, 5, 10, 11, 12, 13, 14, 15, 16, 17, 18, 48, 49, 50, 51, 23, 52, 53, 54, 55, 76, 77, 78, 59, 2, 3, 4, 6, 7, 19, 20, 21, 22, 24, 25, 26, 27, 60, 61, 62, 63, 64, 65, 66, 67, 68, 69, 70, 71, 72, 73, 74, 0, 28, 29, 30, 32, 56, 57, 58, 79, 80, 81, 82, 83] (by decide +kernel) (by decide +kernel)
set_option maxRecDepth 20000 in
theorem gX0_sizeOf_X0_sizeOfHub : GoodIn wsX0_sizeOf (wsV RX0 40 RX0 yX0_sizeOfHub wsX0_sizeOfHub) := goodIn_app (goodIn_of _ (by decide +kernel)) ggX0_sizeOf_X0_sizeOfHub
set_option maxRecDepth 20000 in
theorem ggX0_sizeOf_X0_sizeOfLinked : GoodIn wsX0_sizeOf wsX0_sizeOfLinked := goodIn_r _ [42, 1, 33, 34, 35, 31, 36, 37, 38, 43, 44, 45, 46, 47, 8, 9, 5, 10, 11, 12, 13, 14, 15, 16, 17, 18, 48, 49, 50, 51, 23, 52, 53, 54, 55, 79, 80, 81, 82, 83] (by decide +kernel) (by decide +kernel)
set_option maxRecDepth 20000 in
theorem gX0_sizeOf_X0_sizeOfLinked : GoodIn wsX0_sizeOf (wsV RX0 43 RX0 yX0_sizeOfLinked wsX0_sizeOfLinked) := goodIn_app (goodIn_of _ (by decide +kernel)) ggX0_sizeOf_X0_sizeOfLinked
set_option maxRecDepth 20000 in
theorem ggX0_sizeOf_X0_sizeLent : GoodIn wsX0_sizeOf wsX0_sizeLent := goodIn_r _ [46, 1, 33, 34, 35, 31, 36, 37, 38, 47, 8, 9, 5, 10, 11, 12, 13, 14, 15, 16, 17, 18, 79, 80, 81, 82, 83] (by decide +kernel) (by decide +kernel)
set_option maxRecDepth 20000 in
theorem gX0_sizeOf_X0_sizeLent : GoodIn wsX0_sizeOf (wsV RX0 46 RX0 yX0_sizeLent wsX0_sizeLent) := goodIn_app (goodIn_of _ (by decide +kernel)) ggX0_sizeOf_X0_sizeLent
theorem dX0_sizeOf_0 : decode cX0_sizeOf 0 = .ok (.iload_n 2, 1) := by decide +kernel
theorem dX0_sizeOf_1 : decode cX0_sizeOf 1 = .ok (.iconst 3, 1) := by decide +kernel
theorem dX0_sizeOf_2 : decode cX0_sizeOf 2 = .ok (.if_icmp .le 5, 3) := by decide +kernel
theorem dX0_sizeOf_5 : decode cX0_sizeOf 5 = .ok (.iconst 0, 1) := by decide +kernel
theorem dX0_sizeOf_6 : decode cX0_sizeOf 6 = .ok (.ireturn, 1) := by decide +kernel
theorem dX0_sizeOf_7 : decode cX0_sizeOf 7 = .ok (.aload_n 0, 1) := by decide +kernel
theorem dX0_sizeOf_8 : decode cX0_sizeOf 8 = .ok (.getfield 15, 3) := by decide +kernel
theorem dX0_sizeOf_11 : decode cX0_sizeOf 11 = .ok (.iload_n 1, 1) := by decide +kernel
theorem dX0_sizeOf_12 : decode cX0_sizeOf 12 = .ok (.invokevirtual 31, 3) := by decide +kernel
theorem dX0_sizeOf_15 : decode cX0_sizeOf 15 = .ok (.tableswitch 44 1 3 #[38, 25, 31], 25) := by decide +kernel
theorem dX0_sizeOf_40 : decode cX0_sizeOf 40 = .ok (.aload_n 0, 1) := by decide +kernel
theorem dX0_sizeOf_41 : decode cX0_sizeOf 41 = .ok (.iload_n 1, 1) := by decide +kernel
theorem dX0_sizeOf_42 : decode cX0_sizeOf 42 = .ok (.invokevirtual 37, 3) := by decide +kernel
theorem dX0_sizeOf_45 : decode cX0_sizeOf 45 = .ok (.ireturn, 1) := by decide +kernel
theorem dX0_sizeOf_46 : decode cX0_sizeOf 46 = .ok (.aload_n 0, 1) := by decide +kernel
theorem dX0_sizeOf_47 : decode cX0_sizeOf 47 = .ok (.iload_n 1, 1) := by decide +kernel
theorem dX0_sizeOf_48 : decode cX0_sizeOf 48 = .ok (.iload_n 2, 1) := by decide +kernel
theorem dX0_sizeOf_49 : decode cX0_sizeOf 49 = .ok (.invokevirtual 40, 3) := by decide +kernel
theorem dX0_sizeOf_52 : decode cX0_sizeOf 52 = .ok (.ireturn, 1) := by decide +kernel
theorem dX0_sizeOf_53 : decode cX0_sizeOf 53 = .ok (.aload_n 0, 1) := by decide +kernel
theorem dX0_sizeOf_54 : decode cX0_sizeOf 54 = .ok (.iload_n 1, 1) := by decide +kernel
theorem dX0_sizeOf_55 : decode cX0_sizeOf 55 = .ok (.invokevirtual 43, 3) := by decide +kernel
theorem dX0_sizeOf_58 : decode cX0_sizeOf 58 = .ok (.ireturn, 1) := by decide +kernel
theorem dX0_sizeOf_59 : decode cX0_sizeOf 59 = .ok (.aload_n 0, 1) := by decide +kernel
theorem dX0_sizeOf_60 : decode cX0_sizeOf 60 = .ok (.iload_n 1, 1) := by decide +kernel
theorem dX0_sizeOf_61 : decode cX0_sizeOf 61 = .ok (.invokevirtual 46, 3) := by decide +kernel
theorem dX0_sizeOf_64 : decode cX0_sizeOf 64 = .ok (.ireturn, 1) := by decide +kernel
set_option maxRecDepth 20000 in
theorem ggX0_sizeLent_X0_leave : GoodIn wsX0_sizeLent wsX0_leave := goodIn_r _ [6, 7, 8, 22, 23, 24] (by decide +kernel) (by decide +kernel)
set_option maxRecDepth 20000 in
theorem gX0_sizeLent_X0_leave : GoodIn wsX0_sizeLent (wsV RX0 49 RX0 yX0_leave wsX0_leave) := goodIn_app (goodIn_of _ (by decide +kernel)) ggX0_sizeLent_X0_leave
set_option maxRecDepth 20000 in
theorem ggX0_sizeLent_X1_degree : GoodIn wsX0_sizeLent wsX1_degree := goodIn_r _ [13, 14, 15, 16, 17, 18, 19, 20, 21, 25, 26] (by decide +kernel) (by decide +kernel)
set_option maxRecDepth 20000 in
theorem gX0_sizeLent_X1_degree : GoodIn wsX0_sizeLent (wsV RX0 53 RX1 yX1_degree wsX1_degree) := goodIn_app (goodIn_of _ (by decide +kernel)) ggX0_sizeLent_X1_degree
theorem dX0_sizeLent_0 : decode cX0_sizeLent 0 = .ok (.aload_n 0, 1) := by decide +kernel
theorem dX0_sizeLent_1 : decode cX0_sizeLent 1 = .ok (.bipush 10, 2) := by decide +kernel
theorem dX0_sizeLent_3 : decode cX0_sizeLent 3 = .ok (.invokevirtual 49, 3) := by decide +kernel
theorem dX0_sizeLent_6 : decode cX0_sizeLent 6 = .ok (.aload_n 0, 1) := by decide +kernel
theorem dX0_sizeLent_7 : decode cX0_sizeLent 7 = .ok (.getfield 15, 3) := by decide +kernel
theorem dX0_sizeLent_10 : decode cX0_sizeLent 10 = .ok (.iload_n 1, 1) := by decide +kernel
theorem dX0_sizeLent_11 : decode cX0_sizeLent 11 = .ok (.invokevirtual 53, 3) := by decide +kernel
theorem dX0_sizeLent_14 : decode cX0_sizeLent 14 = .ok (.ireturn, 1) := by decide +kernel
set_option maxRecDepth 20000 in
theorem ggX0_sizeOfLinked_X0_leave : GoodIn wsX0_sizeOfLinked wsX0_leave := goodIn_r _ [6, 7, 8, 35, 36, 37] (by decide +kernel) (by decide +kernel)
set_option maxRecDepth 20000 in
theorem gX0_sizeOfLinked_X0_leave : GoodIn wsX0_sizeOfLinked (wsV RX0 49 RX0 yX0_leave wsX0_leave) := goodIn_app (goodIn_of _ (by decide +kernel)) ggX0_sizeOfLinked_X0_leave
set_option maxRecDepth 20000 in
theorem ggX0_sizeOfLinked_X0_sizeLent : GoodIn wsX0_sizeOfLinked wsX0_sizeLent := goodIn_r _ [12, 1, 2, 3, 4, 5, 6, 7, 8, 13, 14, 15, 16, 17, 18, 19, 20, 21, 22, 23, 24, 25, 35, 36, 37, 38, 39] (by decide +kernel) (by decide +kernel)
set_option maxRecDepth 20000 in
theorem gX0_sizeOfLinked_X0_sizeLent : GoodIn wsX0_sizeOfLinked (wsV RX0 46 RX0 yX0_sizeLent wsX0_sizeLent) := goodIn_app (goodIn_of _ (by decide +kernel)) ggX0_sizeOfLinked_X0_sizeLent
set_option maxRecDepth 20000 in
theorem ggX0_sizeOfLinked_X1_width : GoodIn wsX0_sizeOfLinked wsX1_width := goodIn_r _ [29, 30, 31, 32, 33, 16, 34, 18, 38, 39] (by decide +kernel) (by decide +kernel)
set_option maxRecDepth 20000 in
theorem gX0_sizeOfLinked_X1_width : GoodIn wsX0_sizeOfLinked (wsV RX0 56 RX1 yX1_width wsX1_width) := goodIn_app (goodIn_of _ (by decide +kernel)) ggX0_sizeOfLinked_X1_width
theorem dX0_sizeOfLinked_0 : decode cX0_sizeOfLinked 0 = .ok (.aload_n 0, 1) := by decide +kernel
theorem dX0_sizeOfLinked_1 : decode cX0_sizeOfLinked 1 = .ok (.bipush 11, 2) := by decide +kernel
theorem dX0_sizeOfLinked_3 : decode cX0_sizeOfLinked 3 = .ok (.invokevirtual 49, 3) := by decide +kernel
theorem dX0_sizeOfLinked_6 : decode cX0_sizeOfLinked 6 = .ok (.aload_n 0, 1) := by decide +kernel
theorem dX0_sizeOfLinked_7 : decode cX0_sizeOfLinked 7 = .ok (.iload_n 1, 1) := by decide +kernel
theorem dX0_sizeOfLinked_8 : decode cX0_sizeOfLinked 8 = .ok (.invokevirtual 46, 3) := by decide +kernel
theorem dX0_sizeOfLinked_11 : decode cX0_sizeOfLinked 11 = .ok (.aload_n 0, 1) := by decide +kernel
theorem dX0_sizeOfLinked_12 : decode cX0_sizeOfLinked 12 = .ok (.getfield 15, 3) := by decide +kernel
theorem dX0_sizeOfLinked_15 : decode cX0_sizeOfLinked 15 = .ok (.iload_n 1, 1) := by decide +kernel
theorem dX0_sizeOfLinked_16 : decode cX0_sizeOfLinked 16 = .ok (.invokevirtual 56, 3) := by decide +kernel
theorem dX0_sizeOfLinked_19 : decode cX0_sizeOfLinked 19 = .ok (.iadd, 1) := by decide +kernel
theorem dX0_sizeOfLinked_20 : decode cX0_sizeOfLinked 20 = .ok (.ireturn, 1) := by decide +kernel
set_option maxRecDepth 20000 in
theorem ggX0_sizeOfLeaf_X0_leave : GoodIn wsX0_sizeOfLeaf wsX0_leave := goodIn_r _ [5, 6, 7, 39, 40, 41] (by decide +kernel) (by decide +kernel)
set_option maxRecDepth 20000 in
theorem gX0_sizeOfLeaf_X0_leave : GoodIn wsX0_sizeOfLeaf (wsV RX0 49 RX0 yX0_leave wsX0_leave) := goodIn_app (goodIn_of _ (by decide +kernel)) ggX0_sizeOfLeaf_X0_leave
set_option maxRecDepth 20000 in
theorem ggX0_sizeOfLeaf_X0_sizeOfLinked : GoodIn wsX0_sizeOfLeaf wsX0_sizeOfLinked := goodIn_r _ [11, 12, 1, 2, 3, 4, 5, 6, 7, 13, 14, 15, 16, 17, 18, 19, 20, 21, 22, 23, 24, 25, 26, 27, 28, 29, 30, 31, 32, 33, 34, 35, 36, 37, 38, 39, 40, 41, 42, 43] (by decide +kernel) (by decide +kernel)
set_option maxRecDepth 20000 in
theorem gX0_sizeOfLeaf_X0_sizeOfLinked : GoodIn wsX0_sizeOfLeaf (wsV RX0 43 RX0 yX0_sizeOfLinked wsX0_sizeOfLinked) := goodIn_app (goodIn_of _ (by decide +kernel)) ggX0_sizeOfLeaf_X0_sizeOfLinked
theorem dX0_sizeOfLeaf_0 : decode cX0_sizeOfLeaf 0 = .ok (.aload_n 0, 1) := by decide +kernel
theorem dX0_sizeOfLeaf_1 : decode cX0_sizeOfLeaf 1 = .ok (.bipush 12, 2) := by decide +kernel
theorem dX0_sizeOfLeaf_3 : decode cX0_sizeOfLeaf 3 = .ok (.invokevirtual 49, 3) := by decide +kernel
theorem dX0_sizeOfLeaf_6 : decode cX0_sizeOfLeaf 6 = .ok (.iconst 2, 1) := by decide +kernel
theorem dX0_sizeOfLeaf_7 : decode cX0_sizeOfLeaf 7 = .ok (.aload_n 0, 1) := by decide +kernel
theorem dX0_sizeOfLeaf_8 : decode cX0_sizeOfLeaf 8 = .ok (.iload_n 1, 1) := by decide +kernel
theorem dX0_sizeOfLeaf_9 : decode cX0_sizeOfLeaf 9 = .ok (.invokevirtual 43, 3) := by decide +kernel
theorem dX0_sizeOfLeaf_12 : decode cX0_sizeOfLeaf 12 = .ok (.imul, 1) := by decide +kernel
theorem dX0_sizeOfLeaf_13 : decode cX0_sizeOfLeaf 13 = .ok (.ireturn, 1) := by decide +kernel
set_option maxRecDepth 20000 in
theorem ggX0_sizeOfHub_X0_leave : GoodIn wsX0_sizeOfHub wsX0_leave := goodIn_r _ [5, 6, 7, 79, 80, 81] (by decide +kernel) (by decide +kernel)
set_option maxRecDepth 20000 in
theorem gX0_sizeOfHub_X0_leave : GoodIn wsX0_sizeOfHub (wsV RX0 49 RX0 yX0_leave wsX0_leave) := goodIn_app (goodIn_of _ (by decide +kernel)) ggX0_sizeOfHub_X0_leave
set_option maxRecDepth 20000 in
theorem ggX0_sizeOfHub_X0_sizeOfLinked : GoodIn wsX0_sizeOfHub wsX0_sizeOfLinked := goodIn_r _ [11, 12, 1, 2, 3, 4, 5, 6, 7, 13, 14, 15, 16, 17, 18, 19, 20, 21, 22, 23, 24, 25, 26, 27, 28, 29, 30, 31, 32, 33, 34, 35, 36, 37, 38, 79, 80, 81, 82, 83] (by decide +kernel) (by decide +kernel)
set_option maxRecDepth 20000 in
theorem gX0_sizeOfHub_X0_sizeOfLinked : GoodIn wsX0_sizeOfHub (wsV RX0 43 RX0 yX0_sizeOfLinked wsX0_sizeOfLinked) := goodIn_app (goodIn_of _ (by decide +kernel)) ggX0_sizeOfHub_X0_sizeOfLinked
set_option maxRecDepth 20000 in
theorem ggX0_sizeOfHub_X0_markOf : GoodIn wsX0_sizeOfHub wsX0_markOf := goodIn_r _ [42, 12, 43, 44, 45, 20, 46, 47, 18, 19, 21, 22, 23, 24, 25, 26, 27, 28, 29, 48, 49, 50, 51, 34, 52, 53, 54, 55, 56, 57, 58, 4, 59, 1, 2, 3, 5, 6, 7, 60, 61, 62, 63, 64, 65, 66, 67, 68, 69, 70, 71, 72, 73, 74, 75, 8, 9, 10, 11, 13, 14, 15, 16, 17, 30, 31, 32, 33, 35, 36, 37, 38, 76, 77, 78, 0, 39, 40, 41, 79, 80, 81, 82, 83] (by decide +kernel) (by decide +kernel)
set_option maxRecDepth 20000 in
theorem gX0_sizeOfHub_X0_markOf : GoodIn wsX0_sizeOfHub (wsV RX0 28 RX0 yX0_markOf wsX0_markOf) := goodIn_app (goodIn_of _ (by decide +kernel)) ggX0_sizeOfHub_X0_markOf
theorem dX0_sizeOfHub_0 : decode cX0_sizeOfHub 0 = .ok (.aload_n 0, 1) := by decide +kernel
theorem dX0_sizeOfHub_1 : decode cX0_sizeOfHub 1 = .ok (.bipush 13, 2) := by decide +kernel
theorem dX0_sizeOfHub_3 : decode cX0_sizeOfHub 3 = .ok (.invokevirtual 49, 3) := by decide +kernel
theorem dX0_sizeOfHub_6 : decode cX0_sizeOfHub 6 = .ok (.aload_n 0, 1) := by decide +kernel
theorem dX0_sizeOfHub_7 : decode cX0_sizeOfHub 7 = .ok (.iload_n 1, 1) := by decide +kernel
theorem dX0_sizeOfHub_8 : decode cX0_sizeOfHub 8 = .ok (.invokevirtual 43, 3) := by decide +kernel
theorem dX0_sizeOfHub_11 : decode cX0_sizeOfHub 11 = .ok (.istore_n 3, 1) := by decide +kernel
theorem dX0_sizeOfHub_12 : decode cX0_sizeOfHub 12 = .ok (.iload_n 3, 1) := by decide +kernel
theorem dX0_sizeOfHub_13 : decode cX0_sizeOfHub 13 = .ok (.aload_n 0, 1) := by decide +kernel
theorem dX0_sizeOfHub_14 : decode cX0_sizeOfHub 14 = .ok (.iload_n 1, 1) := by decide +kernel
theorem dX0_sizeOfHub_15 : decode cX0_sizeOfHub 15 = .ok (.iload_n 2, 1) := by decide +kernel
theorem dX0_sizeOfHub_16 : decode cX0_sizeOfHub 16 = .ok (.iconst 1, 1) := by decide +kernel
theorem dX0_sizeOfHub_17 : decode cX0_sizeOfHub 17 = .ok (.iadd, 1) := by decide +kernel
theorem dX0_sizeOfHub_18 : decode cX0_sizeOfHub 18 = .ok (.invokevirtual 28, 3) := by decide +kernel
theorem dX0_sizeOfHub_21 : decode cX0_sizeOfHub 21 = .ok (.iadd, 1) := by decide +kernel
theorem dX0_sizeOfHub_22 : decode cX0_sizeOfHub 22 = .ok (.ireturn, 1) := by decide +kernel
set_option maxRecDepth 20000 in
theorem ggX0_markOf_X1_kindOf : GoodIn wsX0_markOf wsX1_kindOf := goodIn_r _ [6, 7, 8, 9, 5, 10, 11, 12, 13, 14, 15, 16, 17, 18, 19, 20, 21, 22, 23, 24, 25, 26, 27, 82, 83] (by decide +kernel) (by decide +kernel)
set_option maxRecDepth 20000 in
theorem gX0_markOf_X1_kindOf : GoodIn wsX0_markOf (wsV RX0 31 RX1 yX1_kindOf wsX1_kindOf) := goodIn_app (goodIn_of _ (by decide +kernel)) ggX0_markOf_X1_kindOf
set_option maxRecDepth 20000 in
theorem ggX0_markOf_X0_markOfHub : GoodIn wsX0_markOf wsX0_markOfHub := goodIn_r _ [32, 33, 34, 35, 31, 36, 37, 38, 39, 40, 41, 42, 79, 80, 81] (by decide +kernel) (by decide +kernel)
set_option maxRecDepth 20000 in
theorem gX0_markOf_X0_markOfHub : GoodIn wsX0_markOf (wsV RX0 59 RX0 yX0_markOfHub wsX0_markOfHub) := goodIn_app (goodIn_of _ (by decide +kernel)) ggX0_markOf_X0_markOfHub
set_option maxRecDepth 20000 in
theorem ggX0_markOf_X0_markOfLone : GoodIn wsX0_markOf wsX0_markOfLone := goodIn_r _ [46, 33, 34, 35, 31, 36, 37, 38, 39, 40, 41, 42, 47, 48, 49, 0, 1, 2, 3, 4, 5, 6, 7, 8, 9, 10, 11, 12, 13, 14, 15, 16, 17, 18, 19, 20, 21, 22, 23, 24, 25, 26, 27, 28, 29, 30, 32, 43, 44, 45, 50, 51, 52, 53, 54, 55, 56, 57, 58, 59, 60, 61, 62, 63, 64, 65, 66, 67, 68, 69, 70, 71, 72, 73, 74, 75, 76, 77, 78, 79, 80, 81, 82, 83] (by decide +kernel) (by decide +kernel)
set_option maxRecDepth 20000 in
theorem gX0_markOf_X0_markOfLone : GoodIn wsX0_markOf (wsV RX0 62 RX0 yX0_markOfLone wsX0_markOfLone) := goodIn_app (goodIn_of _ (by decide +kernel)) ggX0_markOf_X0_markOfLone
set_option maxRecDepth 20000 in
theorem ggX0_markOf_X0_markLent : GoodIn wsX0_markOf wsX0_markLent := goodIn_r _ [42, 33, 34, 35, 31, 36, 37, 38, 79, 80, 81] (by decide +kernel) (by decide +kernel)
set_option maxRecDepth 20000 in
theorem gX0_markOf_X0_markLent : GoodIn wsX0_markOf (wsV RX0 65 RX0 yX0_markLent wsX0_markLent) := goodIn_app (goodIn_of _ (by decide +kernel)) ggX0_markOf_X0_markLent
theorem dX0_markOf_0 : decode cX0_markOf 0 = .ok (.iload_n 2, 1) := by decide +kernel
theorem dX0_markOf_1 : decode cX0_markOf 1 = .ok (.iconst 3, 1) := by decide +kernel
theorem dX0_markOf_2 : decode cX0_markOf 2 = .ok (.if_icmp .le 5, 3) := by decide +kernel
theorem dX0_markOf_5 : decode cX0_markOf 5 = .ok (.iconst 0, 1) := by decide +kernel
theorem dX0_markOf_6 : decode cX0_markOf 6 = .ok (.ireturn, 1) := by decide +kernel
theorem dX0_markOf_7 : decode cX0_markOf 7 = .ok (.aload_n 0, 1) := by decide +kernel
theorem dX0_markOf_8 : decode cX0_markOf 8 = .ok (.getfield 15, 3) := by decide +kernel
theorem dX0_markOf_11 : decode cX0_markOf 11 = .ok (.iload_n 1, 1) := by decide +kernel
theorem dX0_markOf_12 : decode cX0_markOf 12 = .ok (.invokevirtual 31, 3) := by decide +kernel
theorem dX0_markOf_15 : decode cX0_markOf 15 = .ok (.lookupswitch 38 #[(3, 25), (4, 31)], 25) := by decide +kernel
theorem dX0_markOf_40 : decode cX0_markOf 40 = .ok (.aload_n 0, 1) := by decide +kernel
theorem dX0_markOf_41 : decode cX0_markOf 41 = .ok (.iload_n 1, 1) := by decide +kernel
theorem dX0_markOf_42 : decode cX0_markOf 42 = .ok (.invokevirtual 59, 3) := by decide +kernel
theorem dX0_markOf_45 : decode cX0_markOf 45 = .ok (.ireturn, 1) := by decide +kernel
theorem dX0_markOf_46 : decode cX0_markOf 46 = .ok (.aload_n 0, 1) := by decide +kernel
theorem dX0_markOf_47 : decode cX0_markOf 47 = .ok (.iload_n 1, 1) := by decide +kernel
theorem dX0_markOf_48 : decode cX0_markOf 48 = .ok (.iload_n 2, 1) := by decide +kernel
theorem dX0_markOf_49 : decode cX0_markOf 49 = .ok (.invokevirtual 62, 3) := by decide +kernel
theorem dX0_markOf_52 : decode cX0_markOf 52 = .ok (.ireturn, 1) := by decide +kernel
theorem dX0_markOf_53 : decode cX0_markOf 53 = .ok (.aload_n 0, 1) := by decide +kernel
theorem dX0_markOf_54 : decode cX0_markOf 54 = .ok (.iload_n 1, 1) := by decide +kernel
theorem dX0_markOf_55 : decode cX0_markOf 55 = .ok (.invokevirtual 65, 3) := by decide +kernel
theorem dX0_markOf_58 : decode cX0_markOf 58 = .ok (.ireturn, 1) := by decide +kernel
set_option maxRecDepth 20000 in
theorem ggX0_markLent_X0_leave : GoodIn wsX0_markLent wsX0_leave := goodIn_r _ [5, 6, 7, 8, 9, 10] (by decide +kernel) (by decide +kernel)
set_option maxRecDepth 20000 in
theorem gX0_markLent_X0_leave : GoodIn wsX0_markLent (wsV RX0 49 RX0 yX0_leave wsX0_leave) := goodIn_app (goodIn_of _ (by decide +kernel)) ggX0_markLent_X0_leave
theorem dX0_markLent_0 : decode cX0_markLent 0 = .ok (.aload_n 0, 1) := by decide +kernel
theorem dX0_markLent_1 : decode cX0_markLent 1 = .ok (.bipush 20, 2) := by decide +kernel
theorem dX0_markLent_3 : decode cX0_markLent 3 = .ok (.invokevirtual 49, 3) := by decide +kernel
theorem dX0_markLent_6 : decode cX0_markLent 6 = .ok (.iload_n 1, 1) := by decide +kernel
theorem dX0_markLent_7 : decode cX0_markLent 7 = .ok (.ireturn, 1) := by decide +kernel
set_option maxRecDepth 20000 in
theorem ggX0_markOfHub_X0_leave : GoodIn wsX0_markOfHub wsX0_leave := goodIn_r _ [5, 6, 7, 12, 13, 14] (by decide +kernel) (by decide +kernel)
set_option maxRecDepth 20000 in
theorem gX0_markOfHub_X0_leave : GoodIn wsX0_markOfHub (wsV RX0 49 RX0 yX0_leave wsX0_leave) := goodIn_app (goodIn_of _ (by decide +kernel)) ggX0_markOfHub_X0_leave
set_option maxRecDepth 20000 in
theorem ggX0_markOfHub_X0_markLent : GoodIn wsX0_markOfHub wsX0_markLent := goodIn_r _ [11, 1, 2, 3, 4, 5, 6, 7, 12, 13, 14] (by decide +kernel) (by decide +kernel)
set_option maxRecDepth 20000 in
theorem gX0_markOfHub_X0_markLent : GoodIn wsX0_markOfHub (wsV RX0 65 RX0 yX0_markLent wsX0_markLent) := goodIn_app (goodIn_of _ (by decide +kernel)) ggX0_markOfHub_X0_markLent
theorem dX0_markOfHub_0 : decode cX0_markOfHub 0 = .ok (.aload_n 0, 1) := by decide +kernel
theorem dX0_markOfHub_1 : decode cX0_markOfHub 1 = .ok (.bipush 21, 2) := by decide +kernel
theorem dX0_markOfHub_3 : decode cX0_markOfHub 3 = .ok (.invokevirtual 49, 3) := by decide +kernel
theorem dX0_markOfHub_6 : decode cX0_markOfHub 6 = .ok (.aload_n 0, 1) := by decide +kernel
theorem dX0_markOfHub_7 : decode cX0_markOfHub 7 = .ok (.iload_n 1, 1) := by decide +kernel
theorem dX0_markOfHub_8 : decode cX0_markOfHub 8 = .ok (.invokevirtual 65, 3) := by decide +kernel
theorem dX0_markOfHub_11 : decode cX0_markOfHub 11 = .ok (.bipush 100, 2) := by decide +kernel
theorem dX0_markOfHub_13 : decode cX0_markOfHub 13 = .ok (.iadd, 1) := by decide +kernel
theorem dX0_markOfHub_14 : decode cX0_markOfHub 14 = .ok (.ireturn, 1) := by decide +kernel
set_option maxRecDepth 20000 in
theorem ggX0_markOfLone_X0_leave : GoodIn wsX0_markOfLone wsX0_leave := goodIn_r _ [5, 6, 7, 79, 80, 81] (by decide +kernel) (by decide +kernel)
set_option maxRecDepth 20000 in
theorem gX0_markOfLone_X0_leave : GoodIn wsX0_markOfLone (wsV RX0 49 RX0 yX0_leave wsX0_leave) := goodIn_app (goodIn_of _ (by decide +kernel)) ggX0_markOfLone_X0_leave
set_option maxRecDepth 20000 in
theorem ggX0_markOfLone_X0_markLent : GoodIn wsX0_markOfLone wsX0_markLent := goodIn_r _ [11, 1, 2, 3, 4, 5, 6, 7, 79, 80, 81] (by decide +kernel) (by decide +kernel)
set_option maxRecDepth 20000 in
theorem gX0_markOfLone_X0_markLent : GoodIn wsX0_markOfLone (wsV RX0 65 RX0 yX0_markLent wsX0_markLent) := goodIn_app (goodIn_of _ (by decide +kernel)) ggX0_markOfLone_X0_markLent
set_option maxRecDepth 20000 in
theorem ggX0_markOfLone_X0_sizeOf : GoodIn wsX0_markOfLone wsX0_sizeOf := goodIn_r _ [50, 16, 17, 18, 19, 20, 21, 22, 23, 24, 25, 26, 27, 28, 29, 30, 31, 32, 33, 34, 35, 36, 37, 38, 39, 40, 41, 42, 51, 52, 53, 4, 54, 1, 2, 3, 5, 6, 7, 55, 56, 57, 58, 59, 60, 61, 62, 63, 64, 65, 66, 67, 68, 69, 70, 71, 72, 73, 74, 15, 43, 44, 45, 46, 8, 9, 10, 11, 47, 48, 49, 0, 12, 13, 14, 75, 76, 77, 78, 79, 80, 81, 82, 83] (by decide +kernel) (by decide +kernel)
set_option maxRecDepth 20000 in
theorem gX0_markOfLone_X0_sizeOf : GoodIn wsX0_markOfLone (wsV RX0 24 RX0 yX0_sizeOf wsX0_sizeOf) := goodIn_app (goodIn_of _ (by decide +kernel)) ggX0_markOfLone_X0_sizeOf
theorem dX0_markOfLone_0 : decode cX0_markOfLone 0 = .ok (.aload_n 0, 1) := by decide +kernel
theorem dX0_markOfLone_1 : decode cX0_markOfLone 1 = .ok (.bipush 22, 2) := by decide +kernel
theorem dX0_markOfLone_3 : decode cX0_markOfLone 3 = .ok (.invokevirtual 49, 3) := by decide +kernel
theorem dX0_markOfLone_6 : decode cX0_markOfLone 6 = .ok (.aload_n 0, 1) := by decide +kernel
theorem dX0_markOfLone_7 : decode cX0_markOfLone 7 = .ok (.iload_n 1, 1) := by decide +kernel
theorem dX0_markOfLone_8 : decode cX0_markOfLone 8 = .ok (.invokevirtual 65, 3) := by decide +kernel
theorem dX0_markOfLone_11 : decode cX0_markOfLone 11 = .ok (.istore_n 3, 1) := by decide +kernel
theorem dX0_markOfLone_12 : decode cX0_markOfLone 12 = .ok (.iload_n 3, 1) := by decide +kernel
theorem dX0_markOfLone_13 : decode cX0_markOfLone 13 = .ok (.aload_n 0, 1) := by decide +kernel
theorem dX0_markOfLone_14 : decode cX0_markOfLone 14 = .ok (.iload_n 1, 1) := by decide +kernel
theorem dX0_markOfLone_15 : decode cX0_markOfLone 15 = .ok (.iload_n 2, 1) := by decide +kernel
theorem dX0_markOfLone_16 : decode cX0_markOfLone 16 = .ok (.iconst 1, 1) := by decide +kernel
theorem dX0_markOfLone_17 : decode cX0_markOfLone 17 = .ok (.iadd, 1) := by decide +kernel
theorem dX0_markOfLone_18 : decode cX0_markOfLone 18 = .ok (.invokevirtual 24, 3) := by decide +kernel
theorem dX0_markOfLone_21 : decode cX0_markOfLone 21 = .ok (.iadd, 1) := by decide +kernel
theorem dX0_markOfLone_22 : decode cX0_markOfLone 22 = .ok (.ireturn, 1) := by decide +kernel
theorem dX1_init_0 : decode cX1_init 0 = .ok (.aload_n 0, 1) := by decide +kernel
theorem dX1_init_1 : decode cX1_init 1 = .ok (.invokespecial 3, 3) := by decide +kernel
theorem dX1_init_4 : decode cX1_init 4 = .ok (.aload_n 0, 1) := by decide +kernel
theorem dX1_init_5 : decode cX1_init 5 = .ok (.bipush 8, 2) := by decide +kernel
theorem dX1_init_7 : decode cX1_init 7 = .ok (.newarray .int, 2) := by decide +kernel
theorem dX1_init_9 : decode cX1_init 9 = .ok (.putfield 9, 3) := by decide +kernel
theorem dX1_init_12 : decode cX1_init 12 = .ok (.return_, 1) := by decide +kernel
theorem dX1_size_0 : decode cX1_size 0 = .ok (.aload_n 0, 1) := by decide +kernel
theorem dX1_size_1 : decode cX1_size 1 = .ok (.getfield 15, 3) := by decide +kernel
theorem dX1_size_4 : decode cX1_size 4 = .ok (.ireturn, 1) := by decide +kernel
theorem dX1_isFull_0 : decode cX1_isFull 0 = .ok (.aload_n 0, 1) := by decide +kernel
theorem dX1_isFull_1 : decode cX1_isFull 1 = .ok (.getfield 15, 3) := by decide +kernel
theorem dX1_isFull_4 : decode cX1_isFull 4 = .ok (.bipush 8, 2) := by decide +kernel
theorem dX1_isFull_6 : decode cX1_isFull 6 = .ok (.if_icmp .lt 7, 3) := by decide +kernel
theorem dX1_isFull_9 : decode cX1_isFull 9 = .ok (.iconst 1, 1) := by decide +kernel
theorem dX1_isFull_10 : decode cX1_isFull 10 = .ok (.goto 4, 3) := by decide +kernel
theorem dX1_isFull_13 : decode cX1_isFull 13 = .ok (.iconst 0, 1) := by decide +kernel
theorem dX1_isFull_14 : decode cX1_isFull 14 = .ok (.ireturn, 1) := by decide +kernel
theorem dX1_add_0 : decode cX1_add 0 = .ok (.aload_n 0, 1) := by decide +kernel
theorem dX1_add_1 : decode cX1_add 1 = .ok (.dup, 1) := by decide +kernel
theorem dX1_add_2 : decode cX1_add 2 = .ok (.getfield 15, 3) := by decide +kernel
theorem dX1_add_5 : decode cX1_add 5 = .ok (.iconst 1, 1) := by decide +kernel
theorem dX1_add_6 : decode cX1_add 6 = .ok (.iadd, 1) := by decide +kernel
theorem dX1_add_7 : decode cX1_add 7 = .ok (.putfield 15, 3) := by decide +kernel
theorem dX1_add_10 : decode cX1_add 10 = .ok (.aload_n 0, 1) := by decide +kernel
theorem dX1_add_11 : decode cX1_add 11 = .ok (.getfield 15, 3) := by decide +kernel
theorem dX1_add_14 : decode cX1_add 14 = .ok (.iconst 1, 1) := by decide +kernel
theorem dX1_add_15 : decode cX1_add 15 = .ok (.isub, 1) := by decide +kernel
theorem dX1_add_16 : decode cX1_add 16 = .ok (.ireturn, 1) := by decide +kernel
theorem dX1_hasPost_0 : decode cX1_hasPost 0 = .ok (.iload_n 1, 1) := by decide +kernel
theorem dX1_hasPost_1 : decode cX1_hasPost 1 = .ok (.ifCond .lt 15, 3) := by decide +kernel
theorem dX1_hasPost_4 : decode cX1_hasPost 4 = .ok (.iload_n 1, 1) := by decide +kernel
theorem dX1_hasPost_5 : decode cX1_hasPost 5 = .ok (.aload_n 0, 1) := by decide +kernel
theorem dX1_hasPost_6 : decode cX1_hasPost 6 = .ok (.getfield 15, 3) := by decide +kernel
theorem dX1_hasPost_9 : decode cX1_hasPost 9 = .ok (.if_icmp .ge 7, 3) := by decide +kernel
theorem dX1_hasPost_12 : decode cX1_hasPost 12 = .ok (.iconst 1, 1) := by decide +kernel
theorem dX1_hasPost_13 : decode cX1_hasPost 13 = .ok (.goto 4, 3) := by decide +kernel
theorem dX1_hasPost_16 : decode cX1_hasPost 16 = .ok (.iconst 0, 1) := by decide +kernel
theorem dX1_hasPost_17 : decode cX1_hasPost 17 = .ok (.ireturn, 1) := by decide +kernel
theorem dX1_allPosts_0 : decode cX1_allPosts 0 = .ok (.iconst 1, 1) := by decide +kernel
theorem dX1_allPosts_1 : decode cX1_allPosts 1 = .ok (.aload_n 0, 1) := by decide +kernel
theorem dX1_allPosts_2 : decode cX1_allPosts 2 = .ok (.getfield 15, 3) := by decide +kernel
theorem dX1_allPosts_5 : decode cX1_allPosts 5 = .ok (.ishl, 1) := by decide +kernel
theorem dX1_allPosts_6 : decode cX1_allPosts 6 = .ok (.iconst 1, 1) := by decide +kernel
theorem dX1_allPosts_7 : decode cX1_allPosts 7 = .ok (.isub, 1) := by decide +kernel
theorem dX1_allPosts_8 : decode cX1_allPosts 8 = .ok (.ireturn, 1) := by decide +kernel
set_option maxRecDepth 20000 in
theorem ggX1_hasSet_X1_allPosts : GoodIn wsX1_hasSet wsX1_allPosts := goodIn_r _ [5, 6, 7, 8] (by decide +kernel) (by decide +kernel)
set_option maxRecDepth 20000 in
theorem gX1_hasSet_X1_allPosts : GoodIn wsX1_hasSet (wsV RX1 19 RX1 yX1_allPosts wsX1_allPosts) := goodIn_app (goodIn_of _ (by decide +kernel)) ggX1_hasSet_X1_allPosts
theorem dX1_hasSet_0 : decode cX1_hasSet 0 = .ok (.iload_n 1, 1) := by decide +kernel
theorem dX1_hasSet_1 : decode cX1_hasSet 1 = .ok (.aload_n 0, 1) := by decide +kernel
theorem dX1_hasSet_2 : decode cX1_hasSet 2 = .ok (.invokevirtual 19, 3) := by decide +kernel
theorem dX1_hasSet_5 : decode cX1_hasSet 5 = .ok (.iconst (-1), 1) := by decide +kernel
theorem dX1_hasSet_6 : decode cX1_hasSet 6 = .ok (.ixor, 1) := by decide +kernel
theorem dX1_hasSet_7 : decode cX1_hasSet 7 = .ok (.iand, 1) := by decide +kernel
theorem dX1_hasSet_8 : decode cX1_hasSet 8 = .ok (.ifCond .ne 7, 3) := by decide +kernel
theorem dX1_hasSet_11 : decode cX1_hasSet 11 = .ok (.iconst 1, 1) := by decide +kernel
theorem dX1_hasSet_12 : decode cX1_hasSet 12 = .ok (.goto 4, 3) := by decide +kernel
theorem dX1_hasSet_15 : decode cX1_hasSet 15 = .ok (.iconst 0, 1) := by decide +kernel
theorem dX1_hasSet_16 : decode cX1_hasSet 16 = .ok (.ireturn, 1) := by decide +kernel
theorem dX1_isLinked_0 : decode cX1_isLinked 0 = .ok (.aload_n 0, 1) := by decide +kernel
theorem dX1_isLinked_1 : decode cX1_isLinked 1 = .ok (.getfield 9, 3) := by decide +kernel
theorem dX1_isLinked_4 : decode cX1_isLinked 4 = .ok (.iload_n 1, 1) := by decide +kernel
theorem dX1_isLinked_5 : decode cX1_isLinked 5 = .ok (.iaload, 1) := by decide +kernel
theorem dX1_isLinked_6 : decode cX1_isLinked 6 = .ok (.iload_n 2, 1) := by decide +kernel
theorem dX1_isLinked_7 : decode cX1_isLinked 7 = .ok (.ishr, 1) := by decide +kernel
theorem dX1_isLinked_8 : decode cX1_isLinked 8 = .ok (.iconst 1, 1) := by decide +kernel
theorem dX1_isLinked_9 : decode cX1_isLinked 9 = .ok (.iand, 1) := by decide +kernel
theorem dX1_isLinked_10 : decode cX1_isLinked 10 = .ok (.iconst 1, 1) := by decide +kernel
theorem dX1_isLinked_11 : decode cX1_isLinked 11 = .ok (.if_icmp .ne 7, 3) := by decide +kernel
theorem dX1_isLinked_14 : decode cX1_isLinked 14 = .ok (.iconst 1, 1) := by decide +kernel
theorem dX1_isLinked_15 : decode cX1_isLinked 15 = .ok (.goto 4, 3) := by decide +kernel
theorem dX1_isLinked_18 : decode cX1_isLinked 18 = .ok (.iconst 0, 1) := by decide +kernel
theorem dX1_isLinked_19 : decode cX1_isLinked 19 = .ok (.ireturn, 1) := by decide +kernel
theorem dX1_toggle_0 : decode cX1_toggle 0 = .ok (.aload_n 0, 1) := by decide +kernel
theorem dX1_toggle_1 : decode cX1_toggle 1 = .ok (.getfield 9, 3) := by decide +kernel
theorem dX1_toggle_4 : decode cX1_toggle 4 = .ok (.iload_n 1, 1) := by decide +kernel
theorem dX1_toggle_5 : decode cX1_toggle 5 = .ok (.dup2, 1) := by decide +kernel
theorem dX1_toggle_6 : decode cX1_toggle 6 = .ok (.iaload, 1) := by decide +kernel
theorem dX1_toggle_7 : decode cX1_toggle 7 = .ok (.iconst 1, 1) := by decide +kernel
theorem dX1_toggle_8 : decode cX1_toggle 8 = .ok (.iload_n 2, 1) := by decide +kernel
theorem dX1_toggle_9 : decode cX1_toggle 9 = .ok (.ishl, 1) := by decide +kernel
theorem dX1_toggle_10 : decode cX1_toggle 10 = .ok (.ixor, 1) := by decide +kernel
theorem dX1_toggle_11 : decode cX1_toggle 11 = .ok (.iastore, 1) := by decide +kernel
theorem dX1_toggle_12 : decode cX1_toggle 12 = .ok (.aload_n 0, 1) := by decide +kernel
theorem dX1_toggle_13 : decode cX1_toggle 13 = .ok (.getfield 9, 3) := by decide +kernel
theorem dX1_toggle_16 : decode cX1_toggle 16 = .ok (.iload_n 2, 1) := by decide +kernel
theorem dX1_toggle_17 : decode cX1_toggle 17 = .ok (.dup2, 1) := by decide +kernel
theorem dX1_toggle_18 : decode cX1_toggle 18 = .ok (.iaload, 1) := by decide +kernel
theorem dX1_toggle_19 : decode cX1_toggle 19 = .ok (.iconst 1, 1) := by decide +kernel
theorem dX1_toggle_20 : decode cX1_toggle 20 = .ok (.iload_n 1, 1) := by decide +kernel
theorem dX1_toggle_21 : decode cX1_toggle 21 = .ok (.ishl, 1) := by decide +kernel
theorem dX1_toggle_22 : decode cX1_toggle 22 = .ok (.ixor, 1) := by decide +kernel
theorem dX1_toggle_23 : decode cX1_toggle 23 = .ok (.iastore, 1) := by decide +kernel
theorem dX1_toggle_24 : decode cX1_toggle 24 = .ok (.iconst 1, 1) := by decide +kernel
theorem dX1_toggle_25 : decode cX1_toggle 25 = .ok (.ireturn, 1) := by decide +kernel
theorem dX1_neighboursOf_0 : decode cX1_neighboursOf 0 = .ok (.aload_n 0, 1) := by decide +kernel
theorem dX1_neighboursOf_1 : decode cX1_neighboursOf 1 = .ok (.getfield 9, 3) := by decide +kernel
theorem dX1_neighboursOf_4 : decode cX1_neighboursOf 4 = .ok (.iload_n 1, 1) := by decide +kernel
theorem dX1_neighboursOf_5 : decode cX1_neighboursOf 5 = .ok (.iaload, 1) := by decide +kernel
theorem dX1_neighboursOf_6 : decode cX1_neighboursOf 6 = .ok (.ireturn, 1) := by decide +kernel
set_option maxRecDepth 20000 in
theorem ggX1_degree_J6_bitCount_0f7a4 : GoodIn wsX1_degree wsJ6_bitCount_0f7a4 := goodIn_r _ [5, 6, 7, 8] (by decide +kernel) (by decide +kernel)
set_option maxRecDepth 20000 in
theorem gX1_degree_J6_bitCount_0f7a4 : GoodIn wsX1_degree (va_wsS RX1 23 yJ6_bitCount_0f7a4 wsJ6_bitCount_0f7a4) := goodIn_app (goodIn_of _ (by decide +kernel)) ggX1_degree_J6_bitCount_0f7a4
theorem dX1_degree_0 : decode cX1_degree 0 = .ok (.aload_n 0, 1) := by decide +kernel
theorem dX1_degree_1 : decode cX1_degree 1 = .ok (.getfield 9, 3) := by decide +kernel
theorem dX1_degree_4 : decode cX1_degree 4 = .ok (.iload_n 1, 1) := by decide +kernel
theorem dX1_degree_5 : decode cX1_degree 5 = .ok (.iaload, 1) := by decide +kernel
theorem dX1_degree_6 : decode cX1_degree 6 = .ok (.invokestatic 23, 3) := by decide +kernel
theorem dX1_degree_9 : decode cX1_degree 9 = .ok (.ireturn, 1) := by decide +kernel
set_option maxRecDepth 20000 in
theorem ggX1_pairs_X1_degree : GoodIn wsX1_pairs wsX1_degree := goodIn_r _ [6, 7, 8, 9, 10, 11, 12, 13, 14, 15, 16] (by decide +kernel) (by decide +kernel)
set_option maxRecDepth 20000 in
theorem gX1_pairs_X1_degree : GoodIn wsX1_pairs (wsV RX1 29 RX1 yX1_degree wsX1_degree) := goodIn_app (goodIn_of _ (by decide +kernel)) ggX1_pairs_X1_degree
theorem dX1_pairs_0 : decode cX1_pairs 0 = .ok (.iconst 0, 1) := by decide +kernel
theorem dX1_pairs_1 : decode cX1_pairs 1 = .ok (.istore_n 1, 1) := by decide +kernel
theorem dX1_pairs_2 : decode cX1_pairs 2 = .ok (.iconst 0, 1) := by decide +kernel
theorem dX1_pairs_3 : decode cX1_pairs 3 = .ok (.istore_n 2, 1) := by decide +kernel
theorem dX1_pairs_4 : decode cX1_pairs 4 = .ok (.iload_n 2, 1) := by decide +kernel
theorem dX1_pairs_5 : decode cX1_pairs 5 = .ok (.aload_n 0, 1) := by decide +kernel
theorem dX1_pairs_6 : decode cX1_pairs 6 = .ok (.getfield 15, 3) := by decide +kernel
theorem dX1_pairs_9 : decode cX1_pairs 9 = .ok (.if_icmp .ge 17, 3) := by decide +kernel
theorem dX1_pairs_12 : decode cX1_pairs 12 = .ok (.iload_n 1, 1) := by decide +kernel
theorem dX1_pairs_13 : decode cX1_pairs 13 = .ok (.aload_n 0, 1) := by decide +kernel
theorem dX1_pairs_14 : decode cX1_pairs 14 = .ok (.iload_n 2, 1) := by decide +kernel
theorem dX1_pairs_15 : decode cX1_pairs 15 = .ok (.invokevirtual 29, 3) := by decide +kernel
theorem dX1_pairs_18 : decode cX1_pairs 18 = .ok (.iadd, 1) := by decide +kernel
theorem dX1_pairs_19 : decode cX1_pairs 19 = .ok (.istore_n 1, 1) := by decide +kernel
theorem dX1_pairs_20 : decode cX1_pairs 20 = .ok (.iinc 2 1, 3) := by decide +kernel
theorem dX1_pairs_23 : decode cX1_pairs 23 = .ok (.goto (-19), 3) := by decide +kernel
theorem dX1_pairs_26 : decode cX1_pairs 26 = .ok (.iload_n 1, 1) := by decide +kernel
theorem dX1_pairs_27 : decode cX1_pairs 27 = .ok (.iconst 2, 1) := by decide +kernel
theorem dX1_pairs_28 : decode cX1_pairs 28 = .ok (.idiv, 1) := by decide +kernel
theorem dX1_pairs_29 : decode cX1_pairs 29 = .ok (.ireturn, 1) := by decide +kernel
theorem dX1_oneStepFrom_0 : decode cX1_oneStepFrom 0 = .ok (.iload_n 1, 1) := by decide +kernel
theorem dX1_oneStepFrom_1 : decode cX1_oneStepFrom 1 = .ok (.istore_n 2, 1) := by decide +kernel
theorem dX1_oneStepFrom_2 : decode cX1_oneStepFrom 2 = .ok (.iconst 0, 1) := by decide +kernel
theorem dX1_oneStepFrom_3 : decode cX1_oneStepFrom 3 = .ok (.istore_n 3, 1) := by decide +kernel
theorem dX1_oneStepFrom_4 : decode cX1_oneStepFrom 4 = .ok (.iload_n 3, 1) := by decide +kernel
theorem dX1_oneStepFrom_5 : decode cX1_oneStepFrom 5 = .ok (.aload_n 0, 1) := by decide +kernel
theorem dX1_oneStepFrom_6 : decode cX1_oneStepFrom 6 = .ok (.getfield 15, 3) := by decide +kernel
theorem dX1_oneStepFrom_9 : decode cX1_oneStepFrom 9 = .ok (.if_icmp .ge 27, 3) := by decide +kernel
theorem dX1_oneStepFrom_12 : decode cX1_oneStepFrom 12 = .ok (.iload_n 1, 1) := by decide +kernel
theorem dX1_oneStepFrom_13 : decode cX1_oneStepFrom 13 = .ok (.iload_n 3, 1) := by decide +kernel
theorem dX1_oneStepFrom_14 : decode cX1_oneStepFrom 14 = .ok (.ishr, 1) := by decide +kernel
theorem dX1_oneStepFrom_15 : decode cX1_oneStepFrom 15 = .ok (.iconst 1, 1) := by decide +kernel
theorem dX1_oneStepFrom_16 : decode cX1_oneStepFrom 16 = .ok (.iand, 1) := by decide +kernel
theorem dX1_oneStepFrom_17 : decode cX1_oneStepFrom 17 = .ok (.iconst 1, 1) := by decide +kernel
theorem dX1_oneStepFrom_18 : decode cX1_oneStepFrom 18 = .ok (.if_icmp .ne 12, 3) := by decide +kernel
theorem dX1_oneStepFrom_21 : decode cX1_oneStepFrom 21 = .ok (.iload_n 2, 1) := by decide +kernel
theorem dX1_oneStepFrom_22 : decode cX1_oneStepFrom 22 = .ok (.aload_n 0, 1) := by decide +kernel
theorem dX1_oneStepFrom_23 : decode cX1_oneStepFrom 23 = .ok (.getfield 9, 3) := by decide +kernel
theorem dX1_oneStepFrom_26 : decode cX1_oneStepFrom 26 = .ok (.iload_n 3, 1) := by decide +kernel
theorem dX1_oneStepFrom_27 : decode cX1_oneStepFrom 27 = .ok (.iaload, 1) := by decide +kernel
theorem dX1_oneStepFrom_28 : decode cX1_oneStepFrom 28 = .ok (.ior, 1) := by decide +kernel
theorem dX1_oneStepFrom_29 : decode cX1_oneStepFrom 29 = .ok (.istore_n 2, 1) := by decide +kernel
theorem dX1_oneStepFrom_30 : decode cX1_oneStepFrom 30 = .ok (.iinc 3 1, 3) := by decide +kernel
theorem dX1_oneStepFrom_33 : decode cX1_oneStepFrom 33 = .ok (.goto (-29), 3) := by decide +kernel
theorem dX1_oneStepFrom_36 : decode cX1_oneStepFrom 36 = .ok (.iload_n 2, 1) := by decide +kernel
theorem dX1_oneStepFrom_37 : decode cX1_oneStepFrom 37 = .ok (.ireturn, 1) := by decide +kernel
set_option maxRecDepth 20000 in
theorem ggX1_reachOf_X1_oneStepFrom : GoodIn wsX1_reachOf wsX1_oneStepFrom := goodIn_r _ [6, 1, 7, 8, 9] (by decide +kernel) (by decide +kernel)
set_option maxRecDepth 20000 in
theorem gX1_reachOf_X1_oneStepFrom : GoodIn wsX1_reachOf (wsV RX1 32 RX1 yX1_oneStepFrom wsX1_oneStepFrom) := goodIn_app (goodIn_of _ (by decide +kernel)) ggX1_reachOf_X1_oneStepFrom
theorem dX1_reachOf_0 : decode cX1_reachOf 0 = .ok (.iload_n 1, 1) := by decide +kernel
theorem dX1_reachOf_1 : decode cX1_reachOf 1 = .ok (.istore_n 2, 1) := by decide +kernel
theorem dX1_reachOf_2 : decode cX1_reachOf 2 = .ok (.iconst 1, 1) := by decide +kernel
theorem dX1_reachOf_3 : decode cX1_reachOf 3 = .ok (.istore_n 3, 1) := by decide +kernel
theorem dX1_reachOf_4 : decode cX1_reachOf 4 = .ok (.iload_n 3, 1) := by decide +kernel
theorem dX1_reachOf_5 : decode cX1_reachOf 5 = .ok (.aload_n 0, 1) := by decide +kernel
theorem dX1_reachOf_6 : decode cX1_reachOf 6 = .ok (.getfield 15, 3) := by decide +kernel
theorem dX1_reachOf_9 : decode cX1_reachOf 9 = .ok (.if_icmp .ge 15, 3) := by decide +kernel
theorem dX1_reachOf_12 : decode cX1_reachOf 12 = .ok (.aload_n 0, 1) := by decide +kernel
theorem dX1_reachOf_13 : decode cX1_reachOf 13 = .ok (.iload_n 2, 1) := by decide +kernel
theorem dX1_reachOf_14 : decode cX1_reachOf 14 = .ok (.invokevirtual 32, 3) := by decide +kernel
theorem dX1_reachOf_17 : decode cX1_reachOf 17 = .ok (.istore_n 2, 1) := by decide +kernel
theorem dX1_reachOf_18 : decode cX1_reachOf 18 = .ok (.iinc 3 1, 3) := by decide +kernel
theorem dX1_reachOf_21 : decode cX1_reachOf 21 = .ok (.goto (-17), 3) := by decide +kernel
theorem dX1_reachOf_24 : decode cX1_reachOf 24 = .ok (.iload_n 2, 1) := by decide +kernel
theorem dX1_reachOf_25 : decode cX1_reachOf 25 = .ok (.ireturn, 1) := by decide +kernel
set_option maxRecDepth 20000 in
theorem ggX1_stepsBetween_X1_oneStepFrom : GoodIn wsX1_stepsBetween wsX1_oneStepFrom := goodIn_r _ [7, 1, 8, 9, 10] (by decide +kernel) (by decide +kernel)
set_option maxRecDepth 20000 in
theorem gX1_stepsBetween_X1_oneStepFrom : GoodIn wsX1_stepsBetween (wsV RX1 32 RX1 yX1_oneStepFrom wsX1_oneStepFrom) := goodIn_app (goodIn_of _ (by decide +kernel)) ggX1_stepsBetween_X1_oneStepFrom
theorem dX1_stepsBetween_0 : decode cX1_stepsBetween 0 = .ok (.iconst 1, 1) := by decide +kernel
theorem dX1_stepsBetween_1 : decode cX1_stepsBetween 1 = .ok (.iload_n 1, 1) := by decide +kernel
theorem dX1_stepsBetween_2 : decode cX1_stepsBetween 2 = .ok (.ishl, 1) := by decide +kernel
theorem dX1_stepsBetween_3 : decode cX1_stepsBetween 3 = .ok (.istore_n 3, 1) := by decide +kernel
theorem dX1_stepsBetween_4 : decode cX1_stepsBetween 4 = .ok (.iconst 0, 1) := by decide +kernel
theorem dX1_stepsBetween_5 : decode cX1_stepsBetween 5 = .ok (.istore 4, 2) := by decide +kernel
theorem dX1_stepsBetween_7 : decode cX1_stepsBetween 7 = .ok (.iload 4, 2) := by decide +kernel
theorem dX1_stepsBetween_9 : decode cX1_stepsBetween 9 = .ok (.aload_n 0, 1) := by decide +kernel
theorem dX1_stepsBetween_10 : decode cX1_stepsBetween 10 = .ok (.getfield 15, 3) := by decide +kernel
theorem dX1_stepsBetween_13 : decode cX1_stepsBetween 13 = .ok (.if_icmp .ge 27, 3) := by decide +kernel
theorem dX1_stepsBetween_16 : decode cX1_stepsBetween 16 = .ok (.iload_n 3, 1) := by decide +kernel
theorem dX1_stepsBetween_17 : decode cX1_stepsBetween 17 = .ok (.iload_n 2, 1) := by decide +kernel
theorem dX1_stepsBetween_18 : decode cX1_stepsBetween 18 = .ok (.ishr, 1) := by decide +kernel
theorem dX1_stepsBetween_19 : decode cX1_stepsBetween 19 = .ok (.iconst 1, 1) := by decide +kernel
theorem dX1_stepsBetween_20 : decode cX1_stepsBetween 20 = .ok (.iand, 1) := by decide +kernel
theorem dX1_stepsBetween_21 : decode cX1_stepsBetween 21 = .ok (.iconst 1, 1) := by decide +kernel
theorem dX1_stepsBetween_22 : decode cX1_stepsBetween 22 = .ok (.if_icmp .ne 6, 3) := by decide +kernel
theorem dX1_stepsBetween_25 : decode cX1_stepsBetween 25 = .ok (.iload 4, 2) := by decide +kernel
theorem dX1_stepsBetween_27 : decode cX1_stepsBetween 27 = .ok (.ireturn, 1) := by decide +kernel
theorem dX1_stepsBetween_28 : decode cX1_stepsBetween 28 = .ok (.aload_n 0, 1) := by decide +kernel
theorem dX1_stepsBetween_29 : decode cX1_stepsBetween 29 = .ok (.iload_n 3, 1) := by decide +kernel
theorem dX1_stepsBetween_30 : decode cX1_stepsBetween 30 = .ok (.invokevirtual 32, 3) := by decide +kernel
theorem dX1_stepsBetween_33 : decode cX1_stepsBetween 33 = .ok (.istore_n 3, 1) := by decide +kernel
theorem dX1_stepsBetween_34 : decode cX1_stepsBetween 34 = .ok (.iinc 4 1, 3) := by decide +kernel
theorem dX1_stepsBetween_37 : decode cX1_stepsBetween 37 = .ok (.goto (-30), 3) := by decide +kernel
theorem dX1_stepsBetween_40 : decode cX1_stepsBetween 40 = .ok (.ldc 35, 2) := by decide +kernel
theorem dX1_stepsBetween_42 : decode cX1_stepsBetween 42 = .ok (.ireturn, 1) := by decide +kernel
set_option maxRecDepth 20000 in
theorem ggX1_width_X1_oneStepFrom : GoodIn wsX1_width wsX1_oneStepFrom := goodIn_r _ [6, 1, 7, 8, 9] (by decide +kernel) (by decide +kernel)
set_option maxRecDepth 20000 in
theorem gX1_width_X1_oneStepFrom : GoodIn wsX1_width (wsV RX1 32 RX1 yX1_oneStepFrom wsX1_oneStepFrom) := goodIn_app (goodIn_of _ (by decide +kernel)) ggX1_width_X1_oneStepFrom
theorem dX1_width_0 : decode cX1_width 0 = .ok (.iconst 1, 1) := by decide +kernel
theorem dX1_width_1 : decode cX1_width 1 = .ok (.iload_n 1, 1) := by decide +kernel
theorem dX1_width_2 : decode cX1_width 2 = .ok (.ishl, 1) := by decide +kernel
theorem dX1_width_3 : decode cX1_width 3 = .ok (.istore_n 2, 1) := by decide +kernel
theorem dX1_width_4 : decode cX1_width 4 = .ok (.iconst 0, 1) := by decide +kernel
theorem dX1_width_5 : decode cX1_width 5 = .ok (.istore_n 3, 1) := by decide +kernel
theorem dX1_width_6 : decode cX1_width 6 = .ok (.iconst 1, 1) := by decide +kernel
theorem dX1_width_7 : decode cX1_width 7 = .ok (.istore 4, 2) := by decide +kernel
theorem dX1_width_9 : decode cX1_width 9 = .ok (.iload 4, 2) := by decide +kernel
theorem dX1_width_11 : decode cX1_width 11 = .ok (.aload_n 0, 1) := by decide +kernel
theorem dX1_width_12 : decode cX1_width 12 = .ok (.getfield 15, 3) := by decide +kernel
theorem dX1_width_15 : decode cX1_width 15 = .ok (.if_icmp .ge 32, 3) := by decide +kernel
theorem dX1_width_18 : decode cX1_width 18 = .ok (.aload_n 0, 1) := by decide +kernel
theorem dX1_width_19 : decode cX1_width 19 = .ok (.iload_n 2, 1) := by decide +kernel
theorem dX1_width_20 : decode cX1_width 20 = .ok (.invokevirtual 32, 3) := by decide +kernel
theorem dX1_width_23 : decode cX1_width 23 = .ok (.istore 5, 2) := by decide +kernel
theorem dX1_width_25 : decode cX1_width 25 = .ok (.iload 5, 2) := by decide +kernel
theorem dX1_width_27 : decode cX1_width 27 = .ok (.iload_n 2, 1) := by decide +kernel
theorem dX1_width_28 : decode cX1_width 28 = .ok (.if_icmp .ne 7, 3) := by decide +kernel
theorem dX1_width_31 : decode cX1_width 31 = .ok (.iload_n 3, 1) := by decide +kernel
theorem dX1_width_32 : decode cX1_width 32 = .ok (.goto 5, 3) := by decide +kernel
theorem dX1_width_35 : decode cX1_width 35 = .ok (.iload 4, 2) := by decide +kernel
theorem dX1_width_37 : decode cX1_width 37 = .ok (.istore_n 3, 1) := by decide +kernel
theorem dX1_width_38 : decode cX1_width 38 = .ok (.iload 5, 2) := by decide +kernel
theorem dX1_width_40 : decode cX1_width 40 = .ok (.istore_n 2, 1) := by decide +kernel
theorem dX1_width_41 : decode cX1_width 41 = .ok (.iinc 4 1, 3) := by decide +kernel
theorem dX1_width_44 : decode cX1_width 44 = .ok (.goto (-35), 3) := by decide +kernel
theorem dX1_width_47 : decode cX1_width 47 = .ok (.iload_n 3, 1) := by decide +kernel
theorem dX1_width_48 : decode cX1_width 48 = .ok (.ireturn, 1) := by decide +kernel
theorem dX1_heardBy_0 : decode cX1_heardBy 0 = .ok (.iconst 0, 1) := by decide +kernel
theorem dX1_heardBy_1 : decode cX1_heardBy 1 = .ok (.istore_n 3, 1) := by decide +kernel
theorem dX1_heardBy_2 : decode cX1_heardBy 2 = .ok (.iconst 0, 1) := by decide +kernel
theorem dX1_heardBy_3 : decode cX1_heardBy 3 = .ok (.istore 4, 2) := by decide +kernel
theorem dX1_heardBy_5 : decode cX1_heardBy 5 = .ok (.iconst 0, 1) := by decide +kernel
theorem dX1_heardBy_6 : decode cX1_heardBy 6 = .ok (.istore 5, 2) := by decide +kernel
theorem dX1_heardBy_8 : decode cX1_heardBy 8 = .ok (.iload 5, 2) := by decide +kernel
theorem dX1_heardBy_10 : decode cX1_heardBy 10 = .ok (.aload_n 0, 1) := by decide +kernel
theorem dX1_heardBy_11 : decode cX1_heardBy 11 = .ok (.getfield 15, 3) := by decide +kernel
theorem dX1_heardBy_14 : decode cX1_heardBy 14 = .ok (.if_icmp .ge 43, 3) := by decide +kernel
theorem dX1_heardBy_17 : decode cX1_heardBy 17 = .ok (.iload_n 2, 1) := by decide +kernel
theorem dX1_heardBy_18 : decode cX1_heardBy 18 = .ok (.iload 5, 2) := by decide +kernel
theorem dX1_heardBy_20 : decode cX1_heardBy 20 = .ok (.ishr, 1) := by decide +kernel
theorem dX1_heardBy_21 : decode cX1_heardBy 21 = .ok (.iconst 1, 1) := by decide +kernel
theorem dX1_heardBy_22 : decode cX1_heardBy 22 = .ok (.iand, 1) := by decide +kernel
theorem dX1_heardBy_23 : decode cX1_heardBy 23 = .ok (.iconst 1, 1) := by decide +kernel
theorem dX1_heardBy_24 : decode cX1_heardBy 24 = .ok (.if_icmp .ne 27, 3) := by decide +kernel
theorem dX1_heardBy_27 : decode cX1_heardBy 27 = .ok (.iload 4, 2) := by decide +kernel
theorem dX1_heardBy_29 : decode cX1_heardBy 29 = .ok (.iload_n 3, 1) := by decide +kernel
theorem dX1_heardBy_30 : decode cX1_heardBy 30 = .ok (.aload_n 0, 1) := by decide +kernel
theorem dX1_heardBy_31 : decode cX1_heardBy 31 = .ok (.getfield 9, 3) := by decide +kernel
theorem dX1_heardBy_34 : decode cX1_heardBy 34 = .ok (.iload 5, 2) := by decide +kernel
theorem dX1_heardBy_36 : decode cX1_heardBy 36 = .ok (.iaload, 1) := by decide +kernel
theorem dX1_heardBy_37 : decode cX1_heardBy 37 = .ok (.iand, 1) := by decide +kernel
theorem dX1_heardBy_38 : decode cX1_heardBy 38 = .ok (.ior, 1) := by decide +kernel
theorem dX1_heardBy_39 : decode cX1_heardBy 39 = .ok (.istore 4, 2) := by decide +kernel
theorem dX1_heardBy_41 : decode cX1_heardBy 41 = .ok (.iload_n 3, 1) := by decide +kernel
theorem dX1_heardBy_42 : decode cX1_heardBy 42 = .ok (.aload_n 0, 1) := by decide +kernel
theorem dX1_heardBy_43 : decode cX1_heardBy 43 = .ok (.getfield 9, 3) := by decide +kernel
theorem dX1_heardBy_46 : decode cX1_heardBy 46 = .ok (.iload 5, 2) := by decide +kernel
theorem dX1_heardBy_48 : decode cX1_heardBy 48 = .ok (.iaload, 1) := by decide +kernel
theorem dX1_heardBy_49 : decode cX1_heardBy 49 = .ok (.ior, 1) := by decide +kernel
theorem dX1_heardBy_50 : decode cX1_heardBy 50 = .ok (.istore_n 3, 1) := by decide +kernel
theorem dX1_heardBy_51 : decode cX1_heardBy 51 = .ok (.iinc 5 1, 3) := by decide +kernel
theorem dX1_heardBy_54 : decode cX1_heardBy 54 = .ok (.goto (-46), 3) := by decide +kernel
theorem dX1_heardBy_57 : decode cX1_heardBy 57 = .ok (.iload_n 1, 1) := by decide +kernel
theorem dX1_heardBy_58 : decode cX1_heardBy 58 = .ok (.iconst 1, 1) := by decide +kernel
theorem dX1_heardBy_59 : decode cX1_heardBy 59 = .ok (.if_icmp .ne 12, 3) := by decide +kernel
theorem dX1_heardBy_62 : decode cX1_heardBy 62 = .ok (.iload_n 3, 1) := by decide +kernel
theorem dX1_heardBy_63 : decode cX1_heardBy 63 = .ok (.iload 4, 2) := by decide +kernel
theorem dX1_heardBy_65 : decode cX1_heardBy 65 = .ok (.iconst (-1), 1) := by decide +kernel
theorem dX1_heardBy_66 : decode cX1_heardBy 66 = .ok (.ixor, 1) := by decide +kernel
theorem dX1_heardBy_67 : decode cX1_heardBy 67 = .ok (.iand, 1) := by decide +kernel
theorem dX1_heardBy_68 : decode cX1_heardBy 68 = .ok (.goto 4, 3) := by decide +kernel
theorem dX1_heardBy_71 : decode cX1_heardBy 71 = .ok (.iload_n 3, 1) := by decide +kernel
theorem dX1_heardBy_72 : decode cX1_heardBy 72 = .ok (.istore 5, 2) := by decide +kernel
theorem dX1_heardBy_74 : decode cX1_heardBy 74 = .ok (.iload 5, 2) := by decide +kernel
theorem dX1_heardBy_76 : decode cX1_heardBy 76 = .ok (.iload_n 2, 1) := by decide +kernel
theorem dX1_heardBy_77 : decode cX1_heardBy 77 = .ok (.iconst (-1), 1) := by decide +kernel
theorem dX1_heardBy_78 : decode cX1_heardBy 78 = .ok (.ixor, 1) := by decide +kernel
theorem dX1_heardBy_79 : decode cX1_heardBy 79 = .ok (.iand, 1) := by decide +kernel
theorem dX1_heardBy_80 : decode cX1_heardBy 80 = .ok (.ireturn, 1) := by decide +kernel
set_option maxRecDepth 20000 in
theorem ggX1_knowAfter_X1_heardBy : GoodIn wsX1_knowAfter wsX1_heardBy := goodIn_r _ [5, 6, 7, 8, 9] (by decide +kernel) (by decide +kernel)
set_option maxRecDepth 20000 in
theorem gX1_knowAfter_X1_heardBy : GoodIn wsX1_knowAfter (wsV RX1 36 RX1 yX1_heardBy wsX1_heardBy) := goodIn_app (goodIn_of _ (by decide +kernel)) ggX1_knowAfter_X1_heardBy
theorem dX1_knowAfter_0 : decode cX1_knowAfter 0 = .ok (.iload_n 2, 1) := by decide +kernel
theorem dX1_knowAfter_1 : decode cX1_knowAfter 1 = .ok (.aload_n 0, 1) := by decide +kernel
theorem dX1_knowAfter_2 : decode cX1_knowAfter 2 = .ok (.iload_n 1, 1) := by decide +kernel
theorem dX1_knowAfter_3 : decode cX1_knowAfter 3 = .ok (.iload_n 2, 1) := by decide +kernel
theorem dX1_knowAfter_4 : decode cX1_knowAfter 4 = .ok (.iload_n 3, 1) := by decide +kernel
theorem dX1_knowAfter_5 : decode cX1_knowAfter 5 = .ok (.iand, 1) := by decide +kernel
theorem dX1_knowAfter_6 : decode cX1_knowAfter 6 = .ok (.invokevirtual 36, 3) := by decide +kernel
theorem dX1_knowAfter_9 : decode cX1_knowAfter 9 = .ok (.ior, 1) := by decide +kernel
theorem dX1_knowAfter_10 : decode cX1_knowAfter 10 = .ok (.ireturn, 1) := by decide +kernel
set_option maxRecDepth 20000 in
theorem ggX1_kindOf_X1_degree : GoodIn wsX1_kindOf wsX1_degree := goodIn_r _ [5, 6, 7, 8, 9, 10, 11, 12, 13, 23, 24] (by decide +kernel) (by decide +kernel)
set_option maxRecDepth 20000 in
theorem gX1_kindOf_X1_degree : GoodIn wsX1_kindOf (wsV RX1 29 RX1 yX1_degree wsX1_degree) := goodIn_app (goodIn_of _ (by decide +kernel)) ggX1_kindOf_X1_degree
set_option maxRecDepth 20000 in
theorem ggX1_kindOf_X1_mostNeighbours : GoodIn wsX1_kindOf wsX1_mostNeighbours := goodIn_r _ [17, 18, 19, 20, 21, 22, 1, 2, 3, 4, 5, 6, 7, 8, 9, 10, 11, 12, 13, 23, 24] (by decide +kernel) (by decide +kernel)
set_option maxRecDepth 20000 in
theorem gX1_kindOf_X1_mostNeighbours : GoodIn wsX1_kindOf (wsV RX1 40 RX1 yX1_mostNeighbours wsX1_mostNeighbours) := goodIn_app (goodIn_of _ (by decide +kernel)) ggX1_kindOf_X1_mostNeighbours
theorem dX1_kindOf_0 : decode cX1_kindOf 0 = .ok (.aload_n 0, 1) := by decide +kernel
theorem dX1_kindOf_1 : decode cX1_kindOf 1 = .ok (.iload_n 1, 1) := by decide +kernel
theorem dX1_kindOf_2 : decode cX1_kindOf 2 = .ok (.invokevirtual 29, 3) := by decide +kernel
theorem dX1_kindOf_5 : decode cX1_kindOf 5 = .ok (.istore_n 2, 1) := by decide +kernel
theorem dX1_kindOf_6 : decode cX1_kindOf 6 = .ok (.iload_n 2, 1) := by decide +kernel
theorem dX1_kindOf_7 : decode cX1_kindOf 7 = .ok (.ifCond .ne 5, 3) := by decide +kernel
theorem dX1_kindOf_10 : decode cX1_kindOf 10 = .ok (.iconst 4, 1) := by decide +kernel
theorem dX1_kindOf_11 : decode cX1_kindOf 11 = .ok (.ireturn, 1) := by decide +kernel
theorem dX1_kindOf_12 : decode cX1_kindOf 12 = .ok (.iload_n 2, 1) := by decide +kernel
theorem dX1_kindOf_13 : decode cX1_kindOf 13 = .ok (.iconst 1, 1) := by decide +kernel
theorem dX1_kindOf_14 : decode cX1_kindOf 14 = .ok (.if_icmp .ne 5, 3) := by decide +kernel
theorem dX1_kindOf_17 : decode cX1_kindOf 17 = .ok (.iconst 2, 1) := by decide +kernel
theorem dX1_kindOf_18 : decode cX1_kindOf 18 = .ok (.ireturn, 1) := by decide +kernel
theorem dX1_kindOf_19 : decode cX1_kindOf 19 = .ok (.iload_n 2, 1) := by decide +kernel
theorem dX1_kindOf_20 : decode cX1_kindOf 20 = .ok (.aload_n 0, 1) := by decide +kernel
theorem dX1_kindOf_21 : decode cX1_kindOf 21 = .ok (.invokevirtual 40, 3) := by decide +kernel
theorem dX1_kindOf_24 : decode cX1_kindOf 24 = .ok (.if_icmp .ne 7, 3) := by decide +kernel
theorem dX1_kindOf_27 : decode cX1_kindOf 27 = .ok (.iconst 3, 1) := by decide +kernel
theorem dX1_kindOf_28 : decode cX1_kindOf 28 = .ok (.goto 4, 3) := by decide +kernel
theorem dX1_kindOf_31 : decode cX1_kindOf 31 = .ok (.iconst 1, 1) := by decide +kernel
theorem dX1_kindOf_32 : decode cX1_kindOf 32 = .ok (.ireturn, 1) := by decide +kernel
set_option maxRecDepth 20000 in
theorem ggX1_mostNeighbours_X1_degree : GoodIn wsX1_mostNeighbours wsX1_degree := goodIn_r _ [10, 11, 12, 13, 14, 15, 16, 17, 18, 19, 20] (by decide +kernel) (by decide +kernel)
set_option maxRecDepth 20000 in
theorem gX1_mostNeighbours_X1_degree : GoodIn wsX1_mostNeighbours (wsV RX1 29 RX1 yX1_degree wsX1_degree) := goodIn_app (goodIn_of _ (by decide +kernel)) ggX1_mostNeighbours_X1_degree
theorem dX1_mostNeighbours_0 : decode cX1_mostNeighbours 0 = .ok (.iconst 0, 1) := by decide +kernel
theorem dX1_mostNeighbours_1 : decode cX1_mostNeighbours 1 = .ok (.istore_n 1, 1) := by decide +kernel
theorem dX1_mostNeighbours_2 : decode cX1_mostNeighbours 2 = .ok (.iconst 0, 1) := by decide +kernel
theorem dX1_mostNeighbours_3 : decode cX1_mostNeighbours 3 = .ok (.istore_n 2, 1) := by decide +kernel
theorem dX1_mostNeighbours_4 : decode cX1_mostNeighbours 4 = .ok (.iload_n 2, 1) := by decide +kernel
theorem dX1_mostNeighbours_5 : decode cX1_mostNeighbours 5 = .ok (.aload_n 0, 1) := by decide +kernel
theorem dX1_mostNeighbours_6 : decode cX1_mostNeighbours 6 = .ok (.getfield 15, 3) := by decide +kernel
theorem dX1_mostNeighbours_9 : decode cX1_mostNeighbours 9 = .ok (.if_icmp .ge 19, 3) := by decide +kernel
theorem dX1_mostNeighbours_12 : decode cX1_mostNeighbours 12 = .ok (.iload_n 1, 1) := by decide +kernel
theorem dX1_mostNeighbours_13 : decode cX1_mostNeighbours 13 = .ok (.aload_n 0, 1) := by decide +kernel
theorem dX1_mostNeighbours_14 : decode cX1_mostNeighbours 14 = .ok (.iload_n 2, 1) := by decide +kernel
theorem dX1_mostNeighbours_15 : decode cX1_mostNeighbours 15 = .ok (.invokevirtual 29, 3) := by decide +kernel
theorem dX1_mostNeighbours_18 : decode cX1_mostNeighbours 18 = .ok (.invokestatic 43, 3) := by decide +kernel
theorem dX1_mostNeighbours_21 : decode cX1_mostNeighbours 21 = .ok (.istore_n 1, 1) := by decide +kernel
theorem dX1_mostNeighbours_22 : decode cX1_mostNeighbours 22 = .ok (.iinc 2 1, 3) := by decide +kernel
theorem dX1_mostNeighbours_25 : decode cX1_mostNeighbours 25 = .ok (.goto (-21), 3) := by decide +kernel
theorem dX1_mostNeighbours_28 : decode cX1_mostNeighbours 28 = .ok (.iload_n 1, 1) := by decide +kernel
theorem dX1_mostNeighbours_29 : decode cX1_mostNeighbours 29 = .ok (.ireturn, 1) := by decide +kernel
set_option maxRecDepth 20000 in
theorem ggX1_isOfKind_X1_kindOf : GoodIn wsX1_isOfKind wsX1_kindOf := goodIn_r _ [5, 6, 7, 8, 4, 9, 10, 11, 12, 13, 14, 15, 16, 17, 18, 19, 20, 21, 22, 23, 24, 25, 26, 27, 28] (by decide +kernel) (by decide +kernel)
set_option maxRecDepth 20000 in
theorem gX1_isOfKind_X1_kindOf : GoodIn wsX1_isOfKind (wsV RX1 48 RX1 yX1_kindOf wsX1_kindOf) := goodIn_app (goodIn_of _ (by decide +kernel)) ggX1_isOfKind_X1_kindOf
theorem dX1_isOfKind_0 : decode cX1_isOfKind 0 = .ok (.aload_n 0, 1) := by decide +kernel
theorem dX1_isOfKind_1 : decode cX1_isOfKind 1 = .ok (.iload_n 1, 1) := by decide +kernel
theorem dX1_isOfKind_2 : decode cX1_isOfKind 2 = .ok (.invokevirtual 48, 3) := by decide +kernel
theorem dX1_isOfKind_5 : decode cX1_isOfKind 5 = .ok (.istore_n 3, 1) := by decide +kernel
theorem dX1_isOfKind_6 : decode cX1_isOfKind 6 = .ok (.iload_n 2, 1) := by decide +kernel
theorem dX1_isOfKind_7 : decode cX1_isOfKind 7 = .ok (.ifCond .eq 18, 3) := by decide +kernel
theorem dX1_isOfKind_10 : decode cX1_isOfKind 10 = .ok (.iload_n 2, 1) := by decide +kernel
theorem dX1_isOfKind_11 : decode cX1_isOfKind 11 = .ok (.iload_n 3, 1) := by decide +kernel
theorem dX1_isOfKind_12 : decode cX1_isOfKind 12 = .ok (.if_icmp .eq 13, 3) := by decide +kernel
theorem dX1_isOfKind_15 : decode cX1_isOfKind 15 = .ok (.iload_n 2, 1) := by decide +kernel
theorem dX1_isOfKind_16 : decode cX1_isOfKind 16 = .ok (.iconst 1, 1) := by decide +kernel
theorem dX1_isOfKind_17 : decode cX1_isOfKind 17 = .ok (.if_icmp .ne 12, 3) := by decide +kernel
theorem dX1_isOfKind_20 : decode cX1_isOfKind 20 = .ok (.iload_n 3, 1) := by decide +kernel
theorem dX1_isOfKind_21 : decode cX1_isOfKind 21 = .ok (.iconst 4, 1) := by decide +kernel
theorem dX1_isOfKind_22 : decode cX1_isOfKind 22 = .ok (.if_icmp .eq 7, 3) := by decide +kernel
theorem dX1_isOfKind_25 : decode cX1_isOfKind 25 = .ok (.iconst 1, 1) := by decide +kernel
theorem dX1_isOfKind_26 : decode cX1_isOfKind 26 = .ok (.goto 4, 3) := by decide +kernel
theorem dX1_isOfKind_29 : decode cX1_isOfKind 29 = .ok (.iconst 0, 1) := by decide +kernel
theorem dX1_isOfKind_30 : decode cX1_isOfKind 30 = .ok (.ireturn, 1) := by decide +kernel
set_option maxRecDepth 20000 in
theorem ggX1_countOf_X1_kindOf : GoodIn wsX1_countOf wsX1_kindOf := goodIn_r _ [6, 7, 8, 9, 5, 10, 11, 12, 13, 14, 15, 16, 17, 18, 19, 20, 21, 22, 1, 23, 24, 25, 26, 27, 28] (by decide +kernel) (by decide +kernel)
set_option maxRecDepth 20000 in
theorem gX1_countOf_X1_kindOf : GoodIn wsX1_countOf (wsV RX1 48 RX1 yX1_kindOf wsX1_kindOf) := goodIn_app (goodIn_of _ (by decide +kernel)) ggX1_countOf_X1_kindOf
theorem dX1_countOf_0 : decode cX1_countOf 0 = .ok (.iconst 0, 1) := by decide +kernel
theorem dX1_countOf_1 : decode cX1_countOf 1 = .ok (.istore_n 2, 1) := by decide +kernel
theorem dX1_countOf_2 : decode cX1_countOf 2 = .ok (.iconst 0, 1) := by decide +kernel
theorem dX1_countOf_3 : decode cX1_countOf 3 = .ok (.istore_n 3, 1) := by decide +kernel
theorem dX1_countOf_4 : decode cX1_countOf 4 = .ok (.iload_n 3, 1) := by decide +kernel
theorem dX1_countOf_5 : decode cX1_countOf 5 = .ok (.aload_n 0, 1) := by decide +kernel
theorem dX1_countOf_6 : decode cX1_countOf 6 = .ok (.getfield 15, 3) := by decide +kernel
theorem dX1_countOf_9 : decode cX1_countOf 9 = .ok (.if_icmp .ge 26, 3) := by decide +kernel
theorem dX1_countOf_12 : decode cX1_countOf 12 = .ok (.iload_n 2, 1) := by decide +kernel
theorem dX1_countOf_13 : decode cX1_countOf 13 = .ok (.aload_n 0, 1) := by decide +kernel
theorem dX1_countOf_14 : decode cX1_countOf 14 = .ok (.iload_n 3, 1) := by decide +kernel
theorem dX1_countOf_15 : decode cX1_countOf 15 = .ok (.invokevirtual 48, 3) := by decide +kernel
theorem dX1_countOf_18 : decode cX1_countOf 18 = .ok (.iload_n 1, 1) := by decide +kernel
theorem dX1_countOf_19 : decode cX1_countOf 19 = .ok (.if_icmp .ne 7, 3) := by decide +kernel
theorem dX1_countOf_22 : decode cX1_countOf 22 = .ok (.iconst 1, 1) := by decide +kernel
theorem dX1_countOf_23 : decode cX1_countOf 23 = .ok (.goto 4, 3) := by decide +kernel
theorem dX1_countOf_26 : decode cX1_countOf 26 = .ok (.iconst 0, 1) := by decide +kernel
theorem dX1_countOf_27 : decode cX1_countOf 27 = .ok (.iadd, 1) := by decide +kernel
theorem dX1_countOf_28 : decode cX1_countOf 28 = .ok (.istore_n 2, 1) := by decide +kernel
theorem dX1_countOf_29 : decode cX1_countOf 29 = .ok (.iinc 3 1, 3) := by decide +kernel
theorem dX1_countOf_32 : decode cX1_countOf 32 = .ok (.goto (-28), 3) := by decide +kernel
theorem dX1_countOf_35 : decode cX1_countOf 35 = .ok (.iload_n 2, 1) := by decide +kernel
theorem dX1_countOf_36 : decode cX1_countOf 36 = .ok (.ireturn, 1) := by decide +kernel
theorem dX2_init_0 : decode cX2_init 0 = .ok (.aload_n 0, 1) := by decide +kernel
theorem dX2_init_1 : decode cX2_init 1 = .ok (.invokespecial 3, 3) := by decide +kernel
theorem dX2_init_4 : decode cX2_init 4 = .ok (.aload_n 0, 1) := by decide +kernel
theorem dX2_init_5 : decode cX2_init 5 = .ok (.sipush 300, 3) := by decide +kernel
theorem dX2_init_8 : decode cX2_init 8 = .ok (.newarray .int, 2) := by decide +kernel
theorem dX2_init_10 : decode cX2_init 10 = .ok (.putfield 9, 3) := by decide +kernel
theorem dX2_init_13 : decode cX2_init 13 = .ok (.aload_n 0, 1) := by decide +kernel
theorem dX2_init_14 : decode cX2_init 14 = .ok (.bipush 20, 2) := by decide +kernel
theorem dX2_init_16 : decode cX2_init 16 = .ok (.newarray .int, 2) := by decide +kernel
theorem dX2_init_18 : decode cX2_init 18 = .ok (.putfield 15, 3) := by decide +kernel
theorem dX2_init_21 : decode cX2_init 21 = .ok (.return_, 1) := by decide +kernel
theorem dX2_size_0 : decode cX2_size 0 = .ok (.aload_n 0, 1) := by decide +kernel
theorem dX2_size_1 : decode cX2_size 1 = .ok (.getfield 18, 3) := by decide +kernel
theorem dX2_size_4 : decode cX2_size 4 = .ok (.ireturn, 1) := by decide +kernel
theorem dX2_hasRoom_0 : decode cX2_hasRoom 0 = .ok (.iload_n 1, 1) := by decide +kernel
theorem dX2_hasRoom_1 : decode cX2_hasRoom 1 = .ok (.sipush 300, 3) := by decide +kernel
theorem dX2_hasRoom_4 : decode cX2_hasRoom 4 = .ok (.aload_n 0, 1) := by decide +kernel
theorem dX2_hasRoom_5 : decode cX2_hasRoom 5 = .ok (.getfield 18, 3) := by decide +kernel
theorem dX2_hasRoom_8 : decode cX2_hasRoom 8 = .ok (.isub, 1) := by decide +kernel
theorem dX2_hasRoom_9 : decode cX2_hasRoom 9 = .ok (.if_icmp .gt 7, 3) := by decide +kernel
theorem dX2_hasRoom_12 : decode cX2_hasRoom 12 = .ok (.iconst 1, 1) := by decide +kernel
theorem dX2_hasRoom_13 : decode cX2_hasRoom 13 = .ok (.goto 4, 3) := by decide +kernel
theorem dX2_hasRoom_16 : decode cX2_hasRoom 16 = .ok (.iconst 0, 1) := by decide +kernel
theorem dX2_hasRoom_17 : decode cX2_hasRoom 17 = .ok (.ireturn, 1) := by decide +kernel
theorem dX2_take_0 : decode cX2_take 0 = .ok (.iload_n 3, 1) := by decide +kernel
theorem dX2_take_1 : decode cX2_take 1 = .ok (.iconst 1, 1) := by decide +kernel
theorem dX2_take_2 : decode cX2_take 2 = .ok (.isub, 1) := by decide +kernel
theorem dX2_take_3 : decode cX2_take 3 = .ok (.istore 4, 2) := by decide +kernel
theorem dX2_take_5 : decode cX2_take 5 = .ok (.iload 4, 2) := by decide +kernel
theorem dX2_take_7 : decode cX2_take 7 = .ok (.ifCond .lt 40, 3) := by decide +kernel
theorem dX2_take_10 : decode cX2_take 10 = .ok (.aload_n 0, 1) := by decide +kernel
theorem dX2_take_11 : decode cX2_take 11 = .ok (.getfield 9, 3) := by decide +kernel
theorem dX2_take_14 : decode cX2_take 14 = .ok (.aload_n 0, 1) := by decide +kernel
theorem dX2_take_15 : decode cX2_take 15 = .ok (.getfield 18, 3) := by decide +kernel
theorem dX2_take_18 : decode cX2_take 18 = .ok (.lload_n 1, 1) := by decide +kernel
theorem dX2_take_19 : decode cX2_take 19 = .ok (.bipush 8, 2) := by decide +kernel
theorem dX2_take_21 : decode cX2_take 21 = .ok (.iload 4, 2) := by decide +kernel
theorem dX2_take_23 : decode cX2_take 23 = .ok (.imul, 1) := by decide +kernel
theorem dX2_take_24 : decode cX2_take 24 = .ok (.lushr, 1) := by decide +kernel
theorem dX2_take_25 : decode cX2_take 25 = .ok (.ldc2_w 22, 3) := by decide +kernel
theorem dX2_take_28 : decode cX2_take 28 = .ok (.land, 1) := by decide +kernel
theorem dX2_take_29 : decode cX2_take 29 = .ok (.l2i, 1) := by decide +kernel
theorem dX2_take_30 : decode cX2_take 30 = .ok (.iastore, 1) := by decide +kernel
theorem dX2_take_31 : decode cX2_take 31 = .ok (.aload_n 0, 1) := by decide +kernel
theorem dX2_take_32 : decode cX2_take 32 = .ok (.dup, 1) := by decide +kernel
theorem dX2_take_33 : decode cX2_take 33 = .ok (.getfield 18, 3) := by decide +kernel
theorem dX2_take_36 : decode cX2_take 36 = .ok (.iconst 1, 1) := by decide +kernel
theorem dX2_take_37 : decode cX2_take 37 = .ok (.iadd, 1) := by decide +kernel
theorem dX2_take_38 : decode cX2_take 38 = .ok (.putfield 18, 3) := by decide +kernel
theorem dX2_take_41 : decode cX2_take 41 = .ok (.iinc 4 (-1), 3) := by decide +kernel
theorem dX2_take_44 : decode cX2_take 44 = .ok (.goto (-39), 3) := by decide +kernel
theorem dX2_take_47 : decode cX2_take 47 = .ok (.aload_n 0, 1) := by decide +kernel
theorem dX2_take_48 : decode cX2_take 48 = .ok (.getfield 18, 3) := by decide +kernel
theorem dX2_take_51 : decode cX2_take 51 = .ok (.ireturn, 1) := by decide +kernel
theorem dX2_giveRounds_0 : decode cX2_giveRounds 0 = .ok (.aload_n 0, 1) := by decide +kernel
theorem dX2_giveRounds_1 : decode cX2_giveRounds 1 = .ok (.getfield 15, 3) := by decide +kernel
theorem dX2_giveRounds_4 : decode cX2_giveRounds 4 = .ok (.iconst 0, 1) := by decide +kernel
theorem dX2_giveRounds_5 : decode cX2_giveRounds 5 = .ok (.aload_n 1, 1) := by decide +kernel
theorem dX2_giveRounds_6 : decode cX2_giveRounds 6 = .ok (.iconst 0, 1) := by decide +kernel
theorem dX2_giveRounds_7 : decode cX2_giveRounds 7 = .ok (.aload_n 0, 1) := by decide +kernel
theorem dX2_giveRounds_8 : decode cX2_giveRounds 8 = .ok (.getfield 24, 3) := by decide +kernel
theorem dX2_giveRounds_11 : decode cX2_giveRounds 11 = .ok (.invokestatic 27, 3) := by decide +kernel
theorem dX2_giveRounds_14 : decode cX2_giveRounds 14 = .ok (.aload_n 0, 1) := by decide +kernel
theorem dX2_giveRounds_15 : decode cX2_giveRounds 15 = .ok (.getfield 24, 3) := by decide +kernel
theorem dX2_giveRounds_18 : decode cX2_giveRounds 18 = .ok (.ireturn, 1) := by decide +kernel
theorem dX2_tokenPlace_0 : decode cX2_tokenPlace 0 = .ok (.aload_n 0, 1) := by decide +kernel
theorem dX2_tokenPlace_1 : decode cX2_tokenPlace 1 = .ok (.getfield 33, 3) := by decide +kernel
theorem dX2_tokenPlace_4 : decode cX2_tokenPlace 4 = .ok (.ireturn, 1) := by decide +kernel
set_option maxRecDepth 20000 in
theorem ggX2_read_X2_advance : GoodIn wsX2_read wsX2_advance := goodIn_r _ [9, 2, 10, 4, 11, 3, 12, 13, 8, 14, 15, 16, 17, 18, 19, 20, 21, 22, 23, 24, 25, 26, 27, 28, 29, 30, 31, 32, 33, 34, 35, 36, 37, 38, 39, 40, 41, 42, 43, 44, 45, 46, 47, 48, 49, 50, 51, 52, 53, 54, 55, 56, 57, 58, 59, 60, 61, 62, 63, 64, 65, 66, 67, 68, 69, 70, 71, 72, 73, 74, 75, 76, 77, 78, 79, 97, 98, 99, 100, 101, 102, 103, 104] (by decide +kernel) (by decide +kernel)
set_option maxRecDepth 20000 in
theorem gX2_read_X2_advance : GoodIn wsX2_read (wsV RX2 39 RX2 yX2_advance wsX2_advance) := goodIn_app (goodIn_of _ (by decide +kernel)) ggX2_read_X2_advance
set_option maxRecDepth 20000 in
theorem ggX2_read_X2_readRound : GoodIn wsX2_read wsX2_readRound := goodIn_r _ [83, 3, 84, 1, 85, 86, 87, 8, 88, 89, 90, 91, 92, 5, 6, 7, 9, 2, 10, 4, 11, 12, 13, 14, 15, 16, 17, 18, 19, 20, 21, 22, 23, 24, 25, 26, 27, 28, 29, 30, 31, 32, 33, 34, 35, 36, 37, 38, 39, 40, 41, 42, 43, 44, 45, 46, 47, 48, 49, 50, 51, 52, 53, 54, 55, 56, 57, 58, 59, 60, 61, 62, 63, 64, 65, 66, 67, 68, 69, 70, 71, 72, 73, 74, 75, 76, 77, 78, 79, 93, 94, 95, 96, 97, 98, 99, 100, 101, 102, 103, 104] (by decide +kernel) (by decide +kernel)
set_option maxRecDepth 20000 in
theorem gX2_read_X2_readRound : GoodIn wsX2_read (wsV RX2 45 RX2 yX2_readRound wsX2_readRound) := goodIn_app (goodIn_of _ (by decide +kernel)) ggX2_read_X2_readRound
theorem dX2_read_0 : decode cX2_read 0 = .ok (.iconst 0, 1) := by decide +kernel
theorem dX2_read_1 : decode cX2_read 1 = .ok (.istore_n 2, 1) := by decide +kernel
theorem dX2_read_2 : decode cX2_read 2 = .ok (.aload_n 0, 1) := by decide +kernel
theorem dX2_read_3 : decode cX2_read 3 = .ok (.iconst 0, 1) := by decide +kernel
theorem dX2_read_4 : decode cX2_read 4 = .ok (.putfield 24, 3) := by decide +kernel
theorem dX2_read_7 : decode cX2_read 7 = .ok (.aload_n 0, 1) := by decide +kernel
theorem dX2_read_8 : decode cX2_read 8 = .ok (.iconst 0, 1) := by decide +kernel
theorem dX2_read_9 : decode cX2_read 9 = .ok (.putfield 36, 3) := by decide +kernel
theorem dX2_read_12 : decode cX2_read 12 = .ok (.aload_n 0, 1) := by decide +kernel
theorem dX2_read_13 : decode cX2_read 13 = .ok (.invokevirtual 39, 3) := by decide +kernel
theorem dX2_read_16 : decode cX2_read 16 = .ok (.iconst 0, 1) := by decide +kernel
theorem dX2_read_17 : decode cX2_read 17 = .ok (.istore_n 3, 1) := by decide +kernel
theorem dX2_read_18 : decode cX2_read 18 = .ok (.iload_n 3, 1) := by decide +kernel
theorem dX2_read_19 : decode cX2_read 19 = .ok (.bipush 20, 2) := by decide +kernel
theorem dX2_read_21 : decode cX2_read 21 = .ok (.if_icmp .gt 26, 3) := by decide +kernel
theorem dX2_read_24 : decode cX2_read 24 = .ok (.iload_n 2, 1) := by decide +kernel
theorem dX2_read_25 : decode cX2_read 25 = .ok (.ifCond .ne 22, 3) := by decide +kernel
theorem dX2_read_28 : decode cX2_read 28 = .ok (.aload_n 0, 1) := by decide +kernel
theorem dX2_read_29 : decode cX2_read 29 = .ok (.getfield 42, 3) := by decide +kernel
theorem dX2_read_32 : decode cX2_read 32 = .ok (.ifCond .eq 15, 3) := by decide +kernel
theorem dX2_read_35 : decode cX2_read 35 = .ok (.aload_n 0, 1) := by decide +kernel
theorem dX2_read_36 : decode cX2_read 36 = .ok (.iload_n 1, 1) := by decide +kernel
theorem dX2_read_37 : decode cX2_read 37 = .ok (.invokevirtual 45, 3) := by decide +kernel
theorem dX2_read_40 : decode cX2_read 40 = .ok (.istore_n 2, 1) := by decide +kernel
theorem dX2_read_41 : decode cX2_read 41 = .ok (.iinc 3 1, 3) := by decide +kernel
theorem dX2_read_44 : decode cX2_read 44 = .ok (.goto (-26), 3) := by decide +kernel
theorem dX2_read_47 : decode cX2_read 47 = .ok (.aload_n 0, 1) := by decide +kernel
theorem dX2_read_48 : decode cX2_read 48 = .ok (.iconst 0, 1) := by decide +kernel
theorem dX2_read_49 : decode cX2_read 49 = .ok (.putfield 18, 3) := by decide +kernel
theorem dX2_read_52 : decode cX2_read 52 = .ok (.iload_n 2, 1) := by decide +kernel
theorem dX2_read_53 : decode cX2_read 53 = .ok (.ireturn, 1) := by decide +kernel
set_option maxRecDepth 20000 in
theorem ggX2_readRound_X2_faultOfWord : GoodIn wsX2_readRound wsX2_faultOfWord := goodIn_r _ [8, 1, 3, 93, 94, 95, 96, 97, 98, 99, 100] (by decide +kernel) (by decide +kernel)
set_option maxRecDepth 20000 in
theorem gX2_readRound_X2_faultOfWord : GoodIn wsX2_readRound (wsV RX2 49 RX2 yX2_faultOfWord wsX2_faultOfWord) := goodIn_app (goodIn_of _ (by decide +kernel)) ggX2_readRound_X2_faultOfWord
set_option maxRecDepth 20000 in
theorem ggX2_readRound_X2_soundsAtWord : GoodIn wsX2_readRound wsX2_soundsAtWord := goodIn_r _ [12, 3, 2, 93, 94, 95, 96, 97, 98, 99, 100] (by decide +kernel) (by decide +kernel)
set_option maxRecDepth 20000 in
theorem gX2_readRound_X2_soundsAtWord : GoodIn wsX2_readRound (wsV RX2 53 RX2 yX2_soundsAtWord wsX2_soundsAtWord) := goodIn_app (goodIn_of _ (by decide +kernel)) ggX2_readRound_X2_soundsAtWord
set_option maxRecDepth 20000 in
theorem ggX2_readRound_X2_advance : GoodIn wsX2_readRound wsX2_advance := goodIn_r _ [16, 17, 18, 19, 20, 1, 21, 22, 7, 23, 24, 25, 26, 27, 28, 29, 30, 31, 32, 33, 34, 35, 36, 37, 38, 39, 40, 41, 42, 43, 44, 45, 46, 47, 48, 49, 50, 51, 52, 53, 54, 55, 56, 57, 58, 59, 60, 61, 62, 63, 64, 65, 66, 67, 68, 69, 70, 71, 72, 73, 74, 75, 76, 77, 78, 79, 80, 81, 82, 83, 84, 85, 86, 87, 88, 93, 94, 95, 96, 97, 98, 99, 100] (by decide +kernel) (by decide +kernel)
set_option maxRecDepth 20000 in
theorem gX2_readRound_X2_advance : GoodIn wsX2_readRound (wsV RX2 39 RX2 yX2_advance wsX2_advance) := goodIn_app (goodIn_of _ (by decide +kernel)) ggX2_readRound_X2_advance
set_option maxRecDepth 20000 in
theorem ggX2_readRound_X2_readNumbers : GoodIn wsX2_readRound wsX2_readNumbers := goodIn_r _ [92, 1, 88, 2, 3, 13, 14, 15, 7, 16, 17, 18, 19, 20, 21, 22, 23, 24, 25, 26, 27, 28, 29, 30, 31, 32, 33, 34, 35, 36, 37, 38, 39, 40, 41, 42, 43, 44, 45, 46, 47, 48, 49, 50, 51, 52, 53, 54, 55, 56, 57, 58, 59, 60, 61, 62, 63, 64, 65, 66, 67, 68, 69, 70, 71, 72, 73, 74, 75, 76, 77, 78, 79, 80, 81, 82, 83, 84, 85, 86, 87, 93, 94, 95, 96, 97, 98, 99, 100] (by decide +kernel) (by decide +kernel)
set_option maxRecDepth 20000 in
theorem gX2_readRound_X2_readNumbers : GoodIn wsX2_readRound (wsV RX2 56 RX2 yX2_readNumbers wsX2_readNumbers) := goodIn_app (goodIn_of _ (by decide +kernel)) ggX2_readRound_X2_readNumbers
theorem dX2_readRound_0 : decode cX2_readRound 0 = .ok (.aload_n 0, 1) := by decide +kernel
theorem dX2_readRound_1 : decode cX2_readRound 1 = .ok (.getfield 42, 3) := by decide +kernel
theorem dX2_readRound_4 : decode cX2_readRound 4 = .ok (.istore_n 2, 1) := by decide +kernel
theorem dX2_readRound_5 : decode cX2_readRound 5 = .ok (.aload_n 0, 1) := by decide +kernel
theorem dX2_readRound_6 : decode cX2_readRound 6 = .ok (.invokevirtual 49, 3) := by decide +kernel
theorem dX2_readRound_9 : decode cX2_readRound 9 = .ok (.istore_n 3, 1) := by decide +kernel
theorem dX2_readRound_10 : decode cX2_readRound 10 = .ok (.iload_n 3, 1) := by decide +kernel
theorem dX2_readRound_11 : decode cX2_readRound 11 = .ok (.ifCond .eq 5, 3) := by decide +kernel
theorem dX2_readRound_14 : decode cX2_readRound 14 = .ok (.iload_n 3, 1) := by decide +kernel
theorem dX2_readRound_15 : decode cX2_readRound 15 = .ok (.ireturn, 1) := by decide +kernel
theorem dX2_readRound_16 : decode cX2_readRound 16 = .ok (.aload_n 0, 1) := by decide +kernel
theorem dX2_readRound_17 : decode cX2_readRound 17 = .ok (.getfield 15, 3) := by decide +kernel
theorem dX2_readRound_20 : decode cX2_readRound 20 = .ok (.aload_n 0, 1) := by decide +kernel
theorem dX2_readRound_21 : decode cX2_readRound 21 = .ok (.getfield 24, 3) := by decide +kernel
theorem dX2_readRound_24 : decode cX2_readRound 24 = .ok (.aload_n 0, 1) := by decide +kernel
theorem dX2_readRound_25 : decode cX2_readRound 25 = .ok (.iload_n 2, 1) := by decide +kernel
theorem dX2_readRound_26 : decode cX2_readRound 26 = .ok (.invokevirtual 53, 3) := by decide +kernel
theorem dX2_readRound_29 : decode cX2_readRound 29 = .ok (.iastore, 1) := by decide +kernel
theorem dX2_readRound_30 : decode cX2_readRound 30 = .ok (.aload_n 0, 1) := by decide +kernel
theorem dX2_readRound_31 : decode cX2_readRound 31 = .ok (.invokevirtual 39, 3) := by decide +kernel
theorem dX2_readRound_34 : decode cX2_readRound 34 = .ok (.iload_n 2, 1) := by decide +kernel
theorem dX2_readRound_35 : decode cX2_readRound 35 = .ok (.iconst 2, 1) := by decide +kernel
theorem dX2_readRound_36 : decode cX2_readRound 36 = .ok (.if_icmp .ne 9, 3) := by decide +kernel
theorem dX2_readRound_39 : decode cX2_readRound 39 = .ok (.aload_n 0, 1) := by decide +kernel
theorem dX2_readRound_40 : decode cX2_readRound 40 = .ok (.iload_n 1, 1) := by decide +kernel
theorem dX2_readRound_41 : decode cX2_readRound 41 = .ok (.invokevirtual 56, 3) := by decide +kernel
theorem dX2_readRound_44 : decode cX2_readRound 44 = .ok (.istore_n 3, 1) := by decide +kernel
theorem dX2_readRound_45 : decode cX2_readRound 45 = .ok (.iload_n 3, 1) := by decide +kernel
theorem dX2_readRound_46 : decode cX2_readRound 46 = .ok (.ifCond .ne 14, 3) := by decide +kernel
theorem dX2_readRound_49 : decode cX2_readRound 49 = .ok (.aload_n 0, 1) := by decide +kernel
theorem dX2_readRound_50 : decode cX2_readRound 50 = .ok (.getfield 42, 3) := by decide +kernel
theorem dX2_readRound_53 : decode cX2_readRound 53 = .ok (.bipush 6, 2) := by decide +kernel
theorem dX2_readRound_55 : decode cX2_readRound 55 = .ok (.if_icmp .eq 5, 3) := by decide +kernel
theorem dX2_readRound_58 : decode cX2_readRound 58 = .ok (.iconst 1, 1) := by decide +kernel
theorem dX2_readRound_59 : decode cX2_readRound 59 = .ok (.istore_n 3, 1) := by decide +kernel
theorem dX2_readRound_60 : decode cX2_readRound 60 = .ok (.iload_n 3, 1) := by decide +kernel
theorem dX2_readRound_61 : decode cX2_readRound 61 = .ok (.ifCond .ne 17, 3) := by decide +kernel
theorem dX2_readRound_64 : decode cX2_readRound 64 = .ok (.aload_n 0, 1) := by decide +kernel
theorem dX2_readRound_65 : decode cX2_readRound 65 = .ok (.dup, 1) := by decide +kernel
theorem dX2_readRound_66 : decode cX2_readRound 66 = .ok (.getfield 24, 3) := by decide +kernel
theorem dX2_readRound_69 : decode cX2_readRound 69 = .ok (.iconst 1, 1) := by decide +kernel
theorem dX2_readRound_70 : decode cX2_readRound 70 = .ok (.iadd, 1) := by decide +kernel
theorem dX2_readRound_71 : decode cX2_readRound 71 = .ok (.putfield 24, 3) := by decide +kernel
theorem dX2_readRound_74 : decode cX2_readRound 74 = .ok (.aload_n 0, 1) := by decide +kernel
theorem dX2_readRound_75 : decode cX2_readRound 75 = .ok (.invokevirtual 39, 3) := by decide +kernel
theorem dX2_readRound_78 : decode cX2_readRound 78 = .ok (.iload_n 3, 1) := by decide +kernel
theorem dX2_readRound_79 : decode cX2_readRound 79 = .ok (.ireturn, 1) := by decide +kernel
theorem dX2_faultOfWord_0 : decode cX2_faultOfWord 0 = .ok (.aload_n 0, 1) := by decide +kernel
theorem dX2_faultOfWord_1 : decode cX2_faultOfWord 1 = .ok (.getfield 42, 3) := by decide +kernel
theorem dX2_faultOfWord_4 : decode cX2_faultOfWord 4 = .ok (.iconst 2, 1) := by decide +kernel
theorem dX2_faultOfWord_5 : decode cX2_faultOfWord 5 = .ok (.if_icmp .eq 21, 3) := by decide +kernel
theorem dX2_faultOfWord_8 : decode cX2_faultOfWord 8 = .ok (.aload_n 0, 1) := by decide +kernel
theorem dX2_faultOfWord_9 : decode cX2_faultOfWord 9 = .ok (.getfield 42, 3) := by decide +kernel
theorem dX2_faultOfWord_12 : decode cX2_faultOfWord 12 = .ok (.iconst 3, 1) := by decide +kernel
theorem dX2_faultOfWord_13 : decode cX2_faultOfWord 13 = .ok (.if_icmp .eq 13, 3) := by decide +kernel
theorem dX2_faultOfWord_16 : decode cX2_faultOfWord 16 = .ok (.aload_n 0, 1) := by decide +kernel
theorem dX2_faultOfWord_17 : decode cX2_faultOfWord 17 = .ok (.getfield 42, 3) := by decide +kernel
theorem dX2_faultOfWord_20 : decode cX2_faultOfWord 20 = .ok (.iconst 4, 1) := by decide +kernel
theorem dX2_faultOfWord_21 : decode cX2_faultOfWord 21 = .ok (.if_icmp .eq 5, 3) := by decide +kernel
theorem dX2_faultOfWord_24 : decode cX2_faultOfWord 24 = .ok (.iconst 1, 1) := by decide +kernel
theorem dX2_faultOfWord_25 : decode cX2_faultOfWord 25 = .ok (.ireturn, 1) := by decide +kernel
theorem dX2_faultOfWord_26 : decode cX2_faultOfWord 26 = .ok (.aload_n 0, 1) := by decide +kernel
theorem dX2_faultOfWord_27 : decode cX2_faultOfWord 27 = .ok (.getfield 42, 3) := by decide +kernel
theorem dX2_faultOfWord_30 : decode cX2_faultOfWord 30 = .ok (.iconst 4, 1) := by decide +kernel
theorem dX2_faultOfWord_31 : decode cX2_faultOfWord 31 = .ok (.if_icmp .ne 12, 3) := by decide +kernel
theorem dX2_faultOfWord_34 : decode cX2_faultOfWord 34 = .ok (.aload_n 0, 1) := by decide +kernel
theorem dX2_faultOfWord_35 : decode cX2_faultOfWord 35 = .ok (.getfield 24, 3) := by decide +kernel
theorem dX2_faultOfWord_38 : decode cX2_faultOfWord 38 = .ok (.ifCond .ne 5, 3) := by decide +kernel
theorem dX2_faultOfWord_41 : decode cX2_faultOfWord 41 = .ok (.iconst 2, 1) := by decide +kernel
theorem dX2_faultOfWord_42 : decode cX2_faultOfWord 42 = .ok (.ireturn, 1) := by decide +kernel
theorem dX2_faultOfWord_43 : decode cX2_faultOfWord 43 = .ok (.aload_n 0, 1) := by decide +kernel
theorem dX2_faultOfWord_44 : decode cX2_faultOfWord 44 = .ok (.getfield 24, 3) := by decide +kernel
theorem dX2_faultOfWord_47 : decode cX2_faultOfWord 47 = .ok (.bipush 20, 2) := by decide +kernel
theorem dX2_faultOfWord_49 : decode cX2_faultOfWord 49 = .ok (.if_icmp .lt 7, 3) := by decide +kernel
theorem dX2_faultOfWord_52 : decode cX2_faultOfWord 52 = .ok (.iconst 3, 1) := by decide +kernel
theorem dX2_faultOfWord_53 : decode cX2_faultOfWord 53 = .ok (.goto 4, 3) := by decide +kernel
theorem dX2_faultOfWord_56 : decode cX2_faultOfWord 56 = .ok (.iconst 0, 1) := by decide +kernel
theorem dX2_faultOfWord_57 : decode cX2_faultOfWord 57 = .ok (.ireturn, 1) := by decide +kernel
theorem dX2_soundsAtWord_0 : decode cX2_soundsAtWord 0 = .ok (.iload_n 1, 1) := by decide +kernel
theorem dX2_soundsAtWord_1 : decode cX2_soundsAtWord 1 = .ok (.iconst 3, 1) := by decide +kernel
theorem dX2_soundsAtWord_2 : decode cX2_soundsAtWord 2 = .ok (.if_icmp .ne 5, 3) := by decide +kernel
theorem dX2_soundsAtWord_5 : decode cX2_soundsAtWord 5 = .ok (.iconst (-1), 1) := by decide +kernel
theorem dX2_soundsAtWord_6 : decode cX2_soundsAtWord 6 = .ok (.ireturn, 1) := by decide +kernel
theorem dX2_soundsAtWord_7 : decode cX2_soundsAtWord 7 = .ok (.iload_n 1, 1) := by decide +kernel
theorem dX2_soundsAtWord_8 : decode cX2_soundsAtWord 8 = .ok (.iconst 4, 1) := by decide +kernel
theorem dX2_soundsAtWord_9 : decode cX2_soundsAtWord 9 = .ok (.if_icmp .ne 24, 3) := by decide +kernel
theorem dX2_soundsAtWord_12 : decode cX2_soundsAtWord 12 = .ok (.aload_n 0, 1) := by decide +kernel
theorem dX2_soundsAtWord_13 : decode cX2_soundsAtWord 13 = .ok (.getfield 24, 3) := by decide +kernel
theorem dX2_soundsAtWord_16 : decode cX2_soundsAtWord 16 = .ok (.ifCond .le 17, 3) := by decide +kernel
theorem dX2_soundsAtWord_19 : decode cX2_soundsAtWord 19 = .ok (.aload_n 0, 1) := by decide +kernel
theorem dX2_soundsAtWord_20 : decode cX2_soundsAtWord 20 = .ok (.getfield 15, 3) := by decide +kernel
theorem dX2_soundsAtWord_23 : decode cX2_soundsAtWord 23 = .ok (.aload_n 0, 1) := by decide +kernel
theorem dX2_soundsAtWord_24 : decode cX2_soundsAtWord 24 = .ok (.getfield 24, 3) := by decide +kernel
theorem dX2_soundsAtWord_27 : decode cX2_soundsAtWord 27 = .ok (.iconst 1, 1) := by decide +kernel
theorem dX2_soundsAtWord_28 : decode cX2_soundsAtWord 28 = .ok (.isub, 1) := by decide +kernel
theorem dX2_soundsAtWord_29 : decode cX2_soundsAtWord 29 = .ok (.iaload, 1) := by decide +kernel
theorem dX2_soundsAtWord_30 : decode cX2_soundsAtWord 30 = .ok (.goto 4, 3) := by decide +kernel
theorem dX2_soundsAtWord_33 : decode cX2_soundsAtWord 33 = .ok (.iconst 0, 1) := by decide +kernel
theorem dX2_soundsAtWord_34 : decode cX2_soundsAtWord 34 = .ok (.ireturn, 1) := by decide +kernel
set_option maxRecDepth 20000 in
theorem ggX2_readNumbers_X2_advance : GoodIn wsX2_readNumbers wsX2_advance := goodIn_r _ [9, 10, 11, 12, 13, 1, 14, 15, 8, 16, 17, 18, 19, 20, 21, 22, 23, 24, 25, 26, 27, 28, 29, 30, 31, 32, 33, 34, 35, 36, 37, 38, 39, 40, 41, 42, 43, 44, 45, 46, 47, 48, 49, 50, 51, 52, 53, 54, 55, 56, 57, 58, 59, 60, 61, 62, 63, 64, 65, 66, 67, 68, 69, 70, 71, 72, 73, 74, 75, 76, 77, 78, 79, 80, 2, 81, 82, 83, 84, 85, 86, 87, 88] (by decide +kernel) (by decide +kernel)
set_option maxRecDepth 20000 in
theorem gX2_readNumbers_X2_advance : GoodIn wsX2_readNumbers (wsV RX2 39 RX2 yX2_advance wsX2_advance) := goodIn_app (goodIn_of _ (by decide +kernel)) ggX2_readNumbers_X2_advance
theorem dX2_readNumbers_0 : decode cX2_readNumbers 0 = .ok (.iconst 0, 1) := by decide +kernel
theorem dX2_readNumbers_1 : decode cX2_readNumbers 1 = .ok (.istore_n 2, 1) := by decide +kernel
theorem dX2_readNumbers_2 : decode cX2_readNumbers 2 = .ok (.iload_n 2, 1) := by decide +kernel
theorem dX2_readNumbers_3 : decode cX2_readNumbers 3 = .ok (.bipush 8, 2) := by decide +kernel
theorem dX2_readNumbers_5 : decode cX2_readNumbers 5 = .ok (.if_icmp .gt 69, 3) := by decide +kernel
theorem dX2_readNumbers_8 : decode cX2_readNumbers 8 = .ok (.aload_n 0, 1) := by decide +kernel
theorem dX2_readNumbers_9 : decode cX2_readNumbers 9 = .ok (.getfield 42, 3) := by decide +kernel
theorem dX2_readNumbers_12 : decode cX2_readNumbers 12 = .ok (.iconst 5, 1) := by decide +kernel
theorem dX2_readNumbers_13 : decode cX2_readNumbers 13 = .ok (.if_icmp .ne 61, 3) := by decide +kernel
theorem dX2_readNumbers_16 : decode cX2_readNumbers 16 = .ok (.aload_n 0, 1) := by decide +kernel
theorem dX2_readNumbers_17 : decode cX2_readNumbers 17 = .ok (.getfield 59, 3) := by decide +kernel
theorem dX2_readNumbers_20 : decode cX2_readNumbers 20 = .ok (.iload_n 1, 1) := by decide +kernel
theorem dX2_readNumbers_21 : decode cX2_readNumbers 21 = .ok (.if_icmp .ge 23, 3) := by decide +kernel
theorem dX2_readNumbers_24 : decode cX2_readNumbers 24 = .ok (.aload_n 0, 1) := by decide +kernel
theorem dX2_readNumbers_25 : decode cX2_readNumbers 25 = .ok (.getfield 15, 3) := by decide +kernel
theorem dX2_readNumbers_28 : decode cX2_readNumbers 28 = .ok (.aload_n 0, 1) := by decide +kernel
theorem dX2_readNumbers_29 : decode cX2_readNumbers 29 = .ok (.getfield 24, 3) := by decide +kernel
theorem dX2_readNumbers_32 : decode cX2_readNumbers 32 = .ok (.iaload, 1) := by decide +kernel
theorem dX2_readNumbers_33 : decode cX2_readNumbers 33 = .ok (.aload_n 0, 1) := by decide +kernel
theorem dX2_readNumbers_34 : decode cX2_readNumbers 34 = .ok (.getfield 59, 3) := by decide +kernel
theorem dX2_readNumbers_37 : decode cX2_readNumbers 37 = .ok (.ishr, 1) := by decide +kernel
theorem dX2_readNumbers_38 : decode cX2_readNumbers 38 = .ok (.iconst 1, 1) := by decide +kernel
theorem dX2_readNumbers_39 : decode cX2_readNumbers 39 = .ok (.iand, 1) := by decide +kernel
theorem dX2_readNumbers_40 : decode cX2_readNumbers 40 = .ok (.iconst 1, 1) := by decide +kernel
theorem dX2_readNumbers_41 : decode cX2_readNumbers 41 = .ok (.if_icmp .ne 5, 3) := by decide +kernel
theorem dX2_readNumbers_44 : decode cX2_readNumbers 44 = .ok (.iconst 2, 1) := by decide +kernel
theorem dX2_readNumbers_45 : decode cX2_readNumbers 45 = .ok (.ireturn, 1) := by decide +kernel
theorem dX2_readNumbers_46 : decode cX2_readNumbers 46 = .ok (.aload_n 0, 1) := by decide +kernel
theorem dX2_readNumbers_47 : decode cX2_readNumbers 47 = .ok (.getfield 15, 3) := by decide +kernel
theorem dX2_readNumbers_50 : decode cX2_readNumbers 50 = .ok (.aload_n 0, 1) := by decide +kernel
theorem dX2_readNumbers_51 : decode cX2_readNumbers 51 = .ok (.getfield 24, 3) := by decide +kernel
theorem dX2_readNumbers_54 : decode cX2_readNumbers 54 = .ok (.dup2, 1) := by decide +kernel
theorem dX2_readNumbers_55 : decode cX2_readNumbers 55 = .ok (.iaload, 1) := by decide +kernel
theorem dX2_readNumbers_56 : decode cX2_readNumbers 56 = .ok (.iconst 1, 1) := by decide +kernel
theorem dX2_readNumbers_57 : decode cX2_readNumbers 57 = .ok (.aload_n 0, 1) := by decide +kernel
theorem dX2_readNumbers_58 : decode cX2_readNumbers 58 = .ok (.getfield 59, 3) := by decide +kernel
theorem dX2_readNumbers_61 : decode cX2_readNumbers 61 = .ok (.ishl, 1) := by decide +kernel
theorem dX2_readNumbers_62 : decode cX2_readNumbers 62 = .ok (.ior, 1) := by decide +kernel
theorem dX2_readNumbers_63 : decode cX2_readNumbers 63 = .ok (.iastore, 1) := by decide +kernel
theorem dX2_readNumbers_64 : decode cX2_readNumbers 64 = .ok (.aload_n 0, 1) := by decide +kernel
theorem dX2_readNumbers_65 : decode cX2_readNumbers 65 = .ok (.invokevirtual 39, 3) := by decide +kernel
theorem dX2_readNumbers_68 : decode cX2_readNumbers 68 = .ok (.iinc 2 1, 3) := by decide +kernel
theorem dX2_readNumbers_71 : decode cX2_readNumbers 71 = .ok (.goto (-69), 3) := by decide +kernel
theorem dX2_readNumbers_74 : decode cX2_readNumbers 74 = .ok (.iconst 0, 1) := by decide +kernel
theorem dX2_readNumbers_75 : decode cX2_readNumbers 75 = .ok (.ireturn, 1) := by decide +kernel
set_option maxRecDepth 20000 in
theorem ggX2_advance_X2_isLetter : GoodIn wsX2_advance wsX2_isLetter := goodIn_r _ [9] (by decide +kernel) (by decide +kernel)
set_option maxRecDepth 20000 in
theorem gX2_advance_X2_isLetter : GoodIn wsX2_advance (va_wsS RX2 62 yX2_isLetter wsX2_isLetter) := goodIn_app (goodIn_of _ (by decide +kernel)) ggX2_advance_X2_isLetter
set_option maxRecDepth 20000 in
theorem ggX2_advance_X2_advanceName : GoodIn wsX2_advance wsX2_advanceName := goodIn_r _ [13, 1, 3, 4, 5, 6, 7, 8, 9, 14, 15, 16, 17, 2, 18, 19, 20, 21, 22, 23, 24, 25, 26, 27, 28, 29, 30, 31, 32, 33, 34, 35, 36, 37, 38, 39, 40, 41, 42, 43, 44, 45, 46, 47, 48, 49, 50, 51, 52, 53, 54, 55, 56, 57, 58, 59, 60, 61, 62, 63, 64, 65, 66, 75, 76, 77, 78, 79, 80, 81, 82] (by decide +kernel) (by decide +kernel)
set_option maxRecDepth 20000 in
theorem gX2_advance_X2_advanceName : GoodIn wsX2_advance (wsV RX2 66 RX2 yX2_advanceName wsX2_advanceName) := goodIn_app (goodIn_of _ (by decide +kernel)) ggX2_advance_X2_advanceName
set_option maxRecDepth 20000 in
theorem ggX2_advance_X2_isFigure : GoodIn wsX2_advance wsX2_isFigure := goodIn_r _ [69] (by decide +kernel) (by decide +kernel)
set_option maxRecDepth 20000 in
theorem gX2_advance_X2_isFigure : GoodIn wsX2_advance (va_wsS RX2 69 yX2_isFigure wsX2_isFigure) := goodIn_app (goodIn_of _ (by decide +kernel)) ggX2_advance_X2_isFigure
set_option maxRecDepth 20000 in
theorem ggX2_advance_X2_advanceNumber : GoodIn wsX2_advance wsX2_advanceNumber := goodIn_r _ [73, 74, 1, 3, 4, 2, 5, 67, 68, 8, 69, 75, 76, 77, 78, 79, 80, 81, 82] (by decide +kernel) (by decide +kernel)
set_option maxRecDepth 20000 in
theorem gX2_advance_X2_advanceNumber : GoodIn wsX2_advance (wsV RX2 72 RX2 yX2_advanceNumber wsX2_advanceNumber) := goodIn_app (goodIn_of _ (by decide +kernel)) ggX2_advance_X2_advanceNumber
theorem dX2_advance_0 : decode cX2_advance 0 = .ok (.aload_n 0, 1) := by decide +kernel
theorem dX2_advance_1 : decode cX2_advance 1 = .ok (.aload_n 0, 1) := by decide +kernel
theorem dX2_advance_2 : decode cX2_advance 2 = .ok (.getfield 36, 3) := by decide +kernel
theorem dX2_advance_5 : decode cX2_advance 5 = .ok (.putfield 33, 3) := by decide +kernel
theorem dX2_advance_8 : decode cX2_advance 8 = .ok (.aload_n 0, 1) := by decide +kernel
theorem dX2_advance_9 : decode cX2_advance 9 = .ok (.getfield 33, 3) := by decide +kernel
theorem dX2_advance_12 : decode cX2_advance 12 = .ok (.aload_n 0, 1) := by decide +kernel
theorem dX2_advance_13 : decode cX2_advance 13 = .ok (.getfield 18, 3) := by decide +kernel
theorem dX2_advance_16 : decode cX2_advance 16 = .ok (.if_icmp .ge 44, 3) := by decide +kernel
theorem dX2_advance_19 : decode cX2_advance 19 = .ok (.aload_n 0, 1) := by decide +kernel
theorem dX2_advance_20 : decode cX2_advance 20 = .ok (.getfield 9, 3) := by decide +kernel
theorem dX2_advance_23 : decode cX2_advance 23 = .ok (.aload_n 0, 1) := by decide +kernel
theorem dX2_advance_24 : decode cX2_advance 24 = .ok (.getfield 33, 3) := by decide +kernel
theorem dX2_advance_27 : decode cX2_advance 27 = .ok (.iaload, 1) := by decide +kernel
theorem dX2_advance_28 : decode cX2_advance 28 = .ok (.bipush 32, 2) := by decide +kernel
theorem dX2_advance_30 : decode cX2_advance 30 = .ok (.if_icmp .eq 17, 3) := by decide +kernel
theorem dX2_advance_33 : decode cX2_advance 33 = .ok (.aload_n 0, 1) := by decide +kernel
theorem dX2_advance_34 : decode cX2_advance 34 = .ok (.getfield 9, 3) := by decide +kernel
theorem dX2_advance_37 : decode cX2_advance 37 = .ok (.aload_n 0, 1) := by decide +kernel
theorem dX2_advance_38 : decode cX2_advance 38 = .ok (.getfield 33, 3) := by decide +kernel
theorem dX2_advance_41 : decode cX2_advance 41 = .ok (.iaload, 1) := by decide +kernel
theorem dX2_advance_42 : decode cX2_advance 42 = .ok (.bipush 10, 2) := by decide +kernel
theorem dX2_advance_44 : decode cX2_advance 44 = .ok (.if_icmp .ne 16, 3) := by decide +kernel
theorem dX2_advance_47 : decode cX2_advance 47 = .ok (.aload_n 0, 1) := by decide +kernel
theorem dX2_advance_48 : decode cX2_advance 48 = .ok (.dup, 1) := by decide +kernel
theorem dX2_advance_49 : decode cX2_advance 49 = .ok (.getfield 33, 3) := by decide +kernel
theorem dX2_advance_52 : decode cX2_advance 52 = .ok (.iconst 1, 1) := by decide +kernel
theorem dX2_advance_53 : decode cX2_advance 53 = .ok (.iadd, 1) := by decide +kernel
theorem dX2_advance_54 : decode cX2_advance 54 = .ok (.putfield 33, 3) := by decide +kernel
theorem dX2_advance_57 : decode cX2_advance 57 = .ok (.goto (-49), 3) := by decide +kernel
theorem dX2_advance_60 : decode cX2_advance 60 = .ok (.aload_n 0, 1) := by decide +kernel
theorem dX2_advance_61 : decode cX2_advance 61 = .ok (.aload_n 0, 1) := by decide +kernel
theorem dX2_advance_62 : decode cX2_advance 62 = .ok (.getfield 33, 3) := by decide +kernel
theorem dX2_advance_65 : decode cX2_advance 65 = .ok (.putfield 36, 3) := by decide +kernel
theorem dX2_advance_68 : decode cX2_advance 68 = .ok (.aload_n 0, 1) := by decide +kernel
theorem dX2_advance_69 : decode cX2_advance 69 = .ok (.getfield 33, 3) := by decide +kernel
theorem dX2_advance_72 : decode cX2_advance 72 = .ok (.aload_n 0, 1) := by decide +kernel
theorem dX2_advance_73 : decode cX2_advance 73 = .ok (.getfield 18, 3) := by decide +kernel
theorem dX2_advance_76 : decode cX2_advance 76 = .ok (.if_icmp .lt 11, 3) := by decide +kernel
theorem dX2_advance_79 : decode cX2_advance 79 = .ok (.aload_n 0, 1) := by decide +kernel
theorem dX2_advance_80 : decode cX2_advance 80 = .ok (.iconst 0, 1) := by decide +kernel
theorem dX2_advance_81 : decode cX2_advance 81 = .ok (.putfield 42, 3) := by decide +kernel
theorem dX2_advance_84 : decode cX2_advance 84 = .ok (.goto 81, 3) := by decide +kernel
theorem dX2_advance_87 : decode cX2_advance 87 = .ok (.aload_n 0, 1) := by decide +kernel
theorem dX2_advance_88 : decode cX2_advance 88 = .ok (.getfield 9, 3) := by decide +kernel
theorem dX2_advance_91 : decode cX2_advance 91 = .ok (.aload_n 0, 1) := by decide +kernel
theorem dX2_advance_92 : decode cX2_advance 92 = .ok (.getfield 33, 3) := by decide +kernel
theorem dX2_advance_95 : decode cX2_advance 95 = .ok (.iaload, 1) := by decide +kernel
theorem dX2_advance_96 : decode cX2_advance 96 = .ok (.invokestatic 62, 3) := by decide +kernel
theorem dX2_advance_99 : decode cX2_advance 99 = .ok (.ifCond .eq 10, 3) := by decide +kernel
theorem dX2_advance_102 : decode cX2_advance 102 = .ok (.aload_n 0, 1) := by decide +kernel
theorem dX2_advance_103 : decode cX2_advance 103 = .ok (.invokevirtual 66, 3) := by decide +kernel
theorem dX2_advance_106 : decode cX2_advance 106 = .ok (.goto 59, 3) := by decide +kernel
theorem dX2_advance_109 : decode cX2_advance 109 = .ok (.aload_n 0, 1) := by decide +kernel
theorem dX2_advance_110 : decode cX2_advance 110 = .ok (.getfield 9, 3) := by decide +kernel
theorem dX2_advance_113 : decode cX2_advance 113 = .ok (.aload_n 0, 1) := by decide +kernel
theorem dX2_advance_114 : decode cX2_advance 114 = .ok (.getfield 33, 3) := by decide +kernel
theorem dX2_advance_117 : decode cX2_advance 117 = .ok (.iaload, 1) := by decide +kernel
theorem dX2_advance_118 : decode cX2_advance 118 = .ok (.invokestatic 69, 3) := by decide +kernel
theorem dX2_advance_121 : decode cX2_advance 121 = .ok (.ifCond .eq 10, 3) := by decide +kernel
theorem dX2_advance_124 : decode cX2_advance 124 = .ok (.aload_n 0, 1) := by decide +kernel
theorem dX2_advance_125 : decode cX2_advance 125 = .ok (.invokevirtual 72, 3) := by decide +kernel
theorem dX2_advance_128 : decode cX2_advance 128 = .ok (.goto 37, 3) := by decide +kernel
theorem dX2_advance_131 : decode cX2_advance 131 = .ok (.aload_n 0, 1) := by decide +kernel
theorem dX2_advance_132 : decode cX2_advance 132 = .ok (.aload_n 0, 1) := by decide +kernel
theorem dX2_advance_133 : decode cX2_advance 133 = .ok (.getfield 33, 3) := by decide +kernel
theorem dX2_advance_136 : decode cX2_advance 136 = .ok (.iconst 1, 1) := by decide +kernel
theorem dX2_advance_137 : decode cX2_advance 137 = .ok (.iadd, 1) := by decide +kernel
theorem dX2_advance_138 : decode cX2_advance 138 = .ok (.putfield 36, 3) := by decide +kernel
theorem dX2_advance_141 : decode cX2_advance 141 = .ok (.aload_n 0, 1) := by decide +kernel
theorem dX2_advance_142 : decode cX2_advance 142 = .ok (.aload_n 0, 1) := by decide +kernel
theorem dX2_advance_143 : decode cX2_advance 143 = .ok (.getfield 9, 3) := by decide +kernel
theorem dX2_advance_146 : decode cX2_advance 146 = .ok (.aload_n 0, 1) := by decide +kernel
theorem dX2_advance_147 : decode cX2_advance 147 = .ok (.getfield 33, 3) := by decide +kernel
theorem dX2_advance_150 : decode cX2_advance 150 = .ok (.iaload, 1) := by decide +kernel
theorem dX2_advance_151 : decode cX2_advance 151 = .ok (.bipush 59, 2) := by decide +kernel
theorem dX2_advance_153 : decode cX2_advance 153 = .ok (.if_icmp .ne 8, 3) := by decide +kernel
theorem dX2_advance_156 : decode cX2_advance 156 = .ok (.bipush 6, 2) := by decide +kernel
theorem dX2_advance_158 : decode cX2_advance 158 = .ok (.goto 4, 3) := by decide +kernel
theorem dX2_advance_161 : decode cX2_advance 161 = .ok (.iconst 1, 1) := by decide +kernel
theorem dX2_advance_162 : decode cX2_advance 162 = .ok (.putfield 42, 3) := by decide +kernel
theorem dX2_advance_165 : decode cX2_advance 165 = .ok (.return_, 1) := by decide +kernel
set_option maxRecDepth 20000 in
theorem ggX2_advanceName_X2_isLetter : GoodIn wsX2_advanceName wsX2_isLetter := goodIn_r _ [8] (by decide +kernel) (by decide +kernel)
set_option maxRecDepth 20000 in
theorem gX2_advanceName_X2_isLetter : GoodIn wsX2_advanceName (va_wsS RX2 62 yX2_isLetter wsX2_isLetter) := goodIn_app (goodIn_of _ (by decide +kernel)) ggX2_advanceName_X2_isLetter
set_option maxRecDepth 20000 in
theorem ggX2_advanceName_X2_isWord : GoodIn wsX2_advanceName wsX2_isWord := goodIn_r _ [12, 1, 13, 3, 14, 15, 16, 17, 18, 19, 20, 21, 22, 23, 24, 25, 26, 27, 28, 29, 30, 31, 32, 33, 34, 35, 36, 37, 38, 39, 40, 41, 42, 43, 44, 45, 46, 47, 48, 49, 50, 51, 52, 53, 54, 55, 56, 57, 58, 59, 60, 61, 62, 63, 64, 65, 66, 67, 68, 69, 70] (by decide +kernel) (by decide +kernel)
set_option maxRecDepth 20000 in
theorem gX2_advanceName_X2_isWord : GoodIn wsX2_advanceName (wsV RX2 77 RX2 yX2_isWord wsX2_isWord) := goodIn_app (goodIn_of _ (by decide +kernel)) ggX2_advanceName_X2_isWord
theorem dX2_advanceName_0 : decode cX2_advanceName 0 = .ok (.aload_n 0, 1) := by decide +kernel
theorem dX2_advanceName_1 : decode cX2_advanceName 1 = .ok (.getfield 36, 3) := by decide +kernel
theorem dX2_advanceName_4 : decode cX2_advanceName 4 = .ok (.aload_n 0, 1) := by decide +kernel
theorem dX2_advanceName_5 : decode cX2_advanceName 5 = .ok (.getfield 18, 3) := by decide +kernel
theorem dX2_advanceName_8 : decode cX2_advanceName 8 = .ok (.if_icmp .ge 31, 3) := by decide +kernel
theorem dX2_advanceName_11 : decode cX2_advanceName 11 = .ok (.aload_n 0, 1) := by decide +kernel
theorem dX2_advanceName_12 : decode cX2_advanceName 12 = .ok (.getfield 9, 3) := by decide +kernel
theorem dX2_advanceName_15 : decode cX2_advanceName 15 = .ok (.aload_n 0, 1) := by decide +kernel
theorem dX2_advanceName_16 : decode cX2_advanceName 16 = .ok (.getfield 36, 3) := by decide +kernel
theorem dX2_advanceName_19 : decode cX2_advanceName 19 = .ok (.iaload, 1) := by decide +kernel
theorem dX2_advanceName_20 : decode cX2_advanceName 20 = .ok (.invokestatic 62, 3) := by decide +kernel
theorem dX2_advanceName_23 : decode cX2_advanceName 23 = .ok (.ifCond .eq 16, 3) := by decide +kernel
theorem dX2_advanceName_26 : decode cX2_advanceName 26 = .ok (.aload_n 0, 1) := by decide +kernel
theorem dX2_advanceName_27 : decode cX2_advanceName 27 = .ok (.dup, 1) := by decide +kernel
theorem dX2_advanceName_28 : decode cX2_advanceName 28 = .ok (.getfield 36, 3) := by decide +kernel
theorem dX2_advanceName_31 : decode cX2_advanceName 31 = .ok (.iconst 1, 1) := by decide +kernel
theorem dX2_advanceName_32 : decode cX2_advanceName 32 = .ok (.iadd, 1) := by decide +kernel
theorem dX2_advanceName_33 : decode cX2_advanceName 33 = .ok (.putfield 36, 3) := by decide +kernel
theorem dX2_advanceName_36 : decode cX2_advanceName 36 = .ok (.goto (-36), 3) := by decide +kernel
theorem dX2_advanceName_39 : decode cX2_advanceName 39 = .ok (.aload_n 0, 1) := by decide +kernel
theorem dX2_advanceName_40 : decode cX2_advanceName 40 = .ok (.iconst 1, 1) := by decide +kernel
theorem dX2_advanceName_41 : decode cX2_advanceName 41 = .ok (.putfield 42, 3) := by decide +kernel
theorem dX2_advanceName_44 : decode cX2_advanceName 44 = .ok (.aload_n 0, 1) := by decide +kernel
theorem dX2_advanceName_45 : decode cX2_advanceName 45 = .ok (.ldc 75, 2) := by decide +kernel
theorem dX2_advanceName_47 : decode cX2_advanceName 47 = .ok (.invokevirtual 77, 3) := by decide +kernel
theorem dX2_advanceName_50 : decode cX2_advanceName 50 = .ok (.ifCond .eq 11, 3) := by decide +kernel
theorem dX2_advanceName_53 : decode cX2_advanceName 53 = .ok (.aload_n 0, 1) := by decide +kernel
theorem dX2_advanceName_54 : decode cX2_advanceName 54 = .ok (.iconst 2, 1) := by decide +kernel
theorem dX2_advanceName_55 : decode cX2_advanceName 55 = .ok (.putfield 42, 3) := by decide +kernel
theorem dX2_advanceName_58 : decode cX2_advanceName 58 = .ok (.goto 34, 3) := by decide +kernel
theorem dX2_advanceName_61 : decode cX2_advanceName 61 = .ok (.aload_n 0, 1) := by decide +kernel
theorem dX2_advanceName_62 : decode cX2_advanceName 62 = .ok (.ldc 81, 2) := by decide +kernel
theorem dX2_advanceName_64 : decode cX2_advanceName 64 = .ok (.invokevirtual 77, 3) := by decide +kernel
theorem dX2_advanceName_67 : decode cX2_advanceName 67 = .ok (.ifCond .eq 11, 3) := by decide +kernel
theorem dX2_advanceName_70 : decode cX2_advanceName 70 = .ok (.aload_n 0, 1) := by decide +kernel
theorem dX2_advanceName_71 : decode cX2_advanceName 71 = .ok (.iconst 3, 1) := by decide +kernel
theorem dX2_advanceName_72 : decode cX2_advanceName 72 = .ok (.putfield 42, 3) := by decide +kernel
theorem dX2_advanceName_75 : decode cX2_advanceName 75 = .ok (.goto 17, 3) := by decide +kernel
theorem dX2_advanceName_78 : decode cX2_advanceName 78 = .ok (.aload_n 0, 1) := by decide +kernel
theorem dX2_advanceName_79 : decode cX2_advanceName 79 = .ok (.ldc 83, 2) := by decide +kernel
theorem dX2_advanceName_81 : decode cX2_advanceName 81 = .ok (.invokevirtual 77, 3) := by decide +kernel
theorem dX2_advanceName_84 : decode cX2_advanceName 84 = .ok (.ifCond .eq 8, 3) := by decide +kernel
theorem dX2_advanceName_87 : decode cX2_advanceName 87 = .ok (.aload_n 0, 1) := by decide +kernel
theorem dX2_advanceName_88 : decode cX2_advanceName 88 = .ok (.iconst 4, 1) := by decide +kernel
theorem dX2_advanceName_89 : decode cX2_advanceName 89 = .ok (.putfield 42, 3) := by decide +kernel
theorem dX2_advanceName_92 : decode cX2_advanceName 92 = .ok (.return_, 1) := by decide +kernel
set_option maxRecDepth 20000 in
theorem ggX2_isWord_J0_length_8abf5 : GoodIn wsX2_isWord wsJ0_length_8abf5 := goodIn_r _ [8, 9, 10, 11, 12, 7, 13, 14, 15] (by decide +kernel) (by decide +kernel)
set_option maxRecDepth 20000 in
theorem gX2_isWord_J0_length_8abf5 : GoodIn wsX2_isWord (wsV RX2 85 RJ0 yJ0_length_8abf5 wsJ0_length_8abf5) := goodIn_app (goodIn_of _ (by decide +kernel)) ggX2_isWord_J0_length_8abf5
set_option maxRecDepth 20000 in
theorem ggX2_isWord_J0_charAt_5068e : GoodIn wsX2_isWord wsJ0_charAt_5068e := goodIn_r _ [19, 9, 20, 21, 22, 7, 23, 14, 15, 24, 25, 26, 27, 28, 29, 30, 31, 32, 33, 34, 35, 36, 37, 38, 39, 40, 41, 42, 43, 44, 45, 46, 47, 48, 49, 50, 51, 52] (by decide +kernel) (by decide +kernel)
set_option maxRecDepth 20000 in
theorem gX2_isWord_J0_charAt_5068e : GoodIn wsX2_isWord (wsV RX2 89 RJ0 yJ0_charAt_5068e wsJ0_charAt_5068e) := goodIn_app (goodIn_of _ (by decide +kernel)) ggX2_isWord_J0_charAt_5068e
theorem dX2_isWord_0 : decode cX2_isWord 0 = .ok (.aload_n 0, 1) := by decide +kernel
theorem dX2_isWord_1 : decode cX2_isWord 1 = .ok (.getfield 36, 3) := by decide +kernel
theorem dX2_isWord_4 : decode cX2_isWord 4 = .ok (.aload_n 0, 1) := by decide +kernel
theorem dX2_isWord_5 : decode cX2_isWord 5 = .ok (.getfield 33, 3) := by decide +kernel
theorem dX2_isWord_8 : decode cX2_isWord 8 = .ok (.isub, 1) := by decide +kernel
theorem dX2_isWord_9 : decode cX2_isWord 9 = .ok (.aload_n 1, 1) := by decide +kernel
theorem dX2_isWord_10 : decode cX2_isWord 10 = .ok (.invokevirtual 85, 3) := by decide +kernel
theorem dX2_isWord_13 : decode cX2_isWord 13 = .ok (.if_icmp .eq 5, 3) := by decide +kernel
theorem dX2_isWord_16 : decode cX2_isWord 16 = .ok (.iconst 0, 1) := by decide +kernel
theorem dX2_isWord_17 : decode cX2_isWord 17 = .ok (.ireturn, 1) := by decide +kernel
theorem dX2_isWord_18 : decode cX2_isWord 18 = .ok (.iconst 0, 1) := by decide +kernel
theorem dX2_isWord_19 : decode cX2_isWord 19 = .ok (.istore_n 2, 1) := by decide +kernel
theorem dX2_isWord_20 : decode cX2_isWord 20 = .ok (.iload_n 2, 1) := by decide +kernel
theorem dX2_isWord_21 : decode cX2_isWord 21 = .ok (.aload_n 1, 1) := by decide +kernel
theorem dX2_isWord_22 : decode cX2_isWord 22 = .ok (.invokevirtual 85, 3) := by decide +kernel
theorem dX2_isWord_25 : decode cX2_isWord 25 = .ok (.if_icmp .ge 30, 3) := by decide +kernel
theorem dX2_isWord_28 : decode cX2_isWord 28 = .ok (.aload_n 0, 1) := by decide +kernel
theorem dX2_isWord_29 : decode cX2_isWord 29 = .ok (.getfield 9, 3) := by decide +kernel
theorem dX2_isWord_32 : decode cX2_isWord 32 = .ok (.aload_n 0, 1) := by decide +kernel
theorem dX2_isWord_33 : decode cX2_isWord 33 = .ok (.getfield 33, 3) := by decide +kernel
theorem dX2_isWord_36 : decode cX2_isWord 36 = .ok (.iload_n 2, 1) := by decide +kernel
theorem dX2_isWord_37 : decode cX2_isWord 37 = .ok (.iadd, 1) := by decide +kernel
theorem dX2_isWord_38 : decode cX2_isWord 38 = .ok (.iaload, 1) := by decide +kernel
theorem dX2_isWord_39 : decode cX2_isWord 39 = .ok (.aload_n 1, 1) := by decide +kernel
theorem dX2_isWord_40 : decode cX2_isWord 40 = .ok (.iload_n 2, 1) := by decide +kernel
theorem dX2_isWord_41 : decode cX2_isWord 41 = .ok (.invokevirtual 89, 3) := by decide +kernel
theorem dX2_isWord_44 : decode cX2_isWord 44 = .ok (.if_icmp .eq 5, 3) := by decide +kernel
theorem dX2_isWord_47 : decode cX2_isWord 47 = .ok (.iconst 0, 1) := by decide +kernel
theorem dX2_isWord_48 : decode cX2_isWord 48 = .ok (.ireturn, 1) := by decide +kernel
theorem dX2_isWord_49 : decode cX2_isWord 49 = .ok (.iinc 2 1, 3) := by decide +kernel
theorem dX2_isWord_52 : decode cX2_isWord 52 = .ok (.goto (-32), 3) := by decide +kernel
theorem dX2_isWord_55 : decode cX2_isWord 55 = .ok (.iconst 1, 1) := by decide +kernel
theorem dX2_isWord_56 : decode cX2_isWord 56 = .ok (.ireturn, 1) := by decide +kernel
set_option maxRecDepth 20000 in
theorem ggX2_advanceNumber_X2_isFigure : GoodIn wsX2_advanceNumber wsX2_isFigure := goodIn_r _ [10] (by decide +kernel) (by decide +kernel)
set_option maxRecDepth 20000 in
theorem gX2_advanceNumber_X2_isFigure : GoodIn wsX2_advanceNumber (va_wsS RX2 69 yX2_isFigure wsX2_isFigure) := goodIn_app (goodIn_of _ (by decide +kernel)) ggX2_advanceNumber_X2_isFigure
theorem dX2_advanceNumber_0 : decode cX2_advanceNumber 0 = .ok (.aload_n 0, 1) := by decide +kernel
theorem dX2_advanceNumber_1 : decode cX2_advanceNumber 1 = .ok (.iconst 0, 1) := by decide +kernel
theorem dX2_advanceNumber_2 : decode cX2_advanceNumber 2 = .ok (.putfield 59, 3) := by decide +kernel
theorem dX2_advanceNumber_5 : decode cX2_advanceNumber 5 = .ok (.aload_n 0, 1) := by decide +kernel
theorem dX2_advanceNumber_6 : decode cX2_advanceNumber 6 = .ok (.getfield 36, 3) := by decide +kernel
theorem dX2_advanceNumber_9 : decode cX2_advanceNumber 9 = .ok (.aload_n 0, 1) := by decide +kernel
theorem dX2_advanceNumber_10 : decode cX2_advanceNumber 10 = .ok (.getfield 18, 3) := by decide +kernel
theorem dX2_advanceNumber_13 : decode cX2_advanceNumber 13 = .ok (.if_icmp .ge 75, 3) := by decide +kernel
theorem dX2_advanceNumber_16 : decode cX2_advanceNumber 16 = .ok (.aload_n 0, 1) := by decide +kernel
theorem dX2_advanceNumber_17 : decode cX2_advanceNumber 17 = .ok (.getfield 9, 3) := by decide +kernel
theorem dX2_advanceNumber_20 : decode cX2_advanceNumber 20 = .ok (.aload_n 0, 1) := by decide +kernel
theorem dX2_advanceNumber_21 : decode cX2_advanceNumber 21 = .ok (.getfield 36, 3) := by decide +kernel
theorem dX2_advanceNumber_24 : decode cX2_advanceNumber 24 = .ok (.iaload, 1) := by decide +kernel
theorem dX2_advanceNumber_25 : decode cX2_advanceNumber 25 = .ok (.invokestatic 69, 3) := by decide +kernel
theorem dX2_advanceNumber_28 : decode cX2_advanceNumber 28 = .ok (.ifCond .eq 60, 3) := by decide +kernel
theorem dX2_advanceNumber_31 : decode cX2_advanceNumber 31 = .ok (.aload_n 0, 1) := by decide +kernel
theorem dX2_advanceNumber_32 : decode cX2_advanceNumber 32 = .ok (.aload_n 0, 1) := by decide +kernel
theorem dX2_advanceNumber_33 : decode cX2_advanceNumber 33 = .ok (.getfield 36, 3) := by decide +kernel
theorem dX2_advanceNumber_36 : decode cX2_advanceNumber 36 = .ok (.aload_n 0, 1) := by decide +kernel
theorem dX2_advanceNumber_37 : decode cX2_advanceNumber 37 = .ok (.getfield 33, 3) := by decide +kernel
theorem dX2_advanceNumber_40 : decode cX2_advanceNumber 40 = .ok (.isub, 1) := by decide +kernel
theorem dX2_advanceNumber_41 : decode cX2_advanceNumber 41 = .ok (.iconst 2, 1) := by decide +kernel
theorem dX2_advanceNumber_42 : decode cX2_advanceNumber 42 = .ok (.if_icmp .ge 26, 3) := by decide +kernel
theorem dX2_advanceNumber_45 : decode cX2_advanceNumber 45 = .ok (.aload_n 0, 1) := by decide +kernel
theorem dX2_advanceNumber_46 : decode cX2_advanceNumber 46 = .ok (.getfield 59, 3) := by decide +kernel
theorem dX2_advanceNumber_49 : decode cX2_advanceNumber 49 = .ok (.bipush 10, 2) := by decide +kernel
theorem dX2_advanceNumber_51 : decode cX2_advanceNumber 51 = .ok (.imul, 1) := by decide +kernel
theorem dX2_advanceNumber_52 : decode cX2_advanceNumber 52 = .ok (.aload_n 0, 1) := by decide +kernel
theorem dX2_advanceNumber_53 : decode cX2_advanceNumber 53 = .ok (.getfield 9, 3) := by decide +kernel
theorem dX2_advanceNumber_56 : decode cX2_advanceNumber 56 = .ok (.aload_n 0, 1) := by decide +kernel
theorem dX2_advanceNumber_57 : decode cX2_advanceNumber 57 = .ok (.getfield 36, 3) := by decide +kernel
theorem dX2_advanceNumber_60 : decode cX2_advanceNumber 60 = .ok (.iaload, 1) := by decide +kernel
theorem dX2_advanceNumber_61 : decode cX2_advanceNumber 61 = .ok (.iadd, 1) := by decide +kernel
theorem dX2_advanceNumber_62 : decode cX2_advanceNumber 62 = .ok (.bipush 48, 2) := by decide +kernel
theorem dX2_advanceNumber_64 : decode cX2_advanceNumber 64 = .ok (.isub, 1) := by decide +kernel
theorem dX2_advanceNumber_65 : decode cX2_advanceNumber 65 = .ok (.goto 7, 3) := by decide +kernel
theorem dX2_advanceNumber_68 : decode cX2_advanceNumber 68 = .ok (.aload_n 0, 1) := by decide +kernel
theorem dX2_advanceNumber_69 : decode cX2_advanceNumber 69 = .ok (.getfield 59, 3) := by decide +kernel
theorem dX2_advanceNumber_72 : decode cX2_advanceNumber 72 = .ok (.putfield 59, 3) := by decide +kernel
theorem dX2_advanceNumber_75 : decode cX2_advanceNumber 75 = .ok (.aload_n 0, 1) := by decide +kernel
theorem dX2_advanceNumber_76 : decode cX2_advanceNumber 76 = .ok (.dup, 1) := by decide +kernel
theorem dX2_advanceNumber_77 : decode cX2_advanceNumber 77 = .ok (.getfield 36, 3) := by decide +kernel
theorem dX2_advanceNumber_80 : decode cX2_advanceNumber 80 = .ok (.iconst 1, 1) := by decide +kernel
theorem dX2_advanceNumber_81 : decode cX2_advanceNumber 81 = .ok (.iadd, 1) := by decide +kernel
theorem dX2_advanceNumber_82 : decode cX2_advanceNumber 82 = .ok (.putfield 36, 3) := by decide +kernel
theorem dX2_advanceNumber_85 : decode cX2_advanceNumber 85 = .ok (.goto (-80), 3) := by decide +kernel
theorem dX2_advanceNumber_88 : decode cX2_advanceNumber 88 = .ok (.aload_n 0, 1) := by decide +kernel
theorem dX2_advanceNumber_89 : decode cX2_advanceNumber 89 = .ok (.aload_n 0, 1) := by decide +kernel
theorem dX2_advanceNumber_90 : decode cX2_advanceNumber 90 = .ok (.getfield 36, 3) := by decide +kernel
theorem dX2_advanceNumber_93 : decode cX2_advanceNumber 93 = .ok (.aload_n 0, 1) := by decide +kernel
theorem dX2_advanceNumber_94 : decode cX2_advanceNumber 94 = .ok (.getfield 33, 3) := by decide +kernel
theorem dX2_advanceNumber_97 : decode cX2_advanceNumber 97 = .ok (.isub, 1) := by decide +kernel
theorem dX2_advanceNumber_98 : decode cX2_advanceNumber 98 = .ok (.iconst 2, 1) := by decide +kernel
theorem dX2_advanceNumber_99 : decode cX2_advanceNumber 99 = .ok (.if_icmp .gt 7, 3) := by decide +kernel
theorem dX2_advanceNumber_102 : decode cX2_advanceNumber 102 = .ok (.iconst 5, 1) := by decide +kernel
theorem dX2_advanceNumber_103 : decode cX2_advanceNumber 103 = .ok (.goto 4, 3) := by decide +kernel
theorem dX2_advanceNumber_106 : decode cX2_advanceNumber 106 = .ok (.iconst 1, 1) := by decide +kernel
theorem dX2_advanceNumber_107 : decode cX2_advanceNumber 107 = .ok (.putfield 42, 3) := by decide +kernel
theorem dX2_advanceNumber_110 : decode cX2_advanceNumber 110 = .ok (.return_, 1) := by decide +kernel
theorem dX2_isLetter_0 : decode cX2_isLetter 0 = .ok (.iload_n 0, 1) := by decide +kernel
theorem dX2_isLetter_1 : decode cX2_isLetter 1 = .ok (.bipush 97, 2) := by decide +kernel
theorem dX2_isLetter_3 : decode cX2_isLetter 3 = .ok (.if_icmp .lt 13, 3) := by decide +kernel
theorem dX2_isLetter_6 : decode cX2_isLetter 6 = .ok (.iload_n 0, 1) := by decide +kernel
theorem dX2_isLetter_7 : decode cX2_isLetter 7 = .ok (.bipush 122, 2) := by decide +kernel
theorem dX2_isLetter_9 : decode cX2_isLetter 9 = .ok (.if_icmp .gt 7, 3) := by decide +kernel
theorem dX2_isLetter_12 : decode cX2_isLetter 12 = .ok (.iconst 1, 1) := by decide +kernel
theorem dX2_isLetter_13 : decode cX2_isLetter 13 = .ok (.goto 4, 3) := by decide +kernel
theorem dX2_isLetter_16 : decode cX2_isLetter 16 = .ok (.iconst 0, 1) := by decide +kernel
theorem dX2_isLetter_17 : decode cX2_isLetter 17 = .ok (.ireturn, 1) := by decide +kernel
theorem dX2_isFigure_0 : decode cX2_isFigure 0 = .ok (.iload_n 0, 1) := by decide +kernel
theorem dX2_isFigure_1 : decode cX2_isFigure 1 = .ok (.bipush 48, 2) := by decide +kernel
theorem dX2_isFigure_3 : decode cX2_isFigure 3 = .ok (.if_icmp .lt 13, 3) := by decide +kernel
theorem dX2_isFigure_6 : decode cX2_isFigure 6 = .ok (.iload_n 0, 1) := by decide +kernel
theorem dX2_isFigure_7 : decode cX2_isFigure 7 = .ok (.bipush 57, 2) := by decide +kernel
theorem dX2_isFigure_9 : decode cX2_isFigure 9 = .ok (.if_icmp .gt 7, 3) := by decide +kernel
theorem dX2_isFigure_12 : decode cX2_isFigure 12 = .ok (.iconst 1, 1) := by decide +kernel
theorem dX2_isFigure_13 : decode cX2_isFigure 13 = .ok (.goto 4, 3) := by decide +kernel
theorem dX2_isFigure_16 : decode cX2_isFigure 16 = .ok (.iconst 0, 1) := by decide +kernel
theorem dX2_isFigure_17 : decode cX2_isFigure 17 = .ok (.ireturn, 1) := by decide +kernel
theorem dX3_init_0 : decode cX3_init 0 = .ok (.aload_n 0, 1) := by decide +kernel
theorem dX3_init_1 : decode cX3_init 1 = .ok (.invokespecial 3, 3) := by decide +kernel
theorem dX3_init_4 : decode cX3_init 4 = .ok (.aload_n 0, 1) := by decide +kernel
theorem dX3_init_5 : decode cX3_init 5 = .ok (.sipush 256, 3) := by decide +kernel
theorem dX3_init_8 : decode cX3_init 8 = .ok (.newarray .int, 2) := by decide +kernel
theorem dX3_init_10 : decode cX3_init 10 = .ok (.putfield 9, 3) := by decide +kernel
theorem dX3_init_13 : decode cX3_init 13 = .ok (.aload_n 0, 1) := by decide +kernel
theorem dX3_init_14 : decode cX3_init 14 = .ok (.sipush 256, 3) := by decide +kernel
theorem dX3_init_17 : decode cX3_init 17 = .ok (.newarray .int, 2) := by decide +kernel
theorem dX3_init_19 : decode cX3_init 19 = .ok (.putfield 15, 3) := by decide +kernel
theorem dX3_init_22 : decode cX3_init 22 = .ok (.aload_n 0, 1) := by decide +kernel
theorem dX3_init_23 : decode cX3_init 23 = .ok (.sipush 256, 3) := by decide +kernel
theorem dX3_init_26 : decode cX3_init 26 = .ok (.newarray .int, 2) := by decide +kernel
theorem dX3_init_28 : decode cX3_init 28 = .ok (.putfield 18, 3) := by decide +kernel
theorem dX3_init_31 : decode cX3_init 31 = .ok (.aload_n 0, 1) := by decide +kernel
theorem dX3_init_32 : decode cX3_init 32 = .ok (.sipush 256, 3) := by decide +kernel
theorem dX3_init_35 : decode cX3_init 35 = .ok (.newarray .long, 2) := by decide +kernel
theorem dX3_init_37 : decode cX3_init 37 = .ok (.putfield 21, 3) := by decide +kernel
theorem dX3_init_40 : decode cX3_init 40 = .ok (.return_, 1) := by decide +kernel
set_option maxRecDepth 20000 in
theorem ggX3_listen_X1_allPosts : GoodIn wsX3_listen wsX1_allPosts := goodIn_r _ [6, 7, 17, 18] (by decide +kernel) (by decide +kernel)
set_option maxRecDepth 20000 in
theorem gX3_listen_X1_allPosts : GoodIn wsX3_listen (wsV RX3 25 RX1 yX1_allPosts wsX1_allPosts) := goodIn_app (goodIn_of _ (by decide +kernel)) ggX3_listen_X1_allPosts
set_option maxRecDepth 20000 in
theorem ggX3_listen_X1_heardBy : GoodIn wsX3_listen wsX1_heardBy := goodIn_r _ [11, 7, 12, 17, 18] (by decide +kernel) (by decide +kernel)
set_option maxRecDepth 20000 in
theorem gX3_listen_X1_heardBy : GoodIn wsX3_listen (wsV RX3 31 RX1 yX1_heardBy wsX1_heardBy) := goodIn_app (goodIn_of _ (by decide +kernel)) ggX3_listen_X1_heardBy
theorem dX3_listen_0 : decode cX3_listen 0 = .ok (.iconst 0, 1) := by decide +kernel
theorem dX3_listen_1 : decode cX3_listen 1 = .ok (.istore_n 3, 1) := by decide +kernel
theorem dX3_listen_2 : decode cX3_listen 2 = .ok (.iload_n 3, 1) := by decide +kernel
theorem dX3_listen_3 : decode cX3_listen 3 = .ok (.aload_n 1, 1) := by decide +kernel
theorem dX3_listen_4 : decode cX3_listen 4 = .ok (.invokevirtual 25, 3) := by decide +kernel
theorem dX3_listen_7 : decode cX3_listen 7 = .ok (.if_icmp .gt 21, 3) := by decide +kernel
theorem dX3_listen_10 : decode cX3_listen 10 = .ok (.aload_n 0, 1) := by decide +kernel
theorem dX3_listen_11 : decode cX3_listen 11 = .ok (.getfield 9, 3) := by decide +kernel
theorem dX3_listen_14 : decode cX3_listen 14 = .ok (.iload_n 3, 1) := by decide +kernel
theorem dX3_listen_15 : decode cX3_listen 15 = .ok (.aload_n 1, 1) := by decide +kernel
theorem dX3_listen_16 : decode cX3_listen 16 = .ok (.iload_n 2, 1) := by decide +kernel
theorem dX3_listen_17 : decode cX3_listen 17 = .ok (.iload_n 3, 1) := by decide +kernel
theorem dX3_listen_18 : decode cX3_listen 18 = .ok (.invokevirtual 31, 3) := by decide +kernel
theorem dX3_listen_21 : decode cX3_listen 21 = .ok (.iastore, 1) := by decide +kernel
theorem dX3_listen_22 : decode cX3_listen 22 = .ok (.iinc 3 1, 3) := by decide +kernel
theorem dX3_listen_25 : decode cX3_listen 25 = .ok (.goto (-23), 3) := by decide +kernel
theorem dX3_listen_28 : decode cX3_listen 28 = .ok (.return_, 1) := by decide +kernel
set_option maxRecDepth 20000 in
theorem ggX3_findFewest_X3_fewestBehindOneRound : GoodIn wsX3_findFewest wsX3_fewestBehindOneRound := goodIn_r _ [6, 7, 1, 8, 9, 10, 11, 12, 13, 14, 15] (by decide +kernel) (by decide +kernel)
set_option maxRecDepth 20000 in
theorem gX3_findFewest_X3_fewestBehindOneRound : GoodIn wsX3_findFewest (wsV RX3 35 RX3 yX3_fewestBehindOneRound wsX3_fewestBehindOneRound) := goodIn_app (goodIn_of _ (by decide +kernel)) ggX3_findFewest_X3_fewestBehindOneRound
theorem dX3_findFewest_0 : decode cX3_findFewest 0 = .ok (.aload_n 0, 1) := by decide +kernel
theorem dX3_findFewest_1 : decode cX3_findFewest 1 = .ok (.getfield 15, 3) := by decide +kernel
theorem dX3_findFewest_4 : decode cX3_findFewest 4 = .ok (.iload_n 2, 1) := by decide +kernel
theorem dX3_findFewest_5 : decode cX3_findFewest 5 = .ok (.iconst 0, 1) := by decide +kernel
theorem dX3_findFewest_6 : decode cX3_findFewest 6 = .ok (.iastore, 1) := by decide +kernel
theorem dX3_findFewest_7 : decode cX3_findFewest 7 = .ok (.iload_n 2, 1) := by decide +kernel
theorem dX3_findFewest_8 : decode cX3_findFewest 8 = .ok (.iconst 1, 1) := by decide +kernel
theorem dX3_findFewest_9 : decode cX3_findFewest 9 = .ok (.isub, 1) := by decide +kernel
theorem dX3_findFewest_10 : decode cX3_findFewest 10 = .ok (.istore_n 3, 1) := by decide +kernel
theorem dX3_findFewest_11 : decode cX3_findFewest 11 = .ok (.iload_n 3, 1) := by decide +kernel
theorem dX3_findFewest_12 : decode cX3_findFewest 12 = .ok (.iload_n 1, 1) := by decide +kernel
theorem dX3_findFewest_13 : decode cX3_findFewest 13 = .ok (.if_icmp .lt 37, 3) := by decide +kernel
theorem dX3_findFewest_16 : decode cX3_findFewest 16 = .ok (.iload_n 3, 1) := by decide +kernel
theorem dX3_findFewest_17 : decode cX3_findFewest 17 = .ok (.iload_n 1, 1) := by decide +kernel
theorem dX3_findFewest_18 : decode cX3_findFewest 18 = .ok (.iand, 1) := by decide +kernel
theorem dX3_findFewest_19 : decode cX3_findFewest 19 = .ok (.iload_n 1, 1) := by decide +kernel
theorem dX3_findFewest_20 : decode cX3_findFewest 20 = .ok (.if_icmp .ne 24, 3) := by decide +kernel
theorem dX3_findFewest_23 : decode cX3_findFewest 23 = .ok (.iload_n 3, 1) := by decide +kernel
theorem dX3_findFewest_24 : decode cX3_findFewest 24 = .ok (.iload_n 2, 1) := by decide +kernel
theorem dX3_findFewest_25 : decode cX3_findFewest 25 = .ok (.iconst (-1), 1) := by decide +kernel
theorem dX3_findFewest_26 : decode cX3_findFewest 26 = .ok (.ixor, 1) := by decide +kernel
theorem dX3_findFewest_27 : decode cX3_findFewest 27 = .ok (.iand, 1) := by decide +kernel
theorem dX3_findFewest_28 : decode cX3_findFewest 28 = .ok (.ifCond .ne 16, 3) := by decide +kernel
theorem dX3_findFewest_31 : decode cX3_findFewest 31 = .ok (.aload_n 0, 1) := by decide +kernel
theorem dX3_findFewest_32 : decode cX3_findFewest 32 = .ok (.getfield 15, 3) := by decide +kernel
theorem dX3_findFewest_35 : decode cX3_findFewest 35 = .ok (.iload_n 3, 1) := by decide +kernel
theorem dX3_findFewest_36 : decode cX3_findFewest 36 = .ok (.iconst 1, 1) := by decide +kernel
theorem dX3_findFewest_37 : decode cX3_findFewest 37 = .ok (.aload_n 0, 1) := by decide +kernel
theorem dX3_findFewest_38 : decode cX3_findFewest 38 = .ok (.iload_n 3, 1) := by decide +kernel
theorem dX3_findFewest_39 : decode cX3_findFewest 39 = .ok (.invokevirtual 35, 3) := by decide +kernel
theorem dX3_findFewest_42 : decode cX3_findFewest 42 = .ok (.iadd, 1) := by decide +kernel
theorem dX3_findFewest_43 : decode cX3_findFewest 43 = .ok (.iastore, 1) := by decide +kernel
theorem dX3_findFewest_44 : decode cX3_findFewest 44 = .ok (.iinc 3 (-1), 3) := by decide +kernel
theorem dX3_findFewest_47 : decode cX3_findFewest 47 = .ok (.goto (-36), 3) := by decide +kernel
theorem dX3_findFewest_50 : decode cX3_findFewest 50 = .ok (.return_, 1) := by decide +kernel
theorem dX3_fewestBehindOneRound_0 : decode cX3_fewestBehindOneRound 0 = .ok (.bipush 8, 2) := by decide +kernel
theorem dX3_fewestBehindOneRound_2 : decode cX3_fewestBehindOneRound 2 = .ok (.istore_n 2, 1) := by decide +kernel
theorem dX3_fewestBehindOneRound_3 : decode cX3_fewestBehindOneRound 3 = .ok (.iload_n 1, 1) := by decide +kernel
theorem dX3_fewestBehindOneRound_4 : decode cX3_fewestBehindOneRound 4 = .ok (.istore_n 3, 1) := by decide +kernel
theorem dX3_fewestBehindOneRound_5 : decode cX3_fewestBehindOneRound 5 = .ok (.iload_n 3, 1) := by decide +kernel
theorem dX3_fewestBehindOneRound_6 : decode cX3_fewestBehindOneRound 6 = .ok (.ifCond .le 40, 3) := by decide +kernel
theorem dX3_fewestBehindOneRound_9 : decode cX3_fewestBehindOneRound 9 = .ok (.iload_n 1, 1) := by decide +kernel
theorem dX3_fewestBehindOneRound_10 : decode cX3_fewestBehindOneRound 10 = .ok (.aload_n 0, 1) := by decide +kernel
theorem dX3_fewestBehindOneRound_11 : decode cX3_fewestBehindOneRound 11 = .ok (.getfield 9, 3) := by decide +kernel
theorem dX3_fewestBehindOneRound_14 : decode cX3_fewestBehindOneRound 14 = .ok (.iload_n 3, 1) := by decide +kernel
theorem dX3_fewestBehindOneRound_15 : decode cX3_fewestBehindOneRound 15 = .ok (.iaload, 1) := by decide +kernel
theorem dX3_fewestBehindOneRound_16 : decode cX3_fewestBehindOneRound 16 = .ok (.ior, 1) := by decide +kernel
theorem dX3_fewestBehindOneRound_17 : decode cX3_fewestBehindOneRound 17 = .ok (.istore 4, 2) := by decide +kernel
theorem dX3_fewestBehindOneRound_19 : decode cX3_fewestBehindOneRound 19 = .ok (.iload 4, 2) := by decide +kernel
theorem dX3_fewestBehindOneRound_21 : decode cX3_fewestBehindOneRound 21 = .ok (.iload_n 1, 1) := by decide +kernel
theorem dX3_fewestBehindOneRound_22 : decode cX3_fewestBehindOneRound 22 = .ok (.if_icmp .eq 15, 3) := by decide +kernel
theorem dX3_fewestBehindOneRound_25 : decode cX3_fewestBehindOneRound 25 = .ok (.iload_n 2, 1) := by decide +kernel
theorem dX3_fewestBehindOneRound_26 : decode cX3_fewestBehindOneRound 26 = .ok (.aload_n 0, 1) := by decide +kernel
theorem dX3_fewestBehindOneRound_27 : decode cX3_fewestBehindOneRound 27 = .ok (.getfield 15, 3) := by decide +kernel
theorem dX3_fewestBehindOneRound_30 : decode cX3_fewestBehindOneRound 30 = .ok (.iload 4, 2) := by decide +kernel
theorem dX3_fewestBehindOneRound_32 : decode cX3_fewestBehindOneRound 32 = .ok (.iaload, 1) := by decide +kernel
theorem dX3_fewestBehindOneRound_33 : decode cX3_fewestBehindOneRound 33 = .ok (.invokestatic 39, 3) := by decide +kernel
theorem dX3_fewestBehindOneRound_36 : decode cX3_fewestBehindOneRound 36 = .ok (.istore_n 2, 1) := by decide +kernel
theorem dX3_fewestBehindOneRound_37 : decode cX3_fewestBehindOneRound 37 = .ok (.iload_n 3, 1) := by decide +kernel
theorem dX3_fewestBehindOneRound_38 : decode cX3_fewestBehindOneRound 38 = .ok (.iconst 1, 1) := by decide +kernel
theorem dX3_fewestBehindOneRound_39 : decode cX3_fewestBehindOneRound 39 = .ok (.isub, 1) := by decide +kernel
theorem dX3_fewestBehindOneRound_40 : decode cX3_fewestBehindOneRound 40 = .ok (.iload_n 1, 1) := by decide +kernel
theorem dX3_fewestBehindOneRound_41 : decode cX3_fewestBehindOneRound 41 = .ok (.iand, 1) := by decide +kernel
theorem dX3_fewestBehindOneRound_42 : decode cX3_fewestBehindOneRound 42 = .ok (.istore_n 3, 1) := by decide +kernel
theorem dX3_fewestBehindOneRound_43 : decode cX3_fewestBehindOneRound 43 = .ok (.goto (-38), 3) := by decide +kernel
theorem dX3_fewestBehindOneRound_46 : decode cX3_fewestBehindOneRound 46 = .ok (.iload_n 2, 1) := by decide +kernel
theorem dX3_fewestBehindOneRound_47 : decode cX3_fewestBehindOneRound 47 = .ok (.ireturn, 1) := by decide +kernel
theorem dX3_fewestFrom_0 : decode cX3_fewestFrom 0 = .ok (.aload_n 0, 1) := by decide +kernel
theorem dX3_fewestFrom_1 : decode cX3_fewestFrom 1 = .ok (.getfield 15, 3) := by decide +kernel
theorem dX3_fewestFrom_4 : decode cX3_fewestFrom 4 = .ok (.iload_n 1, 1) := by decide +kernel
theorem dX3_fewestFrom_5 : decode cX3_fewestFrom 5 = .ok (.iaload, 1) := by decide +kernel
theorem dX3_fewestFrom_6 : decode cX3_fewestFrom 6 = .ok (.ireturn, 1) := by decide +kernel
theorem dX3_firstSet_0 : decode cX3_firstSet 0 = .ok (.iconst 1, 1) := by decide +kernel
theorem dX3_firstSet_1 : decode cX3_firstSet 1 = .ok (.istore_n 2, 1) := by decide +kernel
theorem dX3_firstSet_2 : decode cX3_firstSet 2 = .ok (.iload_n 2, 1) := by decide +kernel
theorem dX3_firstSet_3 : decode cX3_firstSet 3 = .ok (.iload_n 1, 1) := by decide +kernel
theorem dX3_firstSet_4 : decode cX3_firstSet 4 = .ok (.if_icmp .gt 41, 3) := by decide +kernel
theorem dX3_firstSet_7 : decode cX3_firstSet 7 = .ok (.iload_n 2, 1) := by decide +kernel
theorem dX3_firstSet_8 : decode cX3_firstSet 8 = .ok (.iload_n 1, 1) := by decide +kernel
theorem dX3_firstSet_9 : decode cX3_firstSet 9 = .ok (.iconst (-1), 1) := by decide +kernel
theorem dX3_firstSet_10 : decode cX3_firstSet 10 = .ok (.ixor, 1) := by decide +kernel
theorem dX3_firstSet_11 : decode cX3_firstSet 11 = .ok (.iand, 1) := by decide +kernel
theorem dX3_firstSet_12 : decode cX3_firstSet 12 = .ok (.ifCond .ne 27, 3) := by decide +kernel
theorem dX3_firstSet_15 : decode cX3_firstSet 15 = .ok (.aload_n 0, 1) := by decide +kernel
theorem dX3_firstSet_16 : decode cX3_firstSet 16 = .ok (.getfield 15, 3) := by decide +kernel
theorem dX3_firstSet_19 : decode cX3_firstSet 19 = .ok (.iload_n 1, 1) := by decide +kernel
theorem dX3_firstSet_20 : decode cX3_firstSet 20 = .ok (.aload_n 0, 1) := by decide +kernel
theorem dX3_firstSet_21 : decode cX3_firstSet 21 = .ok (.getfield 9, 3) := by decide +kernel
theorem dX3_firstSet_24 : decode cX3_firstSet 24 = .ok (.iload_n 2, 1) := by decide +kernel
theorem dX3_firstSet_25 : decode cX3_firstSet 25 = .ok (.iaload, 1) := by decide +kernel
theorem dX3_firstSet_26 : decode cX3_firstSet 26 = .ok (.ior, 1) := by decide +kernel
theorem dX3_firstSet_27 : decode cX3_firstSet 27 = .ok (.iaload, 1) := by decide +kernel
theorem dX3_firstSet_28 : decode cX3_firstSet 28 = .ok (.aload_n 0, 1) := by decide +kernel
theorem dX3_firstSet_29 : decode cX3_firstSet 29 = .ok (.getfield 15, 3) := by decide +kernel
theorem dX3_firstSet_32 : decode cX3_firstSet 32 = .ok (.iload_n 1, 1) := by decide +kernel
theorem dX3_firstSet_33 : decode cX3_firstSet 33 = .ok (.iaload, 1) := by decide +kernel
theorem dX3_firstSet_34 : decode cX3_firstSet 34 = .ok (.if_icmp .ge 5, 3) := by decide +kernel
theorem dX3_firstSet_37 : decode cX3_firstSet 37 = .ok (.iload_n 2, 1) := by decide +kernel
theorem dX3_firstSet_38 : decode cX3_firstSet 38 = .ok (.ireturn, 1) := by decide +kernel
end
section
theorem dX3_firstSet_39 : decode cX3_firstSet 39 = .ok (.iinc 2 1, 3) := by decide +kernel
theorem dX3_firstSet_42 : decode cX3_firstSet 42 = .ok (.goto (-40), 3) := by decide +kernel
theorem dX3_firstSet_45 : decode cX3_firstSet 45 = .ok (.iconst 0, 1) := by decide +kernel
theorem dX3_firstSet_46 : decode cX3_firstSet 46 = .ok (.ireturn, 1) := by decide +kernel
set_option maxRecDepth 20000 in
theorem ggX3_worstRounds_X1_reachOf : GoodIn wsX3_worstRounds wsX1_reachOf := goodIn_r _ [7, 8, 9, 10, 11, 6, 12, 13, 47, 48] (by decide +kernel) (by decide +kernel)
set_option maxRecDepth 20000 in
theorem gX3_worstRounds_X1_reachOf : GoodIn wsX3_worstRounds (wsV RX3 44 RX1 yX1_reachOf wsX1_reachOf) := goodIn_app (goodIn_of _ (by decide +kernel)) ggX3_worstRounds_X1_reachOf
set_option maxRecDepth 20000 in
theorem ggX3_worstRounds_J7_fill_53178 : GoodIn wsX3_worstRounds wsJ7_fill_53178 := goodIn_r _ [17] (by decide +kernel) (by decide +kernel)
set_option maxRecDepth 20000 in
theorem gX3_worstRounds_J7_fill_53178 : GoodIn wsX3_worstRounds (va_wsS RX3 47 yJ7_fill_53178 wsJ7_fill_53178) := goodIn_app (goodIn_of _ (by decide +kernel)) ggX3_worstRounds_J7_fill_53178
set_option maxRecDepth 20000 in
theorem ggX3_worstRounds_X1_allPosts : GoodIn wsX3_worstRounds wsX1_allPosts := goodIn_r _ [21, 8, 47, 48] (by decide +kernel) (by decide +kernel)
set_option maxRecDepth 20000 in
theorem gX3_worstRounds_X1_allPosts : GoodIn wsX3_worstRounds (wsV RX3 25 RX1 yX1_allPosts wsX1_allPosts) := goodIn_app (goodIn_of _ (by decide +kernel)) ggX3_worstRounds_X1_allPosts
set_option maxRecDepth 20000 in
theorem ggX3_worstRounds_X5_soundsOverAndOver : GoodIn wsX3_worstRounds wsX5_soundsOverAndOver := goodIn_r _ [26, 27, 28, 29, 30, 25, 31, 32, 49, 50] (by decide +kernel) (by decide +kernel)
set_option maxRecDepth 20000 in
theorem gX3_worstRounds_X5_soundsOverAndOver : GoodIn wsX3_worstRounds (wsV RX3 53 RX5 yX5_soundsOverAndOver wsX5_soundsOverAndOver) := goodIn_app (goodIn_of _ (by decide +kernel)) ggX3_worstRounds_X5_soundsOverAndOver
set_option maxRecDepth 20000 in
theorem ggX3_worstRounds_X3_leavesSomeUntold : GoodIn wsX3_worstRounds wsX3_leavesSomeUntold := goodIn_r _ [37, 1, 38, 39, 40, 41, 42, 43, 44, 45, 46] (by decide +kernel) (by decide +kernel)
set_option maxRecDepth 20000 in
theorem gX3_worstRounds_X3_leavesSomeUntold : GoodIn wsX3_worstRounds (wsV RX3 58 RX3 yX3_leavesSomeUntold wsX3_leavesSomeUntold) := goodIn_app (goodIn_of _ (by decide +kernel)) ggX3_worstRounds_X3_leavesSomeUntold
theorem dX3_worstRounds_0 : decode cX3_worstRounds 0 = .ok (.iconst 1, 1) := by decide +kernel
theorem dX3_worstRounds_1 : decode cX3_worstRounds 1 = .ok (.iload_n 3, 1) := by decide +kernel
theorem dX3_worstRounds_2 : decode cX3_worstRounds 2 = .ok (.ishl, 1) := by decide +kernel
theorem dX3_worstRounds_3 : decode cX3_worstRounds 3 = .ok (.istore 5, 2) := by decide +kernel
theorem dX3_worstRounds_5 : decode cX3_worstRounds 5 = .ok (.aload_n 1, 1) := by decide +kernel
theorem dX3_worstRounds_6 : decode cX3_worstRounds 6 = .ok (.iload 5, 2) := by decide +kernel
theorem dX3_worstRounds_8 : decode cX3_worstRounds 8 = .ok (.invokevirtual 44, 3) := by decide +kernel
theorem dX3_worstRounds_11 : decode cX3_worstRounds 11 = .ok (.istore 6, 2) := by decide +kernel
theorem dX3_worstRounds_13 : decode cX3_worstRounds 13 = .ok (.iload 5, 2) := by decide +kernel
theorem dX3_worstRounds_15 : decode cX3_worstRounds 15 = .ok (.iload 6, 2) := by decide +kernel
theorem dX3_worstRounds_17 : decode cX3_worstRounds 17 = .ok (.if_icmp .ne 5, 3) := by decide +kernel
theorem dX3_worstRounds_20 : decode cX3_worstRounds 20 = .ok (.iconst 0, 1) := by decide +kernel
theorem dX3_worstRounds_21 : decode cX3_worstRounds 21 = .ok (.ireturn, 1) := by decide +kernel
theorem dX3_worstRounds_22 : decode cX3_worstRounds 22 = .ok (.aload_n 0, 1) := by decide +kernel
theorem dX3_worstRounds_23 : decode cX3_worstRounds 23 = .ok (.getfield 18, 3) := by decide +kernel
theorem dX3_worstRounds_26 : decode cX3_worstRounds 26 = .ok (.iload 4, 2) := by decide +kernel
theorem dX3_worstRounds_28 : decode cX3_worstRounds 28 = .ok (.iconst 1, 1) := by decide +kernel
theorem dX3_worstRounds_29 : decode cX3_worstRounds 29 = .ok (.iadd, 1) := by decide +kernel
theorem dX3_worstRounds_30 : decode cX3_worstRounds 30 = .ok (.invokestatic 47, 3) := by decide +kernel
theorem dX3_worstRounds_33 : decode cX3_worstRounds 33 = .ok (.aload_n 0, 1) := by decide +kernel
theorem dX3_worstRounds_34 : decode cX3_worstRounds 34 = .ok (.getfield 18, 3) := by decide +kernel
theorem dX3_worstRounds_37 : decode cX3_worstRounds 37 = .ok (.iload 5, 2) := by decide +kernel
theorem dX3_worstRounds_39 : decode cX3_worstRounds 39 = .ok (.iconst 0, 1) := by decide +kernel
theorem dX3_worstRounds_40 : decode cX3_worstRounds 40 = .ok (.iastore, 1) := by decide +kernel
theorem dX3_worstRounds_41 : decode cX3_worstRounds 41 = .ok (.iconst 0, 1) := by decide +kernel
theorem dX3_worstRounds_42 : decode cX3_worstRounds 42 = .ok (.istore 7, 2) := by decide +kernel
theorem dX3_worstRounds_44 : decode cX3_worstRounds 44 = .ok (.iload 7, 2) := by decide +kernel
theorem dX3_worstRounds_46 : decode cX3_worstRounds 46 = .ok (.bipush 60, 2) := by decide +kernel
theorem dX3_worstRounds_48 : decode cX3_worstRounds 48 = .ok (.if_icmp .ge 41, 3) := by decide +kernel
theorem dX3_worstRounds_51 : decode cX3_worstRounds 51 = .ok (.aload_n 2, 1) := by decide +kernel
theorem dX3_worstRounds_52 : decode cX3_worstRounds 52 = .ok (.iload 7, 2) := by decide +kernel
theorem dX3_worstRounds_54 : decode cX3_worstRounds 54 = .ok (.aload_n 1, 1) := by decide +kernel
theorem dX3_worstRounds_55 : decode cX3_worstRounds 55 = .ok (.invokevirtual 25, 3) := by decide +kernel
theorem dX3_worstRounds_58 : decode cX3_worstRounds 58 = .ok (.invokevirtual 53, 3) := by decide +kernel
theorem dX3_worstRounds_61 : decode cX3_worstRounds 61 = .ok (.istore 8, 2) := by decide +kernel
theorem dX3_worstRounds_63 : decode cX3_worstRounds 63 = .ok (.aload_n 0, 1) := by decide +kernel
theorem dX3_worstRounds_64 : decode cX3_worstRounds 64 = .ok (.iload 5, 2) := by decide +kernel
theorem dX3_worstRounds_66 : decode cX3_worstRounds 66 = .ok (.iload 6, 2) := by decide +kernel
theorem dX3_worstRounds_68 : decode cX3_worstRounds 68 = .ok (.iload 8, 2) := by decide +kernel
theorem dX3_worstRounds_70 : decode cX3_worstRounds 70 = .ok (.iload 4, 2) := by decide +kernel
theorem dX3_worstRounds_72 : decode cX3_worstRounds 72 = .ok (.invokevirtual 58, 3) := by decide +kernel
theorem dX3_worstRounds_75 : decode cX3_worstRounds 75 = .ok (.ifCond .ne 8, 3) := by decide +kernel
theorem dX3_worstRounds_78 : decode cX3_worstRounds 78 = .ok (.iload 7, 2) := by decide +kernel
theorem dX3_worstRounds_80 : decode cX3_worstRounds 80 = .ok (.iconst 1, 1) := by decide +kernel
theorem dX3_worstRounds_81 : decode cX3_worstRounds 81 = .ok (.iadd, 1) := by decide +kernel
theorem dX3_worstRounds_82 : decode cX3_worstRounds 82 = .ok (.ireturn, 1) := by decide +kernel
theorem dX3_worstRounds_83 : decode cX3_worstRounds 83 = .ok (.iinc 7 1, 3) := by decide +kernel
theorem dX3_worstRounds_86 : decode cX3_worstRounds 86 = .ok (.goto (-42), 3) := by decide +kernel
theorem dX3_worstRounds_89 : decode cX3_worstRounds 89 = .ok (.ldc 62, 2) := by decide +kernel
theorem dX3_worstRounds_91 : decode cX3_worstRounds 91 = .ok (.ireturn, 1) := by decide +kernel
theorem dX3_leavesSomeUntold_0 : decode cX3_leavesSomeUntold 0 = .ok (.iconst 0, 1) := by decide +kernel
theorem dX3_leavesSomeUntold_1 : decode cX3_leavesSomeUntold 1 = .ok (.istore 5, 2) := by decide +kernel
theorem dX3_leavesSomeUntold_3 : decode cX3_leavesSomeUntold 3 = .ok (.iload_n 2, 1) := by decide +kernel
theorem dX3_leavesSomeUntold_4 : decode cX3_leavesSomeUntold 4 = .ok (.iconst 1, 1) := by decide +kernel
theorem dX3_leavesSomeUntold_5 : decode cX3_leavesSomeUntold 5 = .ok (.isub, 1) := by decide +kernel
theorem dX3_leavesSomeUntold_6 : decode cX3_leavesSomeUntold 6 = .ok (.istore 6, 2) := by decide +kernel
theorem dX3_leavesSomeUntold_8 : decode cX3_leavesSomeUntold 8 = .ok (.iload 6, 2) := by decide +kernel
theorem dX3_leavesSomeUntold_10 : decode cX3_leavesSomeUntold 10 = .ok (.iload_n 1, 1) := by decide +kernel
theorem dX3_leavesSomeUntold_11 : decode cX3_leavesSomeUntold 11 = .ok (.if_icmp .lt 101, 3) := by decide +kernel
theorem dX3_leavesSomeUntold_14 : decode cX3_leavesSomeUntold 14 = .ok (.aload_n 0, 1) := by decide +kernel
theorem dX3_leavesSomeUntold_15 : decode cX3_leavesSomeUntold 15 = .ok (.getfield 18, 3) := by decide +kernel
theorem dX3_leavesSomeUntold_18 : decode cX3_leavesSomeUntold 18 = .ok (.iload 6, 2) := by decide +kernel
theorem dX3_leavesSomeUntold_20 : decode cX3_leavesSomeUntold 20 = .ok (.iaload, 1) := by decide +kernel
theorem dX3_leavesSomeUntold_21 : decode cX3_leavesSomeUntold 21 = .ok (.istore 7, 2) := by decide +kernel
theorem dX3_leavesSomeUntold_23 : decode cX3_leavesSomeUntold 23 = .ok (.iload 7, 2) := by decide +kernel
theorem dX3_leavesSomeUntold_25 : decode cX3_leavesSomeUntold 25 = .ok (.iload 4, 2) := by decide +kernel
theorem dX3_leavesSomeUntold_27 : decode cX3_leavesSomeUntold 27 = .ok (.if_icmp .gt 79, 3) := by decide +kernel
theorem dX3_leavesSomeUntold_30 : decode cX3_leavesSomeUntold 30 = .ok (.iload 6, 2) := by decide +kernel
theorem dX3_leavesSomeUntold_32 : decode cX3_leavesSomeUntold 32 = .ok (.aload_n 0, 1) := by decide +kernel
theorem dX3_leavesSomeUntold_33 : decode cX3_leavesSomeUntold 33 = .ok (.getfield 9, 3) := by decide +kernel
theorem dX3_leavesSomeUntold_36 : decode cX3_leavesSomeUntold 36 = .ok (.iload 6, 2) := by decide +kernel
theorem dX3_leavesSomeUntold_38 : decode cX3_leavesSomeUntold 38 = .ok (.iload_n 3, 1) := by decide +kernel
theorem dX3_leavesSomeUntold_39 : decode cX3_leavesSomeUntold 39 = .ok (.iand, 1) := by decide +kernel
theorem dX3_leavesSomeUntold_40 : decode cX3_leavesSomeUntold 40 = .ok (.iaload, 1) := by decide +kernel
theorem dX3_leavesSomeUntold_41 : decode cX3_leavesSomeUntold 41 = .ok (.ior, 1) := by decide +kernel
theorem dX3_leavesSomeUntold_42 : decode cX3_leavesSomeUntold 42 = .ok (.istore 8, 2) := by decide +kernel
theorem dX3_leavesSomeUntold_44 : decode cX3_leavesSomeUntold 44 = .ok (.iload 8, 2) := by decide +kernel
theorem dX3_leavesSomeUntold_46 : decode cX3_leavesSomeUntold 46 = .ok (.iload 6, 2) := by decide +kernel
theorem dX3_leavesSomeUntold_48 : decode cX3_leavesSomeUntold 48 = .ok (.if_icmp .eq 33, 3) := by decide +kernel
theorem dX3_leavesSomeUntold_51 : decode cX3_leavesSomeUntold 51 = .ok (.aload_n 0, 1) := by decide +kernel
theorem dX3_leavesSomeUntold_52 : decode cX3_leavesSomeUntold 52 = .ok (.getfield 18, 3) := by decide +kernel
theorem dX3_leavesSomeUntold_55 : decode cX3_leavesSomeUntold 55 = .ok (.iload 8, 2) := by decide +kernel
theorem dX3_leavesSomeUntold_57 : decode cX3_leavesSomeUntold 57 = .ok (.aload_n 0, 1) := by decide +kernel
theorem dX3_leavesSomeUntold_58 : decode cX3_leavesSomeUntold 58 = .ok (.getfield 18, 3) := by decide +kernel
theorem dX3_leavesSomeUntold_61 : decode cX3_leavesSomeUntold 61 = .ok (.iload 8, 2) := by decide +kernel
theorem dX3_leavesSomeUntold_63 : decode cX3_leavesSomeUntold 63 = .ok (.iaload, 1) := by decide +kernel
theorem dX3_leavesSomeUntold_64 : decode cX3_leavesSomeUntold 64 = .ok (.iload 7, 2) := by decide +kernel
theorem dX3_leavesSomeUntold_66 : decode cX3_leavesSomeUntold 66 = .ok (.invokestatic 39, 3) := by decide +kernel
theorem dX3_leavesSomeUntold_69 : decode cX3_leavesSomeUntold 69 = .ok (.iastore, 1) := by decide +kernel
theorem dX3_leavesSomeUntold_70 : decode cX3_leavesSomeUntold 70 = .ok (.aload_n 0, 1) := by decide +kernel
theorem dX3_leavesSomeUntold_71 : decode cX3_leavesSomeUntold 71 = .ok (.getfield 18, 3) := by decide +kernel
theorem dX3_leavesSomeUntold_74 : decode cX3_leavesSomeUntold 74 = .ok (.iload 6, 2) := by decide +kernel
theorem dX3_leavesSomeUntold_76 : decode cX3_leavesSomeUntold 76 = .ok (.iload 7, 2) := by decide +kernel
theorem dX3_leavesSomeUntold_78 : decode cX3_leavesSomeUntold 78 = .ok (.iconst 1, 1) := by decide +kernel
theorem dX3_leavesSomeUntold_79 : decode cX3_leavesSomeUntold 79 = .ok (.iadd, 1) := by decide +kernel
theorem dX3_leavesSomeUntold_80 : decode cX3_leavesSomeUntold 80 = .ok (.iastore, 1) := by decide +kernel
theorem dX3_leavesSomeUntold_81 : decode cX3_leavesSomeUntold 81 = .ok (.iload 5, 2) := by decide +kernel
theorem dX3_leavesSomeUntold_83 : decode cX3_leavesSomeUntold 83 = .ok (.ifCond .ne 16, 3) := by decide +kernel
theorem dX3_leavesSomeUntold_86 : decode cX3_leavesSomeUntold 86 = .ok (.iload 8, 2) := by decide +kernel
theorem dX3_leavesSomeUntold_88 : decode cX3_leavesSomeUntold 88 = .ok (.iload_n 2, 1) := by decide +kernel
theorem dX3_leavesSomeUntold_89 : decode cX3_leavesSomeUntold 89 = .ok (.if_icmp .ne 10, 3) := by decide +kernel
theorem dX3_leavesSomeUntold_92 : decode cX3_leavesSomeUntold 92 = .ok (.iload 7, 2) := by decide +kernel
theorem dX3_leavesSomeUntold_94 : decode cX3_leavesSomeUntold 94 = .ok (.iload 4, 2) := by decide +kernel
theorem dX3_leavesSomeUntold_96 : decode cX3_leavesSomeUntold 96 = .ok (.if_icmp .ge 7, 3) := by decide +kernel
theorem dX3_leavesSomeUntold_99 : decode cX3_leavesSomeUntold 99 = .ok (.iconst 1, 1) := by decide +kernel
theorem dX3_leavesSomeUntold_100 : decode cX3_leavesSomeUntold 100 = .ok (.goto 4, 3) := by decide +kernel
theorem dX3_leavesSomeUntold_103 : decode cX3_leavesSomeUntold 103 = .ok (.iconst 0, 1) := by decide +kernel
theorem dX3_leavesSomeUntold_104 : decode cX3_leavesSomeUntold 104 = .ok (.istore 5, 2) := by decide +kernel
theorem dX3_leavesSomeUntold_106 : decode cX3_leavesSomeUntold 106 = .ok (.iinc 6 (-1), 3) := by decide +kernel
theorem dX3_leavesSomeUntold_109 : decode cX3_leavesSomeUntold 109 = .ok (.goto (-101), 3) := by decide +kernel
theorem dX3_leavesSomeUntold_112 : decode cX3_leavesSomeUntold 112 = .ok (.iload 5, 2) := by decide +kernel
theorem dX3_leavesSomeUntold_114 : decode cX3_leavesSomeUntold 114 = .ok (.ireturn, 1) := by decide +kernel
set_option maxRecDepth 20000 in
theorem ggX3_casesThatReachAll_X1_reachOf : GoodIn wsX3_casesThatReachAll wsX1_reachOf := goodIn_r _ [6, 7, 8, 9, 10, 5, 11, 12, 42, 43] (by decide +kernel) (by decide +kernel)
set_option maxRecDepth 20000 in
theorem gX3_casesThatReachAll_X1_reachOf : GoodIn wsX3_casesThatReachAll (wsV RX3 44 RX1 yX1_reachOf wsX1_reachOf) := goodIn_app (goodIn_of _ (by decide +kernel)) ggX3_casesThatReachAll_X1_reachOf
set_option maxRecDepth 20000 in
theorem ggX3_casesThatReachAll_J7_fill_d0a16 : GoodIn wsX3_casesThatReachAll wsJ7_fill_d0a16 := goodIn_r _ [16] (by decide +kernel) (by decide +kernel)
set_option maxRecDepth 20000 in
theorem gX3_casesThatReachAll_J7_fill_d0a16 : GoodIn wsX3_casesThatReachAll (va_wsS RX3 63 yJ7_fill_d0a16 wsJ7_fill_d0a16) := goodIn_app (goodIn_of _ (by decide +kernel)) ggX3_casesThatReachAll_J7_fill_d0a16
set_option maxRecDepth 20000 in
theorem ggX3_casesThatReachAll_X1_size : GoodIn wsX3_casesThatReachAll wsX1_size := goodIn_r _ [20, 7, 42, 43] (by decide +kernel) (by decide +kernel)
set_option maxRecDepth 20000 in
theorem gX3_casesThatReachAll_X1_size : GoodIn wsX3_casesThatReachAll (wsV RX3 66 RX1 yX1_size wsX1_size) := goodIn_app (goodIn_of _ (by decide +kernel)) ggX3_casesThatReachAll_X1_size
set_option maxRecDepth 20000 in
theorem ggX3_casesThatReachAll_X3_drawOneRound : GoodIn wsX3_casesThatReachAll wsX3_drawOneRound := goodIn_r _ [25, 1, 26, 27, 28, 24, 29, 30, 31, 32, 33, 34, 35, 36, 37, 38, 39, 40, 41] (by decide +kernel) (by decide +kernel)
set_option maxRecDepth 20000 in
theorem gX3_casesThatReachAll_X3_drawOneRound : GoodIn wsX3_casesThatReachAll (wsV RX3 69 RX3 yX3_drawOneRound wsX3_drawOneRound) := goodIn_app (goodIn_of _ (by decide +kernel)) ggX3_casesThatReachAll_X3_drawOneRound
theorem dX3_casesThatReachAll_0 : decode cX3_casesThatReachAll 0 = .ok (.iconst 1, 1) := by decide +kernel
theorem dX3_casesThatReachAll_1 : decode cX3_casesThatReachAll 1 = .ok (.iload_n 2, 1) := by decide +kernel
theorem dX3_casesThatReachAll_2 : decode cX3_casesThatReachAll 2 = .ok (.ishl, 1) := by decide +kernel
theorem dX3_casesThatReachAll_3 : decode cX3_casesThatReachAll 3 = .ok (.istore 4, 2) := by decide +kernel
theorem dX3_casesThatReachAll_5 : decode cX3_casesThatReachAll 5 = .ok (.aload_n 1, 1) := by decide +kernel
theorem dX3_casesThatReachAll_6 : decode cX3_casesThatReachAll 6 = .ok (.iload 4, 2) := by decide +kernel
theorem dX3_casesThatReachAll_8 : decode cX3_casesThatReachAll 8 = .ok (.invokevirtual 44, 3) := by decide +kernel
theorem dX3_casesThatReachAll_11 : decode cX3_casesThatReachAll 11 = .ok (.istore 5, 2) := by decide +kernel
theorem dX3_casesThatReachAll_13 : decode cX3_casesThatReachAll 13 = .ok (.aload_n 0, 1) := by decide +kernel
theorem dX3_casesThatReachAll_14 : decode cX3_casesThatReachAll 14 = .ok (.getfield 21, 3) := by decide +kernel
theorem dX3_casesThatReachAll_17 : decode cX3_casesThatReachAll 17 = .ok (.lconst 0, 1) := by decide +kernel
theorem dX3_casesThatReachAll_18 : decode cX3_casesThatReachAll 18 = .ok (.invokestatic 63, 3) := by decide +kernel
theorem dX3_casesThatReachAll_21 : decode cX3_casesThatReachAll 21 = .ok (.aload_n 0, 1) := by decide +kernel
theorem dX3_casesThatReachAll_22 : decode cX3_casesThatReachAll 22 = .ok (.getfield 21, 3) := by decide +kernel
theorem dX3_casesThatReachAll_25 : decode cX3_casesThatReachAll 25 = .ok (.iload 4, 2) := by decide +kernel
theorem dX3_casesThatReachAll_27 : decode cX3_casesThatReachAll 27 = .ok (.lconst 1, 1) := by decide +kernel
theorem dX3_casesThatReachAll_28 : decode cX3_casesThatReachAll 28 = .ok (.lastore, 1) := by decide +kernel
theorem dX3_casesThatReachAll_29 : decode cX3_casesThatReachAll 29 = .ok (.iconst 0, 1) := by decide +kernel
theorem dX3_casesThatReachAll_30 : decode cX3_casesThatReachAll 30 = .ok (.istore 6, 2) := by decide +kernel
theorem dX3_casesThatReachAll_32 : decode cX3_casesThatReachAll 32 = .ok (.iload 6, 2) := by decide +kernel
theorem dX3_casesThatReachAll_34 : decode cX3_casesThatReachAll 34 = .ok (.iload_n 3, 1) := by decide +kernel
theorem dX3_casesThatReachAll_35 : decode cX3_casesThatReachAll 35 = .ok (.if_icmp .ge 21, 3) := by decide +kernel
theorem dX3_casesThatReachAll_38 : decode cX3_casesThatReachAll 38 = .ok (.aload_n 0, 1) := by decide +kernel
theorem dX3_casesThatReachAll_39 : decode cX3_casesThatReachAll 39 = .ok (.aload_n 1, 1) := by decide +kernel
theorem dX3_casesThatReachAll_40 : decode cX3_casesThatReachAll 40 = .ok (.invokevirtual 66, 3) := by decide +kernel
theorem dX3_casesThatReachAll_43 : decode cX3_casesThatReachAll 43 = .ok (.iload 4, 2) := by decide +kernel
theorem dX3_casesThatReachAll_45 : decode cX3_casesThatReachAll 45 = .ok (.iload 5, 2) := by decide +kernel
theorem dX3_casesThatReachAll_47 : decode cX3_casesThatReachAll 47 = .ok (.invokevirtual 69, 3) := by decide +kernel
theorem dX3_casesThatReachAll_50 : decode cX3_casesThatReachAll 50 = .ok (.iinc 6 1, 3) := by decide +kernel
theorem dX3_casesThatReachAll_53 : decode cX3_casesThatReachAll 53 = .ok (.goto (-21), 3) := by decide +kernel
theorem dX3_casesThatReachAll_56 : decode cX3_casesThatReachAll 56 = .ok (.aload_n 0, 1) := by decide +kernel
theorem dX3_casesThatReachAll_57 : decode cX3_casesThatReachAll 57 = .ok (.getfield 21, 3) := by decide +kernel
theorem dX3_casesThatReachAll_60 : decode cX3_casesThatReachAll 60 = .ok (.iload 5, 2) := by decide +kernel
theorem dX3_casesThatReachAll_62 : decode cX3_casesThatReachAll 62 = .ok (.laload, 1) := by decide +kernel
theorem dX3_casesThatReachAll_63 : decode cX3_casesThatReachAll 63 = .ok (.lreturn, 1) := by decide +kernel
set_option maxRecDepth 20000 in
theorem ggX3_drawOneRound_X3_drawFrom : GoodIn wsX3_drawOneRound wsX3_drawFrom := goodIn_r _ [6, 1, 7, 8, 9, 10, 11, 12, 13, 14, 15, 16, 17, 18] (by decide +kernel) (by decide +kernel)
set_option maxRecDepth 20000 in
theorem gX3_drawOneRound_X3_drawFrom : GoodIn wsX3_drawOneRound (wsV RX3 73 RX3 yX3_drawFrom wsX3_drawFrom) := goodIn_app (goodIn_of _ (by decide +kernel)) ggX3_drawOneRound_X3_drawFrom
theorem dX3_drawOneRound_0 : decode cX3_drawOneRound 0 = .ok (.aload_n 0, 1) := by decide +kernel
theorem dX3_drawOneRound_1 : decode cX3_drawOneRound 1 = .ok (.getfield 21, 3) := by decide +kernel
theorem dX3_drawOneRound_4 : decode cX3_drawOneRound 4 = .ok (.iload_n 3, 1) := by decide +kernel
theorem dX3_drawOneRound_5 : decode cX3_drawOneRound 5 = .ok (.dup2, 1) := by decide +kernel
theorem dX3_drawOneRound_6 : decode cX3_drawOneRound 6 = .ok (.laload, 1) := by decide +kernel
theorem dX3_drawOneRound_7 : decode cX3_drawOneRound 7 = .ok (.iload_n 1, 1) := by decide +kernel
theorem dX3_drawOneRound_8 : decode cX3_drawOneRound 8 = .ok (.lshl, 1) := by decide +kernel
theorem dX3_drawOneRound_9 : decode cX3_drawOneRound 9 = .ok (.lastore, 1) := by decide +kernel
theorem dX3_drawOneRound_10 : decode cX3_drawOneRound 10 = .ok (.iload_n 3, 1) := by decide +kernel
theorem dX3_drawOneRound_11 : decode cX3_drawOneRound 11 = .ok (.iconst 1, 1) := by decide +kernel
theorem dX3_drawOneRound_12 : decode cX3_drawOneRound 12 = .ok (.isub, 1) := by decide +kernel
theorem dX3_drawOneRound_13 : decode cX3_drawOneRound 13 = .ok (.istore 4, 2) := by decide +kernel
theorem dX3_drawOneRound_15 : decode cX3_drawOneRound 15 = .ok (.iload 4, 2) := by decide +kernel
theorem dX3_drawOneRound_17 : decode cX3_drawOneRound 17 = .ok (.iload_n 2, 1) := by decide +kernel
theorem dX3_drawOneRound_18 : decode cX3_drawOneRound 18 = .ok (.if_icmp .lt 28, 3) := by decide +kernel
theorem dX3_drawOneRound_21 : decode cX3_drawOneRound 21 = .ok (.aload_n 0, 1) := by decide +kernel
theorem dX3_drawOneRound_22 : decode cX3_drawOneRound 22 = .ok (.getfield 21, 3) := by decide +kernel
theorem dX3_drawOneRound_25 : decode cX3_drawOneRound 25 = .ok (.iload 4, 2) := by decide +kernel
theorem dX3_drawOneRound_27 : decode cX3_drawOneRound 27 = .ok (.laload, 1) := by decide +kernel
theorem dX3_drawOneRound_28 : decode cX3_drawOneRound 28 = .ok (.lconst 0, 1) := by decide +kernel
theorem dX3_drawOneRound_29 : decode cX3_drawOneRound 29 = .ok (.lcmp, 1) := by decide +kernel
theorem dX3_drawOneRound_30 : decode cX3_drawOneRound 30 = .ok (.ifCond .eq 10, 3) := by decide +kernel
theorem dX3_drawOneRound_33 : decode cX3_drawOneRound 33 = .ok (.aload_n 0, 1) := by decide +kernel
theorem dX3_drawOneRound_34 : decode cX3_drawOneRound 34 = .ok (.iload_n 1, 1) := by decide +kernel
theorem dX3_drawOneRound_35 : decode cX3_drawOneRound 35 = .ok (.iload 4, 2) := by decide +kernel
theorem dX3_drawOneRound_37 : decode cX3_drawOneRound 37 = .ok (.invokevirtual 73, 3) := by decide +kernel
theorem dX3_drawOneRound_40 : decode cX3_drawOneRound 40 = .ok (.iinc 4 (-1), 3) := by decide +kernel
theorem dX3_drawOneRound_43 : decode cX3_drawOneRound 43 = .ok (.goto (-28), 3) := by decide +kernel
theorem dX3_drawOneRound_46 : decode cX3_drawOneRound 46 = .ok (.return_, 1) := by decide +kernel
set_option maxRecDepth 20000 in
theorem ggX3_drawFrom_J6_bitCount_0f7a4 : GoodIn wsX3_drawFrom wsJ6_bitCount_0f7a4 := goodIn_r _ [6, 7, 8, 9] (by decide +kernel) (by decide +kernel)
set_option maxRecDepth 20000 in
theorem gX3_drawFrom_J6_bitCount_0f7a4 : GoodIn wsX3_drawFrom (va_wsS RX3 77 yJ6_bitCount_0f7a4 wsJ6_bitCount_0f7a4) := goodIn_app (goodIn_of _ (by decide +kernel)) ggX3_drawFrom_J6_bitCount_0f7a4
theorem dX3_drawFrom_0 : decode cX3_drawFrom 0 = .ok (.aload_n 0, 1) := by decide +kernel
theorem dX3_drawFrom_1 : decode cX3_drawFrom 1 = .ok (.getfield 21, 3) := by decide +kernel
theorem dX3_drawFrom_4 : decode cX3_drawFrom 4 = .ok (.iload_n 2, 1) := by decide +kernel
theorem dX3_drawFrom_5 : decode cX3_drawFrom 5 = .ok (.laload, 1) := by decide +kernel
theorem dX3_drawFrom_6 : decode cX3_drawFrom 6 = .ok (.iload_n 1, 1) := by decide +kernel
theorem dX3_drawFrom_7 : decode cX3_drawFrom 7 = .ok (.iload_n 2, 1) := by decide +kernel
theorem dX3_drawFrom_8 : decode cX3_drawFrom 8 = .ok (.invokestatic 77, 3) := by decide +kernel
theorem dX3_drawFrom_11 : decode cX3_drawFrom 11 = .ok (.isub, 1) := by decide +kernel
theorem dX3_drawFrom_12 : decode cX3_drawFrom 12 = .ok (.lshl, 1) := by decide +kernel
theorem dX3_drawFrom_13 : decode cX3_drawFrom 13 = .ok (.lstore_n 3, 1) := by decide +kernel
theorem dX3_drawFrom_14 : decode cX3_drawFrom 14 = .ok (.aload_n 0, 1) := by decide +kernel
theorem dX3_drawFrom_15 : decode cX3_drawFrom 15 = .ok (.getfield 21, 3) := by decide +kernel
theorem dX3_drawFrom_18 : decode cX3_drawFrom 18 = .ok (.iload_n 2, 1) := by decide +kernel
theorem dX3_drawFrom_19 : decode cX3_drawFrom 19 = .ok (.lload_n 3, 1) := by decide +kernel
theorem dX3_drawFrom_20 : decode cX3_drawFrom 20 = .ok (.lastore, 1) := by decide +kernel
theorem dX3_drawFrom_21 : decode cX3_drawFrom 21 = .ok (.iload_n 2, 1) := by decide +kernel
theorem dX3_drawFrom_22 : decode cX3_drawFrom 22 = .ok (.istore 5, 2) := by decide +kernel
theorem dX3_drawFrom_24 : decode cX3_drawFrom 24 = .ok (.iload 5, 2) := by decide +kernel
theorem dX3_drawFrom_26 : decode cX3_drawFrom 26 = .ok (.ifCond .le 32, 3) := by decide +kernel
theorem dX3_drawFrom_29 : decode cX3_drawFrom 29 = .ok (.aload_n 0, 1) := by decide +kernel
theorem dX3_drawFrom_30 : decode cX3_drawFrom 30 = .ok (.getfield 21, 3) := by decide +kernel
theorem dX3_drawFrom_33 : decode cX3_drawFrom 33 = .ok (.iload_n 2, 1) := by decide +kernel
theorem dX3_drawFrom_34 : decode cX3_drawFrom 34 = .ok (.aload_n 0, 1) := by decide +kernel
theorem dX3_drawFrom_35 : decode cX3_drawFrom 35 = .ok (.getfield 9, 3) := by decide +kernel
theorem dX3_drawFrom_38 : decode cX3_drawFrom 38 = .ok (.iload 5, 2) := by decide +kernel
theorem dX3_drawFrom_40 : decode cX3_drawFrom 40 = .ok (.iaload, 1) := by decide +kernel
theorem dX3_drawFrom_41 : decode cX3_drawFrom 41 = .ok (.ior, 1) := by decide +kernel
theorem dX3_drawFrom_42 : decode cX3_drawFrom 42 = .ok (.dup2, 1) := by decide +kernel
theorem dX3_drawFrom_43 : decode cX3_drawFrom 43 = .ok (.laload, 1) := by decide +kernel
theorem dX3_drawFrom_44 : decode cX3_drawFrom 44 = .ok (.lload_n 3, 1) := by decide +kernel
theorem dX3_drawFrom_45 : decode cX3_drawFrom 45 = .ok (.ladd, 1) := by decide +kernel
theorem dX3_drawFrom_46 : decode cX3_drawFrom 46 = .ok (.lastore, 1) := by decide +kernel
theorem dX3_drawFrom_47 : decode cX3_drawFrom 47 = .ok (.iload 5, 2) := by decide +kernel
theorem dX3_drawFrom_49 : decode cX3_drawFrom 49 = .ok (.iconst 1, 1) := by decide +kernel
theorem dX3_drawFrom_50 : decode cX3_drawFrom 50 = .ok (.isub, 1) := by decide +kernel
theorem dX3_drawFrom_51 : decode cX3_drawFrom 51 = .ok (.iload_n 2, 1) := by decide +kernel
theorem dX3_drawFrom_52 : decode cX3_drawFrom 52 = .ok (.iand, 1) := by decide +kernel
theorem dX3_drawFrom_53 : decode cX3_drawFrom 53 = .ok (.istore 5, 2) := by decide +kernel
theorem dX3_drawFrom_55 : decode cX3_drawFrom 55 = .ok (.goto (-31), 3) := by decide +kernel
theorem dX3_drawFrom_58 : decode cX3_drawFrom 58 = .ok (.return_, 1) := by decide +kernel
set_option maxRecDepth 20000 in
theorem ggX4_init_J7_fill_53178 : GoodIn wsX4_init wsJ7_fill_53178 := goodIn_r _ [12] (by decide +kernel) (by decide +kernel)
set_option maxRecDepth 20000 in
theorem gX4_init_J7_fill_53178 : GoodIn wsX4_init (va_wsS RX4 23 yJ7_fill_53178 wsJ7_fill_53178) := goodIn_app (goodIn_of _ (by decide +kernel)) ggX4_init_J7_fill_53178
theorem dX4_init_0 : decode cX4_init 0 = .ok (.aload_n 0, 1) := by decide +kernel
theorem dX4_init_1 : decode cX4_init 1 = .ok (.invokespecial 3, 3) := by decide +kernel
theorem dX4_init_4 : decode cX4_init 4 = .ok (.aload_n 0, 1) := by decide +kernel
theorem dX4_init_5 : decode cX4_init 5 = .ok (.bipush 8, 2) := by decide +kernel
theorem dX4_init_7 : decode cX4_init 7 = .ok (.newarray .int, 2) := by decide +kernel
theorem dX4_init_9 : decode cX4_init 9 = .ok (.putfield 9, 3) := by decide +kernel
theorem dX4_init_12 : decode cX4_init 12 = .ok (.aload_n 0, 1) := by decide +kernel
theorem dX4_init_13 : decode cX4_init 13 = .ok (.bipush 8, 2) := by decide +kernel
theorem dX4_init_15 : decode cX4_init 15 = .ok (.newarray .int, 2) := by decide +kernel
theorem dX4_init_17 : decode cX4_init 17 = .ok (.putfield 15, 3) := by decide +kernel
theorem dX4_init_20 : decode cX4_init 20 = .ok (.aload_n 0, 1) := by decide +kernel
theorem dX4_init_21 : decode cX4_init 21 = .ok (.bipush 8, 2) := by decide +kernel
theorem dX4_init_23 : decode cX4_init 23 = .ok (.bipush 40, 2) := by decide +kernel
theorem dX4_init_25 : decode cX4_init 25 = .ok (.multianewarray 18 2, 4) := by decide +kernel
theorem dX4_init_29 : decode cX4_init 29 = .ok (.putfield 20, 3) := by decide +kernel
theorem dX4_init_32 : decode cX4_init 32 = .ok (.aload_n 0, 1) := by decide +kernel
theorem dX4_init_33 : decode cX4_init 33 = .ok (.getfield 9, 3) := by decide +kernel
theorem dX4_init_36 : decode cX4_init 36 = .ok (.iconst (-1), 1) := by decide +kernel
theorem dX4_init_37 : decode cX4_init 37 = .ok (.invokestatic 23, 3) := by decide +kernel
theorem dX4_init_40 : decode cX4_init 40 = .ok (.return_, 1) := by decide +kernel
theorem dX4_isMissing_0 : decode cX4_isMissing 0 = .ok (.aload_n 0, 1) := by decide +kernel
theorem dX4_isMissing_1 : decode cX4_isMissing 1 = .ok (.getfield 9, 3) := by decide +kernel
theorem dX4_isMissing_4 : decode cX4_isMissing 4 = .ok (.iload_n 1, 1) := by decide +kernel
theorem dX4_isMissing_5 : decode cX4_isMissing 5 = .ok (.iaload, 1) := by decide +kernel
theorem dX4_isMissing_6 : decode cX4_isMissing 6 = .ok (.iconst (-1), 1) := by decide +kernel
theorem dX4_isMissing_7 : decode cX4_isMissing 7 = .ok (.if_icmp .ne 7, 3) := by decide +kernel
theorem dX4_isMissing_10 : decode cX4_isMissing 10 = .ok (.iconst 1, 1) := by decide +kernel
theorem dX4_isMissing_11 : decode cX4_isMissing 11 = .ok (.goto 4, 3) := by decide +kernel
theorem dX4_isMissing_14 : decode cX4_isMissing 14 = .ok (.iconst 0, 1) := by decide +kernel
theorem dX4_isMissing_15 : decode cX4_isMissing 15 = .ok (.ireturn, 1) := by decide +kernel
set_option maxRecDepth 20000 in
theorem ggX4_size_X4_isMissing : GoodIn wsX4_size wsX4_isMissing := goodIn_r _ [5, 6, 7, 8, 9] (by decide +kernel) (by decide +kernel)
set_option maxRecDepth 20000 in
theorem gX4_size_X4_isMissing : GoodIn wsX4_size (wsV RX4 29 RX4 yX4_isMissing wsX4_isMissing) := goodIn_app (goodIn_of _ (by decide +kernel)) ggX4_size_X4_isMissing
theorem dX4_size_0 : decode cX4_size 0 = .ok (.iconst 0, 1) := by decide +kernel
theorem dX4_size_1 : decode cX4_size 1 = .ok (.istore_n 1, 1) := by decide +kernel
theorem dX4_size_2 : decode cX4_size 2 = .ok (.iconst 0, 1) := by decide +kernel
theorem dX4_size_3 : decode cX4_size 3 = .ok (.istore_n 2, 1) := by decide +kernel
theorem dX4_size_4 : decode cX4_size 4 = .ok (.iload_n 2, 1) := by decide +kernel
theorem dX4_size_5 : decode cX4_size 5 = .ok (.bipush 8, 2) := by decide +kernel
theorem dX4_size_7 : decode cX4_size 7 = .ok (.if_icmp .ge 25, 3) := by decide +kernel
theorem dX4_size_10 : decode cX4_size 10 = .ok (.iload_n 1, 1) := by decide +kernel
theorem dX4_size_11 : decode cX4_size 11 = .ok (.aload_n 0, 1) := by decide +kernel
theorem dX4_size_12 : decode cX4_size 12 = .ok (.iload_n 2, 1) := by decide +kernel
theorem dX4_size_13 : decode cX4_size 13 = .ok (.invokevirtual 29, 3) := by decide +kernel
theorem dX4_size_16 : decode cX4_size 16 = .ok (.ifCond .eq 7, 3) := by decide +kernel
theorem dX4_size_19 : decode cX4_size 19 = .ok (.iconst 0, 1) := by decide +kernel
theorem dX4_size_20 : decode cX4_size 20 = .ok (.goto 4, 3) := by decide +kernel
theorem dX4_size_23 : decode cX4_size 23 = .ok (.iconst 1, 1) := by decide +kernel
theorem dX4_size_24 : decode cX4_size 24 = .ok (.iadd, 1) := by decide +kernel
theorem dX4_size_25 : decode cX4_size 25 = .ok (.istore_n 1, 1) := by decide +kernel
theorem dX4_size_26 : decode cX4_size 26 = .ok (.iinc 2 1, 3) := by decide +kernel
theorem dX4_size_29 : decode cX4_size 29 = .ok (.goto (-25), 3) := by decide +kernel
theorem dX4_size_32 : decode cX4_size 32 = .ok (.iload_n 1, 1) := by decide +kernel
theorem dX4_size_33 : decode cX4_size 33 = .ok (.ireturn, 1) := by decide +kernel
set_option maxRecDepth 20000 in
theorem ggX4_begin_J7_fill_53178 : GoodIn wsX4_begin wsJ7_fill_53178 := goodIn_r _ [7] (by decide +kernel) (by decide +kernel)
set_option maxRecDepth 20000 in
theorem gX4_begin_J7_fill_53178 : GoodIn wsX4_begin (va_wsS RX4 23 yJ7_fill_53178 wsJ7_fill_53178) := goodIn_app (goodIn_of _ (by decide +kernel)) ggX4_begin_J7_fill_53178
theorem dX4_begin_0 : decode cX4_begin 0 = .ok (.aload_n 0, 1) := by decide +kernel
theorem dX4_begin_1 : decode cX4_begin 1 = .ok (.getfield 9, 3) := by decide +kernel
theorem dX4_begin_4 : decode cX4_begin 4 = .ok (.iload_n 1, 1) := by decide +kernel
theorem dX4_begin_5 : decode cX4_begin 5 = .ok (.iload_n 2, 1) := by decide +kernel
theorem dX4_begin_6 : decode cX4_begin 6 = .ok (.iastore, 1) := by decide +kernel
theorem dX4_begin_7 : decode cX4_begin 7 = .ok (.aload_n 0, 1) := by decide +kernel
theorem dX4_begin_8 : decode cX4_begin 8 = .ok (.getfield 15, 3) := by decide +kernel
theorem dX4_begin_11 : decode cX4_begin 11 = .ok (.iload_n 1, 1) := by decide +kernel
theorem dX4_begin_12 : decode cX4_begin 12 = .ok (.iload_n 3, 1) := by decide +kernel
theorem dX4_begin_13 : decode cX4_begin 13 = .ok (.iastore, 1) := by decide +kernel
theorem dX4_begin_14 : decode cX4_begin 14 = .ok (.aload_n 0, 1) := by decide +kernel
theorem dX4_begin_15 : decode cX4_begin 15 = .ok (.getfield 20, 3) := by decide +kernel
theorem dX4_begin_18 : decode cX4_begin 18 = .ok (.iload_n 1, 1) := by decide +kernel
theorem dX4_begin_19 : decode cX4_begin 19 = .ok (.aaload, 1) := by decide +kernel
theorem dX4_begin_20 : decode cX4_begin 20 = .ok (.iconst 0, 1) := by decide +kernel
theorem dX4_begin_21 : decode cX4_begin 21 = .ok (.invokestatic 23, 3) := by decide +kernel
theorem dX4_begin_24 : decode cX4_begin 24 = .ok (.return_, 1) := by decide +kernel
theorem dX4_remove_0 : decode cX4_remove 0 = .ok (.aload_n 0, 1) := by decide +kernel
theorem dX4_remove_1 : decode cX4_remove 1 = .ok (.getfield 9, 3) := by decide +kernel
theorem dX4_remove_4 : decode cX4_remove 4 = .ok (.iload_n 1, 1) := by decide +kernel
theorem dX4_remove_5 : decode cX4_remove 5 = .ok (.iconst (-1), 1) := by decide +kernel
theorem dX4_remove_6 : decode cX4_remove 6 = .ok (.iastore, 1) := by decide +kernel
theorem dX4_remove_7 : decode cX4_remove 7 = .ok (.aload_n 0, 1) := by decide +kernel
theorem dX4_remove_8 : decode cX4_remove 8 = .ok (.getfield 15, 3) := by decide +kernel
theorem dX4_remove_11 : decode cX4_remove 11 = .ok (.iload_n 1, 1) := by decide +kernel
theorem dX4_remove_12 : decode cX4_remove 12 = .ok (.iaload, 1) := by decide +kernel
theorem dX4_remove_13 : decode cX4_remove 13 = .ok (.ireturn, 1) := by decide +kernel
set_option maxRecDepth 20000 in
theorem ggX4_findPlaces_X4_isMissing : GoodIn wsX4_findPlaces wsX4_isMissing := goodIn_r _ [5, 6, 12, 13, 14] (by decide +kernel) (by decide +kernel)
set_option maxRecDepth 20000 in
theorem gX4_findPlaces_X4_isMissing : GoodIn wsX4_findPlaces (wsV RX4 29 RX4 yX4_isMissing wsX4_isMissing) := goodIn_app (goodIn_of _ (by decide +kernel)) ggX4_findPlaces_X4_isMissing
set_option maxRecDepth 20000 in
theorem ggX4_findPlaces_X4_hasPlaces : GoodIn wsX4_findPlaces wsX4_hasPlaces := goodIn_r _ [10, 11, 12, 13, 14] (by decide +kernel) (by decide +kernel)
set_option maxRecDepth 20000 in
theorem gX4_findPlaces_X4_hasPlaces : GoodIn wsX4_findPlaces (wsV RX4 33 RX4 yX4_hasPlaces wsX4_hasPlaces) := goodIn_app (goodIn_of _ (by decide +kernel)) ggX4_findPlaces_X4_hasPlaces
theorem dX4_findPlaces_0 : decode cX4_findPlaces 0 = .ok (.aload_n 0, 1) := by decide +kernel
theorem dX4_findPlaces_1 : decode cX4_findPlaces 1 = .ok (.iload_n 1, 1) := by decide +kernel
theorem dX4_findPlaces_2 : decode cX4_findPlaces 2 = .ok (.invokevirtual 29, 3) := by decide +kernel
theorem dX4_findPlaces_5 : decode cX4_findPlaces 5 = .ok (.ifCond .eq 5, 3) := by decide +kernel
theorem dX4_findPlaces_8 : decode cX4_findPlaces 8 = .ok (.iconst 1, 1) := by decide +kernel
theorem dX4_findPlaces_9 : decode cX4_findPlaces 9 = .ok (.ireturn, 1) := by decide +kernel
theorem dX4_findPlaces_10 : decode cX4_findPlaces 10 = .ok (.aload_n 0, 1) := by decide +kernel
theorem dX4_findPlaces_11 : decode cX4_findPlaces 11 = .ok (.iload_n 1, 1) := by decide +kernel
theorem dX4_findPlaces_12 : decode cX4_findPlaces 12 = .ok (.iload_n 2, 1) := by decide +kernel
theorem dX4_findPlaces_13 : decode cX4_findPlaces 13 = .ok (.iload_n 3, 1) := by decide +kernel
theorem dX4_findPlaces_14 : decode cX4_findPlaces 14 = .ok (.invokevirtual 33, 3) := by decide +kernel
theorem dX4_findPlaces_17 : decode cX4_findPlaces 17 = .ok (.ifCond .eq 7, 3) := by decide +kernel
theorem dX4_findPlaces_20 : decode cX4_findPlaces 20 = .ok (.iconst 0, 1) := by decide +kernel
theorem dX4_findPlaces_21 : decode cX4_findPlaces 21 = .ok (.goto 4, 3) := by decide +kernel
theorem dX4_findPlaces_24 : decode cX4_findPlaces 24 = .ok (.iconst 2, 1) := by decide +kernel
theorem dX4_findPlaces_25 : decode cX4_findPlaces 25 = .ok (.ireturn, 1) := by decide +kernel
set_option maxRecDepth 20000 in
theorem ggX4_findMove_X4_isMissing : GoodIn wsX4_findMove wsX4_isMissing := goodIn_r _ [6, 1, 12, 13, 14] (by decide +kernel) (by decide +kernel)
set_option maxRecDepth 20000 in
theorem gX4_findMove_X4_isMissing : GoodIn wsX4_findMove (wsV RX4 29 RX4 yX4_isMissing wsX4_isMissing) := goodIn_app (goodIn_of _ (by decide +kernel)) ggX4_findMove_X4_isMissing
set_option maxRecDepth 20000 in
theorem ggX4_findMove_X4_hasPlaces : GoodIn wsX4_findMove wsX4_hasPlaces := goodIn_r _ [10, 11, 12, 13, 14] (by decide +kernel) (by decide +kernel)
set_option maxRecDepth 20000 in
theorem gX4_findMove_X4_hasPlaces : GoodIn wsX4_findMove (wsV RX4 33 RX4 yX4_hasPlaces wsX4_hasPlaces) := goodIn_app (goodIn_of _ (by decide +kernel)) ggX4_findMove_X4_hasPlaces
theorem dX4_findMove_0 : decode cX4_findMove 0 = .ok (.aload_n 0, 1) := by decide +kernel
theorem dX4_findMove_1 : decode cX4_findMove 1 = .ok (.iload_n 1, 1) := by decide +kernel
theorem dX4_findMove_2 : decode cX4_findMove 2 = .ok (.invokevirtual 29, 3) := by decide +kernel
theorem dX4_findMove_5 : decode cX4_findMove 5 = .ok (.ifCond .ne 11, 3) := by decide +kernel
theorem dX4_findMove_8 : decode cX4_findMove 8 = .ok (.aload_n 0, 1) := by decide +kernel
theorem dX4_findMove_9 : decode cX4_findMove 9 = .ok (.iload_n 3, 1) := by decide +kernel
theorem dX4_findMove_10 : decode cX4_findMove 10 = .ok (.invokevirtual 29, 3) := by decide +kernel
theorem dX4_findMove_13 : decode cX4_findMove 13 = .ok (.ifCond .eq 5, 3) := by decide +kernel
theorem dX4_findMove_16 : decode cX4_findMove 16 = .ok (.iconst 1, 1) := by decide +kernel
theorem dX4_findMove_17 : decode cX4_findMove 17 = .ok (.ireturn, 1) := by decide +kernel
theorem dX4_findMove_18 : decode cX4_findMove 18 = .ok (.aload_n 0, 1) := by decide +kernel
theorem dX4_findMove_19 : decode cX4_findMove 19 = .ok (.getfield 9, 3) := by decide +kernel
theorem dX4_findMove_22 : decode cX4_findMove 22 = .ok (.iload_n 1, 1) := by decide +kernel
theorem dX4_findMove_23 : decode cX4_findMove 23 = .ok (.iaload, 1) := by decide +kernel
theorem dX4_findMove_24 : decode cX4_findMove 24 = .ok (.aload_n 0, 1) := by decide +kernel
theorem dX4_findMove_25 : decode cX4_findMove 25 = .ok (.getfield 9, 3) := by decide +kernel
theorem dX4_findMove_28 : decode cX4_findMove 28 = .ok (.iload_n 3, 1) := by decide +kernel
theorem dX4_findMove_29 : decode cX4_findMove 29 = .ok (.iaload, 1) := by decide +kernel
theorem dX4_findMove_30 : decode cX4_findMove 30 = .ok (.if_icmp .eq 5, 3) := by decide +kernel
theorem dX4_findMove_33 : decode cX4_findMove 33 = .ok (.iconst 5, 1) := by decide +kernel
theorem dX4_findMove_34 : decode cX4_findMove 34 = .ok (.ireturn, 1) := by decide +kernel
theorem dX4_findMove_35 : decode cX4_findMove 35 = .ok (.aload_n 0, 1) := by decide +kernel
theorem dX4_findMove_36 : decode cX4_findMove 36 = .ok (.iload_n 1, 1) := by decide +kernel
theorem dX4_findMove_37 : decode cX4_findMove 37 = .ok (.iload_n 2, 1) := by decide +kernel
theorem dX4_findMove_38 : decode cX4_findMove 38 = .ok (.iload 5, 2) := by decide +kernel
theorem dX4_findMove_40 : decode cX4_findMove 40 = .ok (.invokevirtual 33, 3) := by decide +kernel
theorem dX4_findMove_43 : decode cX4_findMove 43 = .ok (.ifCond .eq 19, 3) := by decide +kernel
theorem dX4_findMove_46 : decode cX4_findMove 46 = .ok (.aload_n 0, 1) := by decide +kernel
theorem dX4_findMove_47 : decode cX4_findMove 47 = .ok (.iload_n 3, 1) := by decide +kernel
theorem dX4_findMove_48 : decode cX4_findMove 48 = .ok (.iload 4, 2) := by decide +kernel
theorem dX4_findMove_50 : decode cX4_findMove 50 = .ok (.iload 5, 2) := by decide +kernel
theorem dX4_findMove_52 : decode cX4_findMove 52 = .ok (.invokevirtual 33, 3) := by decide +kernel
theorem dX4_findMove_55 : decode cX4_findMove 55 = .ok (.ifCond .eq 7, 3) := by decide +kernel
theorem dX4_findMove_58 : decode cX4_findMove 58 = .ok (.iconst 0, 1) := by decide +kernel
theorem dX4_findMove_59 : decode cX4_findMove 59 = .ok (.goto 4, 3) := by decide +kernel
theorem dX4_findMove_62 : decode cX4_findMove 62 = .ok (.iconst 2, 1) := by decide +kernel
theorem dX4_findMove_63 : decode cX4_findMove 63 = .ok (.ireturn, 1) := by decide +kernel
theorem dX4_hasPlaces_0 : decode cX4_hasPlaces 0 = .ok (.iload_n 2, 1) := by decide +kernel
theorem dX4_hasPlaces_1 : decode cX4_hasPlaces 1 = .ok (.ifCond .lt 33, 3) := by decide +kernel
theorem dX4_hasPlaces_4 : decode cX4_hasPlaces 4 = .ok (.iload_n 3, 1) := by decide +kernel
theorem dX4_hasPlaces_5 : decode cX4_hasPlaces 5 = .ok (.ifCond .lt 29, 3) := by decide +kernel
theorem dX4_hasPlaces_8 : decode cX4_hasPlaces 8 = .ok (.iload_n 2, 1) := by decide +kernel
theorem dX4_hasPlaces_9 : decode cX4_hasPlaces 9 = .ok (.aload_n 0, 1) := by decide +kernel
theorem dX4_hasPlaces_10 : decode cX4_hasPlaces 10 = .ok (.getfield 15, 3) := by decide +kernel
theorem dX4_hasPlaces_13 : decode cX4_hasPlaces 13 = .ok (.iload_n 1, 1) := by decide +kernel
theorem dX4_hasPlaces_14 : decode cX4_hasPlaces 14 = .ok (.iaload, 1) := by decide +kernel
theorem dX4_hasPlaces_15 : decode cX4_hasPlaces 15 = .ok (.if_icmp .gt 19, 3) := by decide +kernel
theorem dX4_hasPlaces_18 : decode cX4_hasPlaces 18 = .ok (.iload_n 3, 1) := by decide +kernel
theorem dX4_hasPlaces_19 : decode cX4_hasPlaces 19 = .ok (.aload_n 0, 1) := by decide +kernel
theorem dX4_hasPlaces_20 : decode cX4_hasPlaces 20 = .ok (.getfield 15, 3) := by decide +kernel
theorem dX4_hasPlaces_23 : decode cX4_hasPlaces 23 = .ok (.iload_n 1, 1) := by decide +kernel
theorem dX4_hasPlaces_24 : decode cX4_hasPlaces 24 = .ok (.iaload, 1) := by decide +kernel
theorem dX4_hasPlaces_25 : decode cX4_hasPlaces 25 = .ok (.iload_n 2, 1) := by decide +kernel
theorem dX4_hasPlaces_26 : decode cX4_hasPlaces 26 = .ok (.isub, 1) := by decide +kernel
theorem dX4_hasPlaces_27 : decode cX4_hasPlaces 27 = .ok (.if_icmp .gt 7, 3) := by decide +kernel
theorem dX4_hasPlaces_30 : decode cX4_hasPlaces 30 = .ok (.iconst 1, 1) := by decide +kernel
theorem dX4_hasPlaces_31 : decode cX4_hasPlaces 31 = .ok (.goto 4, 3) := by decide +kernel
theorem dX4_hasPlaces_34 : decode cX4_hasPlaces 34 = .ok (.iconst 0, 1) := by decide +kernel
theorem dX4_hasPlaces_35 : decode cX4_hasPlaces 35 = .ok (.ireturn, 1) := by decide +kernel
set_option maxRecDepth 20000 in
theorem ggX4_put_X4_narrowed : GoodIn wsX4_put wsX4_narrowed := goodIn_r _ [6] (by decide +kernel) (by decide +kernel)
set_option maxRecDepth 20000 in
theorem gX4_put_X4_narrowed : GoodIn wsX4_put (va_wsS RX4 37 yX4_narrowed wsX4_narrowed) := goodIn_app (goodIn_of _ (by decide +kernel)) ggX4_put_X4_narrowed
theorem dX4_put_0 : decode cX4_put 0 = .ok (.aload_n 0, 1) := by decide +kernel
theorem dX4_put_1 : decode cX4_put 1 = .ok (.getfield 20, 3) := by decide +kernel
theorem dX4_put_4 : decode cX4_put 4 = .ok (.iload_n 1, 1) := by decide +kernel
theorem dX4_put_5 : decode cX4_put 5 = .ok (.aaload, 1) := by decide +kernel
theorem dX4_put_6 : decode cX4_put 6 = .ok (.iload_n 2, 1) := by decide +kernel
theorem dX4_put_7 : decode cX4_put 7 = .ok (.aload_n 0, 1) := by decide +kernel
theorem dX4_put_8 : decode cX4_put 8 = .ok (.getfield 9, 3) := by decide +kernel
theorem dX4_put_11 : decode cX4_put 11 = .ok (.iload_n 1, 1) := by decide +kernel
theorem dX4_put_12 : decode cX4_put 12 = .ok (.iaload, 1) := by decide +kernel
theorem dX4_put_13 : decode cX4_put 13 = .ok (.iload_n 3, 1) := by decide +kernel
theorem dX4_put_14 : decode cX4_put 14 = .ok (.invokestatic 37, 3) := by decide +kernel
theorem dX4_put_17 : decode cX4_put 17 = .ok (.iastore, 1) := by decide +kernel
theorem dX4_put_18 : decode cX4_put 18 = .ok (.aload_n 0, 1) := by decide +kernel
theorem dX4_put_19 : decode cX4_put 19 = .ok (.getfield 20, 3) := by decide +kernel
theorem dX4_put_22 : decode cX4_put 22 = .ok (.iload_n 1, 1) := by decide +kernel
theorem dX4_put_23 : decode cX4_put 23 = .ok (.aaload, 1) := by decide +kernel
theorem dX4_put_24 : decode cX4_put 24 = .ok (.iload_n 2, 1) := by decide +kernel
theorem dX4_put_25 : decode cX4_put 25 = .ok (.iaload, 1) := by decide +kernel
theorem dX4_put_26 : decode cX4_put 26 = .ok (.ireturn, 1) := by decide +kernel
theorem dX4_narrowed_0 : decode cX4_narrowed 0 = .ok (.iload_n 0, 1) := by decide +kernel
theorem dX4_narrowed_1 : decode cX4_narrowed 1 = .ok (.ifCond .ne 6, 3) := by decide +kernel
theorem dX4_narrowed_4 : decode cX4_narrowed 4 = .ok (.iload_n 1, 1) := by decide +kernel
theorem dX4_narrowed_5 : decode cX4_narrowed 5 = .ok (.i2b, 1) := by decide +kernel
theorem dX4_narrowed_6 : decode cX4_narrowed 6 = .ok (.ireturn, 1) := by decide +kernel
theorem dX4_narrowed_7 : decode cX4_narrowed 7 = .ok (.iload_n 0, 1) := by decide +kernel
theorem dX4_narrowed_8 : decode cX4_narrowed 8 = .ok (.iconst 1, 1) := by decide +kernel
theorem dX4_narrowed_9 : decode cX4_narrowed 9 = .ok (.if_icmp .ne 8, 3) := by decide +kernel
theorem dX4_narrowed_12 : decode cX4_narrowed 12 = .ok (.iload_n 1, 1) := by decide +kernel
theorem dX4_narrowed_13 : decode cX4_narrowed 13 = .ok (.i2s, 1) := by decide +kernel
theorem dX4_narrowed_14 : decode cX4_narrowed 14 = .ok (.goto 4, 3) := by decide +kernel
theorem dX4_narrowed_17 : decode cX4_narrowed 17 = .ok (.iload_n 1, 1) := by decide +kernel
theorem dX4_narrowed_18 : decode cX4_narrowed 18 = .ok (.ireturn, 1) := by decide +kernel
theorem dX4_move_0 : decode cX4_move 0 = .ok (.aload_n 0, 1) := by decide +kernel
theorem dX4_move_1 : decode cX4_move 1 = .ok (.getfield 20, 3) := by decide +kernel
theorem dX4_move_4 : decode cX4_move 4 = .ok (.iload_n 1, 1) := by decide +kernel
theorem dX4_move_5 : decode cX4_move 5 = .ok (.aaload, 1) := by decide +kernel
theorem dX4_move_6 : decode cX4_move 6 = .ok (.iload_n 2, 1) := by decide +kernel
theorem dX4_move_7 : decode cX4_move 7 = .ok (.aload_n 0, 1) := by decide +kernel
theorem dX4_move_8 : decode cX4_move 8 = .ok (.getfield 20, 3) := by decide +kernel
theorem dX4_move_11 : decode cX4_move 11 = .ok (.iload_n 3, 1) := by decide +kernel
theorem dX4_move_12 : decode cX4_move 12 = .ok (.aaload, 1) := by decide +kernel
theorem dX4_move_13 : decode cX4_move 13 = .ok (.iload 4, 2) := by decide +kernel
theorem dX4_move_15 : decode cX4_move 15 = .ok (.iload 5, 2) := by decide +kernel
theorem dX4_move_17 : decode cX4_move 17 = .ok (.invokestatic 41, 3) := by decide +kernel
theorem dX4_move_20 : decode cX4_move 20 = .ok (.return_, 1) := by decide +kernel
set_option maxRecDepth 20000 in
theorem ggX4_picksOne_J6_bitCount_0f7a4 : GoodIn wsX4_picksOne wsJ6_bitCount_0f7a4 := goodIn_r _ [5, 6, 7, 8] (by decide +kernel) (by decide +kernel)
set_option maxRecDepth 20000 in
theorem gX4_picksOne_J6_bitCount_0f7a4 : GoodIn wsX4_picksOne (va_wsS RX4 47 yJ6_bitCount_0f7a4 wsJ6_bitCount_0f7a4) := goodIn_app (goodIn_of _ (by decide +kernel)) ggX4_picksOne_J6_bitCount_0f7a4
theorem dX4_picksOne_0 : decode cX4_picksOne 0 = .ok (.iload_n 2, 1) := by decide +kernel
theorem dX4_picksOne_1 : decode cX4_picksOne 1 = .ok (.istore 5, 2) := by decide +kernel
theorem dX4_picksOne_3 : decode cX4_picksOne 3 = .ok (.iload 5, 2) := by decide +kernel
theorem dX4_picksOne_5 : decode cX4_picksOne 5 = .ok (.iload_n 2, 1) := by decide +kernel
theorem dX4_picksOne_6 : decode cX4_picksOne 6 = .ok (.iload_n 3, 1) := by decide +kernel
theorem dX4_picksOne_7 : decode cX4_picksOne 7 = .ok (.iadd, 1) := by decide +kernel
theorem dX4_picksOne_8 : decode cX4_picksOne 8 = .ok (.if_icmp .ge 30, 3) := by decide +kernel
theorem dX4_picksOne_11 : decode cX4_picksOne 11 = .ok (.aload_n 0, 1) := by decide +kernel
theorem dX4_picksOne_12 : decode cX4_picksOne 12 = .ok (.getfield 20, 3) := by decide +kernel
theorem dX4_picksOne_15 : decode cX4_picksOne 15 = .ok (.iload_n 1, 1) := by decide +kernel
theorem dX4_picksOne_16 : decode cX4_picksOne 16 = .ok (.aaload, 1) := by decide +kernel
theorem dX4_picksOne_17 : decode cX4_picksOne 17 = .ok (.iload 5, 2) := by decide +kernel
theorem dX4_picksOne_19 : decode cX4_picksOne 19 = .ok (.iaload, 1) := by decide +kernel
theorem dX4_picksOne_20 : decode cX4_picksOne 20 = .ok (.iload 4, 2) := by decide +kernel
theorem dX4_picksOne_22 : decode cX4_picksOne 22 = .ok (.iand, 1) := by decide +kernel
theorem dX4_picksOne_23 : decode cX4_picksOne 23 = .ok (.invokestatic 47, 3) := by decide +kernel
theorem dX4_picksOne_26 : decode cX4_picksOne 26 = .ok (.iconst 1, 1) := by decide +kernel
theorem dX4_picksOne_27 : decode cX4_picksOne 27 = .ok (.if_icmp .ne 5, 3) := by decide +kernel
theorem dX4_picksOne_30 : decode cX4_picksOne 30 = .ok (.iconst 1, 1) := by decide +kernel
theorem dX4_picksOne_31 : decode cX4_picksOne 31 = .ok (.ireturn, 1) := by decide +kernel
theorem dX4_picksOne_32 : decode cX4_picksOne 32 = .ok (.iinc 5 1, 3) := by decide +kernel
theorem dX4_picksOne_35 : decode cX4_picksOne 35 = .ok (.goto (-32), 3) := by decide +kernel
theorem dX4_picksOne_38 : decode cX4_picksOne 38 = .ok (.iconst 0, 1) := by decide +kernel
theorem dX4_picksOne_39 : decode cX4_picksOne 39 = .ok (.ireturn, 1) := by decide +kernel
theorem dX5_init_0 : decode cX5_init 0 = .ok (.aload_n 0, 1) := by decide +kernel
theorem dX5_init_1 : decode cX5_init 1 = .ok (.invokespecial 3, 3) := by decide +kernel
theorem dX5_init_4 : decode cX5_init 4 = .ok (.aload_n 0, 1) := by decide +kernel
theorem dX5_init_5 : decode cX5_init 5 = .ok (.bipush 20, 2) := by decide +kernel
theorem dX5_init_7 : decode cX5_init 7 = .ok (.newarray .int, 2) := by decide +kernel
theorem dX5_init_9 : decode cX5_init 9 = .ok (.putfield 9, 3) := by decide +kernel
theorem dX5_init_12 : decode cX5_init 12 = .ok (.return_, 1) := by decide +kernel
theorem dX5_size_0 : decode cX5_size 0 = .ok (.aload_n 0, 1) := by decide +kernel
theorem dX5_size_1 : decode cX5_size 1 = .ok (.getfield 15, 3) := by decide +kernel
theorem dX5_size_4 : decode cX5_size 4 = .ok (.ireturn, 1) := by decide +kernel
set_option maxRecDepth 20000 in
theorem ggX5_become_X2_giveRounds : GoodIn wsX5_become wsX2_giveRounds := goodIn_r _ [7, 8, 9, 10, 11, 12, 13, 16, 17, 18, 19, 20, 21, 22, 23] (by decide +kernel) (by decide +kernel)
set_option maxRecDepth 20000 in
theorem gX5_become_X2_giveRounds : GoodIn wsX5_become (wsV RX5 19 RX2 yX2_giveRounds wsX2_giveRounds) := goodIn_app (goodIn_of _ (by decide +kernel)) ggX5_become_X2_giveRounds
theorem dX5_become_0 : decode cX5_become 0 = .ok (.aload_n 0, 1) := by decide +kernel
theorem dX5_become_1 : decode cX5_become 1 = .ok (.aload_n 1, 1) := by decide +kernel
theorem dX5_become_2 : decode cX5_become 2 = .ok (.aload_n 0, 1) := by decide +kernel
theorem dX5_become_3 : decode cX5_become 3 = .ok (.getfield 9, 3) := by decide +kernel
theorem dX5_become_6 : decode cX5_become 6 = .ok (.invokevirtual 19, 3) := by decide +kernel
theorem dX5_become_9 : decode cX5_become 9 = .ok (.putfield 15, 3) := by decide +kernel
theorem dX5_become_12 : decode cX5_become 12 = .ok (.return_, 1) := by decide +kernel
theorem dX5_hasRound_0 : decode cX5_hasRound 0 = .ok (.iload_n 1, 1) := by decide +kernel
theorem dX5_hasRound_1 : decode cX5_hasRound 1 = .ok (.ifCond .lt 15, 3) := by decide +kernel
theorem dX5_hasRound_4 : decode cX5_hasRound 4 = .ok (.iload_n 1, 1) := by decide +kernel
theorem dX5_hasRound_5 : decode cX5_hasRound 5 = .ok (.aload_n 0, 1) := by decide +kernel
theorem dX5_hasRound_6 : decode cX5_hasRound 6 = .ok (.getfield 15, 3) := by decide +kernel
theorem dX5_hasRound_9 : decode cX5_hasRound 9 = .ok (.if_icmp .ge 7, 3) := by decide +kernel
theorem dX5_hasRound_12 : decode cX5_hasRound 12 = .ok (.iconst 1, 1) := by decide +kernel
theorem dX5_hasRound_13 : decode cX5_hasRound 13 = .ok (.goto 4, 3) := by decide +kernel
theorem dX5_hasRound_16 : decode cX5_hasRound 16 = .ok (.iconst 0, 1) := by decide +kernel
theorem dX5_hasRound_17 : decode cX5_hasRound 17 = .ok (.ireturn, 1) := by decide +kernel
theorem dX5_soundsIn_0 : decode cX5_soundsIn 0 = .ok (.aload_n 0, 1) := by decide +kernel
theorem dX5_soundsIn_1 : decode cX5_soundsIn 1 = .ok (.getfield 9, 3) := by decide +kernel
theorem dX5_soundsIn_4 : decode cX5_soundsIn 4 = .ok (.iload_n 1, 1) := by decide +kernel
theorem dX5_soundsIn_5 : decode cX5_soundsIn 5 = .ok (.iaload, 1) := by decide +kernel
theorem dX5_soundsIn_6 : decode cX5_soundsIn 6 = .ok (.iload_n 2, 1) := by decide +kernel
theorem dX5_soundsIn_7 : decode cX5_soundsIn 7 = .ok (.iand, 1) := by decide +kernel
theorem dX5_soundsIn_8 : decode cX5_soundsIn 8 = .ok (.ireturn, 1) := by decide +kernel
set_option maxRecDepth 20000 in
theorem ggX5_soundsOverAndOver_X5_soundsIn : GoodIn wsX5_soundsOverAndOver wsX5_soundsIn := goodIn_r _ [6, 7, 8, 9] (by decide +kernel) (by decide +kernel)
set_option maxRecDepth 20000 in
theorem gX5_soundsOverAndOver_X5_soundsIn : GoodIn wsX5_soundsOverAndOver (wsV RX5 25 RX5 yX5_soundsIn wsX5_soundsIn) := goodIn_app (goodIn_of _ (by decide +kernel)) ggX5_soundsOverAndOver_X5_soundsIn
theorem dX5_soundsOverAndOver_0 : decode cX5_soundsOverAndOver 0 = .ok (.aload_n 0, 1) := by decide +kernel
theorem dX5_soundsOverAndOver_1 : decode cX5_soundsOverAndOver 1 = .ok (.getfield 15, 3) := by decide +kernel
theorem dX5_soundsOverAndOver_4 : decode cX5_soundsOverAndOver 4 = .ok (.ifCond .ne 7, 3) := by decide +kernel
theorem dX5_soundsOverAndOver_7 : decode cX5_soundsOverAndOver 7 = .ok (.iconst 0, 1) := by decide +kernel
theorem dX5_soundsOverAndOver_8 : decode cX5_soundsOverAndOver 8 = .ok (.goto 14, 3) := by decide +kernel
theorem dX5_soundsOverAndOver_11 : decode cX5_soundsOverAndOver 11 = .ok (.aload_n 0, 1) := by decide +kernel
theorem dX5_soundsOverAndOver_12 : decode cX5_soundsOverAndOver 12 = .ok (.iload_n 1, 1) := by decide +kernel
theorem dX5_soundsOverAndOver_13 : decode cX5_soundsOverAndOver 13 = .ok (.aload_n 0, 1) := by decide +kernel
theorem dX5_soundsOverAndOver_14 : decode cX5_soundsOverAndOver 14 = .ok (.getfield 15, 3) := by decide +kernel
theorem dX5_soundsOverAndOver_17 : decode cX5_soundsOverAndOver 17 = .ok (.irem, 1) := by decide +kernel
theorem dX5_soundsOverAndOver_18 : decode cX5_soundsOverAndOver 18 = .ok (.iload_n 2, 1) := by decide +kernel
theorem dX5_soundsOverAndOver_19 : decode cX5_soundsOverAndOver 19 = .ok (.invokevirtual 25, 3) := by decide +kernel
theorem dX5_soundsOverAndOver_22 : decode cX5_soundsOverAndOver 22 = .ok (.ireturn, 1) := by decide +kernel
set_option maxRecDepth 20000 in
theorem ggX6_init_X4_init : GoodIn wsX6_init wsX4_init := goodIn_r _ [30, 31, 2, 3, 32, 33, 34, 35, 36, 37, 38, 39, 40, 68, 69, 70] (by decide +kernel) (by decide +kernel)
set_option maxRecDepth 20000 in
theorem gX6_init_X4_init : GoodIn wsX6_init (wsX4_init) := ggX6_init_X4_init
set_option maxRecDepth 20000 in
theorem ggX6_init_X1_init : GoodIn wsX6_init wsX1_init := goodIn_r _ [42, 43, 2, 3, 32, 44, 79, 80] (by decide +kernel) (by decide +kernel)
set_option maxRecDepth 20000 in
theorem gX6_init_X1_init_n18 : GoodIn wsX6_init (wsX1_init) := ggX6_init_X1_init
set_option maxRecDepth 20000 in
theorem ggX6_init_X2_init : GoodIn wsX6_init wsX2_init := goodIn_r _ [46, 47, 2, 3, 32, 48, 49, 81, 82, 83, 84, 85, 86, 87, 88] (by decide +kernel) (by decide +kernel)
set_option maxRecDepth 20000 in
theorem gX6_init_X2_init_n25 : GoodIn wsX6_init (wsX2_init) := ggX6_init_X2_init
set_option maxRecDepth 20000 in
theorem ggX6_init_X5_init : GoodIn wsX6_init wsX5_init := goodIn_r _ [51, 52, 2, 3, 32, 53, 89, 90] (by decide +kernel) (by decide +kernel)
set_option maxRecDepth 20000 in
theorem gX6_init_X5_init_n32 : GoodIn wsX6_init (wsX5_init) := ggX6_init_X5_init
set_option maxRecDepth 20000 in
theorem ggX6_init_X3_init : GoodIn wsX6_init wsX3_init := goodIn_r _ [55, 56, 2, 3, 32, 57, 58, 59, 60, 61, 91, 92, 93, 94] (by decide +kernel) (by decide +kernel)
set_option maxRecDepth 20000 in
theorem gX6_init_X3_init_n39 : GoodIn wsX6_init (wsX3_init) := ggX6_init_X3_init
set_option maxRecDepth 20000 in
theorem ggX6_init_X0_init : GoodIn wsX6_init wsX0_init := goodIn_r _ [64, 65, 2, 3, 32, 66, 67, 95, 96, 97] (by decide +kernel) (by decide +kernel)
set_option maxRecDepth 20000 in
theorem gX6_init_X0_init : GoodIn wsX6_init (wsX0_init) := ggX6_init_X0_init
theorem dX6_init_0 : decode cX6_init 0 = .ok (.aload_n 0, 1) := by decide +kernel
theorem dX6_init_1 : decode cX6_init 1 = .ok (.invokespecial 1, 3) := by decide +kernel
theorem dX6_init_4 : decode cX6_init 4 = .ok (.aload_n 0, 1) := by decide +kernel
theorem dX6_init_5 : decode cX6_init 5 = .ok (.new 7, 3) := by decide +kernel
theorem dX6_init_8 : decode cX6_init 8 = .ok (.dup, 1) := by decide +kernel
theorem dX6_init_9 : decode cX6_init 9 = .ok (.invokespecial 9, 3) := by decide +kernel
theorem dX6_init_12 : decode cX6_init 12 = .ok (.putfield 10, 3) := by decide +kernel
theorem dX6_init_15 : decode cX6_init 15 = .ok (.aload_n 0, 1) := by decide +kernel
theorem dX6_init_16 : decode cX6_init 16 = .ok (.new 16, 3) := by decide +kernel
theorem dX6_init_19 : decode cX6_init 19 = .ok (.dup, 1) := by decide +kernel
theorem dX6_init_20 : decode cX6_init 20 = .ok (.invokespecial 18, 3) := by decide +kernel
theorem dX6_init_23 : decode cX6_init 23 = .ok (.putfield 19, 3) := by decide +kernel
theorem dX6_init_26 : decode cX6_init 26 = .ok (.aload_n 0, 1) := by decide +kernel
theorem dX6_init_27 : decode cX6_init 27 = .ok (.new 23, 3) := by decide +kernel
theorem dX6_init_30 : decode cX6_init 30 = .ok (.dup, 1) := by decide +kernel
theorem dX6_init_31 : decode cX6_init 31 = .ok (.invokespecial 25, 3) := by decide +kernel
theorem dX6_init_34 : decode cX6_init 34 = .ok (.putfield 26, 3) := by decide +kernel
theorem dX6_init_37 : decode cX6_init 37 = .ok (.aload_n 0, 1) := by decide +kernel
theorem dX6_init_38 : decode cX6_init 38 = .ok (.new 30, 3) := by decide +kernel
theorem dX6_init_41 : decode cX6_init 41 = .ok (.dup, 1) := by decide +kernel
theorem dX6_init_42 : decode cX6_init 42 = .ok (.invokespecial 32, 3) := by decide +kernel
theorem dX6_init_45 : decode cX6_init 45 = .ok (.putfield 33, 3) := by decide +kernel
theorem dX6_init_48 : decode cX6_init 48 = .ok (.aload_n 0, 1) := by decide +kernel
theorem dX6_init_49 : decode cX6_init 49 = .ok (.new 37, 3) := by decide +kernel
theorem dX6_init_52 : decode cX6_init 52 = .ok (.dup, 1) := by decide +kernel
theorem dX6_init_53 : decode cX6_init 53 = .ok (.invokespecial 39, 3) := by decide +kernel
theorem dX6_init_56 : decode cX6_init 56 = .ok (.putfield 40, 3) := by decide +kernel
theorem dX6_init_59 : decode cX6_init 59 = .ok (.aload_n 0, 1) := by decide +kernel
theorem dX6_init_60 : decode cX6_init 60 = .ok (.new 44, 3) := by decide +kernel
theorem dX6_init_63 : decode cX6_init 63 = .ok (.dup, 1) := by decide +kernel
theorem dX6_init_64 : decode cX6_init 64 = .ok (.aload_n 0, 1) := by decide +kernel
theorem dX6_init_65 : decode cX6_init 65 = .ok (.getfield 19, 3) := by decide +kernel
theorem dX6_init_68 : decode cX6_init 68 = .ok (.invokespecial 46, 3) := by decide +kernel
theorem dX6_init_71 : decode cX6_init 71 = .ok (.putfield 49, 3) := by decide +kernel
theorem dX6_init_74 : decode cX6_init 74 = .ok (.return_, 1) := by decide +kernel
set_option maxRecDepth 20000 in
theorem ggX6_sheet_X6_isSheet : GoodIn wsX6_sheet wsX6_isSheet := goodIn_r _ [8] (by decide +kernel) (by decide +kernel)
set_option maxRecDepth 20000 in
theorem gX6_sheet_X6_isSheet : GoodIn wsX6_sheet (va_wsS RX6 53 yX6_isSheet wsX6_isSheet) := goodIn_app (goodIn_of _ (by decide +kernel)) ggX6_sheet_X6_isSheet
set_option maxRecDepth 20000 in
theorem ggX6_sheet_X4_begin : GoodIn wsX6_sheet wsX4_begin := goodIn_r _ [13, 14, 15, 16, 17, 18, 19, 20, 29, 30, 31] (by decide +kernel) (by decide +kernel)
set_option maxRecDepth 20000 in
theorem gX6_sheet_X4_begin : GoodIn wsX6_sheet (wsV RX6 63 RX4 yX4_begin wsX4_begin) := goodIn_app (goodIn_of _ (by decide +kernel)) ggX6_sheet_X4_begin
theorem dX6_sheet_0 : decode cX6_sheet 0 = .ok (.iload_n 1, 1) := by decide +kernel
theorem dX6_sheet_1 : decode cX6_sheet 1 = .ok (.invokestatic 53, 3) := by decide +kernel
theorem dX6_sheet_4 : decode cX6_sheet 4 = .ok (.ifCond .eq 18, 3) := by decide +kernel
theorem dX6_sheet_7 : decode cX6_sheet 7 = .ok (.iload_n 2, 1) := by decide +kernel
theorem dX6_sheet_8 : decode cX6_sheet 8 = .ok (.ifCond .lt 14, 3) := by decide +kernel
theorem dX6_sheet_11 : decode cX6_sheet 11 = .ok (.iload_n 2, 1) := by decide +kernel
theorem dX6_sheet_12 : decode cX6_sheet 12 = .ok (.iconst 3, 1) := by decide +kernel
theorem dX6_sheet_13 : decode cX6_sheet 13 = .ok (.if_icmp .ge 9, 3) := by decide +kernel
theorem dX6_sheet_16 : decode cX6_sheet 16 = .ok (.iload_n 3, 1) := by decide +kernel
theorem dX6_sheet_17 : decode cX6_sheet 17 = .ok (.bipush 40, 2) := by decide +kernel
theorem dX6_sheet_19 : decode cX6_sheet 19 = .ok (.if_icmp .le 6, 3) := by decide +kernel
theorem dX6_sheet_22 : decode cX6_sheet 22 = .ok (.ldc 57, 2) := by decide +kernel
theorem dX6_sheet_24 : decode cX6_sheet 24 = .ok (.ireturn, 1) := by decide +kernel
theorem dX6_sheet_25 : decode cX6_sheet 25 = .ok (.aload_n 0, 1) := by decide +kernel
theorem dX6_sheet_26 : decode cX6_sheet 26 = .ok (.iload_n 3, 1) := by decide +kernel
theorem dX6_sheet_27 : decode cX6_sheet 27 = .ok (.ifCond .ge 7, 3) := by decide +kernel
theorem dX6_sheet_30 : decode cX6_sheet 30 = .ok (.iconst 4, 1) := by decide +kernel
theorem dX6_sheet_31 : decode cX6_sheet 31 = .ok (.goto 4, 3) := by decide +kernel
theorem dX6_sheet_34 : decode cX6_sheet 34 = .ok (.iconst 0, 1) := by decide +kernel
theorem dX6_sheet_35 : decode cX6_sheet 35 = .ok (.putfield 58, 3) := by decide +kernel
theorem dX6_sheet_38 : decode cX6_sheet 38 = .ok (.aload_n 0, 1) := by decide +kernel
theorem dX6_sheet_39 : decode cX6_sheet 39 = .ok (.getfield 58, 3) := by decide +kernel
theorem dX6_sheet_42 : decode cX6_sheet 42 = .ok (.ifCond .eq 11, 3) := by decide +kernel
theorem dX6_sheet_45 : decode cX6_sheet 45 = .ok (.ldc 62, 2) := by decide +kernel
theorem dX6_sheet_47 : decode cX6_sheet 47 = .ok (.aload_n 0, 1) := by decide +kernel
theorem dX6_sheet_48 : decode cX6_sheet 48 = .ok (.getfield 58, 3) := by decide +kernel
theorem dX6_sheet_51 : decode cX6_sheet 51 = .ok (.isub, 1) := by decide +kernel
theorem dX6_sheet_52 : decode cX6_sheet 52 = .ok (.ireturn, 1) := by decide +kernel
theorem dX6_sheet_53 : decode cX6_sheet 53 = .ok (.aload_n 0, 1) := by decide +kernel
theorem dX6_sheet_54 : decode cX6_sheet 54 = .ok (.getfield 10, 3) := by decide +kernel
theorem dX6_sheet_57 : decode cX6_sheet 57 = .ok (.iload_n 1, 1) := by decide +kernel
theorem dX6_sheet_58 : decode cX6_sheet 58 = .ok (.iload_n 2, 1) := by decide +kernel
theorem dX6_sheet_59 : decode cX6_sheet 59 = .ok (.iload_n 3, 1) := by decide +kernel
theorem dX6_sheet_60 : decode cX6_sheet 60 = .ok (.invokevirtual 63, 3) := by decide +kernel
theorem dX6_sheet_63 : decode cX6_sheet 63 = .ok (.iload_n 3, 1) := by decide +kernel
theorem dX6_sheet_64 : decode cX6_sheet 64 = .ok (.ireturn, 1) := by decide +kernel
set_option maxRecDepth 20000 in
theorem ggX6_set_X6_isSheet : GoodIn wsX6_set wsX6_isSheet := goodIn_r _ [8] (by decide +kernel) (by decide +kernel)
set_option maxRecDepth 20000 in
theorem gX6_set_X6_isSheet : GoodIn wsX6_set (va_wsS RX6 53 yX6_isSheet wsX6_isSheet) := goodIn_app (goodIn_of _ (by decide +kernel)) ggX6_set_X6_isSheet
set_option maxRecDepth 20000 in
theorem ggX6_set_X4_findPlaces : GoodIn wsX6_set wsX4_findPlaces := goodIn_r _ [13, 14, 15, 16, 12, 17, 18, 19, 20, 21, 22, 23, 40, 41, 42] (by decide +kernel) (by decide +kernel)
set_option maxRecDepth 20000 in
theorem gX6_set_X4_findPlaces : GoodIn wsX6_set (wsV RX6 67 RX4 yX4_findPlaces wsX4_findPlaces) := goodIn_app (goodIn_of _ (by decide +kernel)) ggX6_set_X4_findPlaces
set_option maxRecDepth 20000 in
theorem ggX6_set_X4_put : GoodIn wsX6_set wsX4_put := goodIn_r _ [27, 28, 18, 29, 30, 12, 31, 40, 41, 42] (by decide +kernel) (by decide +kernel)
set_option maxRecDepth 20000 in
theorem gX6_set_X4_put : GoodIn wsX6_set (wsV RX6 71 RX4 yX4_put wsX4_put) := goodIn_app (goodIn_of _ (by decide +kernel)) ggX6_set_X4_put
theorem dX6_set_0 : decode cX6_set 0 = .ok (.iload_n 1, 1) := by decide +kernel
theorem dX6_set_1 : decode cX6_set 1 = .ok (.invokestatic 53, 3) := by decide +kernel
theorem dX6_set_4 : decode cX6_set 4 = .ok (.ifCond .ne 6, 3) := by decide +kernel
theorem dX6_set_7 : decode cX6_set 7 = .ok (.ldc 57, 2) := by decide +kernel
theorem dX6_set_9 : decode cX6_set 9 = .ok (.ireturn, 1) := by decide +kernel
theorem dX6_set_10 : decode cX6_set 10 = .ok (.aload_n 0, 1) := by decide +kernel
theorem dX6_set_11 : decode cX6_set 11 = .ok (.aload_n 0, 1) := by decide +kernel
theorem dX6_set_12 : decode cX6_set 12 = .ok (.getfield 10, 3) := by decide +kernel
theorem dX6_set_15 : decode cX6_set 15 = .ok (.iload_n 1, 1) := by decide +kernel
theorem dX6_set_16 : decode cX6_set 16 = .ok (.iload_n 2, 1) := by decide +kernel
theorem dX6_set_17 : decode cX6_set 17 = .ok (.iconst 1, 1) := by decide +kernel
theorem dX6_set_18 : decode cX6_set 18 = .ok (.invokevirtual 67, 3) := by decide +kernel
theorem dX6_set_21 : decode cX6_set 21 = .ok (.putfield 58, 3) := by decide +kernel
theorem dX6_set_24 : decode cX6_set 24 = .ok (.aload_n 0, 1) := by decide +kernel
theorem dX6_set_25 : decode cX6_set 25 = .ok (.getfield 58, 3) := by decide +kernel
theorem dX6_set_28 : decode cX6_set 28 = .ok (.ifCond .eq 13, 3) := by decide +kernel
theorem dX6_set_31 : decode cX6_set 31 = .ok (.ldc 62, 2) := by decide +kernel
theorem dX6_set_33 : decode cX6_set 33 = .ok (.aload_n 0, 1) := by decide +kernel
theorem dX6_set_34 : decode cX6_set 34 = .ok (.getfield 58, 3) := by decide +kernel
theorem dX6_set_37 : decode cX6_set 37 = .ok (.isub, 1) := by decide +kernel
theorem dX6_set_38 : decode cX6_set 38 = .ok (.goto 13, 3) := by decide +kernel
theorem dX6_set_41 : decode cX6_set 41 = .ok (.aload_n 0, 1) := by decide +kernel
theorem dX6_set_42 : decode cX6_set 42 = .ok (.getfield 10, 3) := by decide +kernel
theorem dX6_set_45 : decode cX6_set 45 = .ok (.iload_n 1, 1) := by decide +kernel
theorem dX6_set_46 : decode cX6_set 46 = .ok (.iload_n 2, 1) := by decide +kernel
theorem dX6_set_47 : decode cX6_set 47 = .ok (.iload_n 3, 1) := by decide +kernel
theorem dX6_set_48 : decode cX6_set 48 = .ok (.invokevirtual 71, 3) := by decide +kernel
theorem dX6_set_51 : decode cX6_set 51 = .ok (.ireturn, 1) := by decide +kernel
set_option maxRecDepth 20000 in
theorem ggX6_copy_X6_isSheet : GoodIn wsX6_copy wsX6_isSheet := goodIn_r _ [8] (by decide +kernel) (by decide +kernel)
set_option maxRecDepth 20000 in
theorem gX6_copy_X6_isSheet : GoodIn wsX6_copy (va_wsS RX6 53 yX6_isSheet wsX6_isSheet) := goodIn_app (goodIn_of _ (by decide +kernel)) ggX6_copy_X6_isSheet
set_option maxRecDepth 20000 in
theorem ggX6_copy_X4_findMove : GoodIn wsX6_copy wsX4_findMove := goodIn_r _ [13, 14, 15, 16, 17, 12, 18, 19, 20, 21, 22, 23, 41, 42, 43] (by decide +kernel) (by decide +kernel)
set_option maxRecDepth 20000 in
theorem gX6_copy_X4_findMove : GoodIn wsX6_copy (wsV RX6 74 RX4 yX4_findMove wsX4_findMove) := goodIn_app (goodIn_of _ (by decide +kernel)) ggX6_copy_X4_findMove
set_option maxRecDepth 20000 in
theorem ggX6_copy_X4_move : GoodIn wsX6_copy wsX4_move := goodIn_r _ [27, 28, 29, 30, 31, 32, 41, 42, 43] (by decide +kernel) (by decide +kernel)
set_option maxRecDepth 20000 in
theorem gX6_copy_X4_move : GoodIn wsX6_copy (wsV RX6 78 RX4 yX4_move wsX4_move) := goodIn_app (goodIn_of _ (by decide +kernel)) ggX6_copy_X4_move
theorem dX6_copy_0 : decode cX6_copy 0 = .ok (.iload_n 1, 1) := by decide +kernel
theorem dX6_copy_1 : decode cX6_copy 1 = .ok (.invokestatic 53, 3) := by decide +kernel
theorem dX6_copy_4 : decode cX6_copy 4 = .ok (.ifCond .eq 10, 3) := by decide +kernel
theorem dX6_copy_7 : decode cX6_copy 7 = .ok (.iload_n 3, 1) := by decide +kernel
theorem dX6_copy_8 : decode cX6_copy 8 = .ok (.invokestatic 53, 3) := by decide +kernel
theorem dX6_copy_11 : decode cX6_copy 11 = .ok (.ifCond .ne 6, 3) := by decide +kernel
theorem dX6_copy_14 : decode cX6_copy 14 = .ok (.ldc 57, 2) := by decide +kernel
theorem dX6_copy_16 : decode cX6_copy 16 = .ok (.ireturn, 1) := by decide +kernel
theorem dX6_copy_17 : decode cX6_copy 17 = .ok (.aload_n 0, 1) := by decide +kernel
theorem dX6_copy_18 : decode cX6_copy 18 = .ok (.aload_n 0, 1) := by decide +kernel
theorem dX6_copy_19 : decode cX6_copy 19 = .ok (.getfield 10, 3) := by decide +kernel
theorem dX6_copy_22 : decode cX6_copy 22 = .ok (.iload_n 1, 1) := by decide +kernel
theorem dX6_copy_23 : decode cX6_copy 23 = .ok (.iload_n 2, 1) := by decide +kernel
theorem dX6_copy_24 : decode cX6_copy 24 = .ok (.iload_n 3, 1) := by decide +kernel
theorem dX6_copy_25 : decode cX6_copy 25 = .ok (.iload 4, 2) := by decide +kernel
theorem dX6_copy_27 : decode cX6_copy 27 = .ok (.iload 5, 2) := by decide +kernel
theorem dX6_copy_29 : decode cX6_copy 29 = .ok (.invokevirtual 74, 3) := by decide +kernel
theorem dX6_copy_32 : decode cX6_copy 32 = .ok (.putfield 58, 3) := by decide +kernel
theorem dX6_copy_35 : decode cX6_copy 35 = .ok (.aload_n 0, 1) := by decide +kernel
theorem dX6_copy_36 : decode cX6_copy 36 = .ok (.getfield 58, 3) := by decide +kernel
theorem dX6_copy_39 : decode cX6_copy 39 = .ok (.ifCond .eq 11, 3) := by decide +kernel
theorem dX6_copy_42 : decode cX6_copy 42 = .ok (.ldc 62, 2) := by decide +kernel
theorem dX6_copy_44 : decode cX6_copy 44 = .ok (.aload_n 0, 1) := by decide +kernel
theorem dX6_copy_45 : decode cX6_copy 45 = .ok (.getfield 58, 3) := by decide +kernel
theorem dX6_copy_48 : decode cX6_copy 48 = .ok (.isub, 1) := by decide +kernel
theorem dX6_copy_49 : decode cX6_copy 49 = .ok (.ireturn, 1) := by decide +kernel
theorem dX6_copy_50 : decode cX6_copy 50 = .ok (.aload_n 0, 1) := by decide +kernel
theorem dX6_copy_51 : decode cX6_copy 51 = .ok (.getfield 10, 3) := by decide +kernel
theorem dX6_copy_54 : decode cX6_copy 54 = .ok (.iload_n 1, 1) := by decide +kernel
theorem dX6_copy_55 : decode cX6_copy 55 = .ok (.iload_n 2, 1) := by decide +kernel
theorem dX6_copy_56 : decode cX6_copy 56 = .ok (.iload_n 3, 1) := by decide +kernel
theorem dX6_copy_57 : decode cX6_copy 57 = .ok (.iload 4, 2) := by decide +kernel
theorem dX6_copy_59 : decode cX6_copy 59 = .ok (.iload 5, 2) := by decide +kernel
theorem dX6_copy_61 : decode cX6_copy 61 = .ok (.invokevirtual 78, 3) := by decide +kernel
theorem dX6_copy_64 : decode cX6_copy 64 = .ok (.iload 5, 2) := by decide +kernel
theorem dX6_copy_66 : decode cX6_copy 66 = .ok (.ireturn, 1) := by decide +kernel
set_option maxRecDepth 20000 in
theorem ggX6_drop_X6_isSheet : GoodIn wsX6_drop wsX6_isSheet := goodIn_r _ [8] (by decide +kernel) (by decide +kernel)
set_option maxRecDepth 20000 in
theorem gX6_drop_X6_isSheet : GoodIn wsX6_drop (va_wsS RX6 53 yX6_isSheet wsX6_isSheet) := goodIn_app (goodIn_of _ (by decide +kernel)) ggX6_drop_X6_isSheet
set_option maxRecDepth 20000 in
theorem ggX6_drop_X4_isMissing : GoodIn wsX6_drop wsX4_isMissing := goodIn_r _ [13, 14, 28, 29, 30] (by decide +kernel) (by decide +kernel)
set_option maxRecDepth 20000 in
theorem gX6_drop_X4_isMissing : GoodIn wsX6_drop (wsV RX6 82 RX4 yX4_isMissing wsX4_isMissing) := goodIn_app (goodIn_of _ (by decide +kernel)) ggX6_drop_X4_isMissing
set_option maxRecDepth 20000 in
theorem ggX6_drop_X4_remove : GoodIn wsX6_drop wsX4_remove := goodIn_r _ [18, 14, 19, 28, 29, 30] (by decide +kernel) (by decide +kernel)
set_option maxRecDepth 20000 in
theorem gX6_drop_X4_remove : GoodIn wsX6_drop (wsV RX6 85 RX4 yX4_remove wsX4_remove) := goodIn_app (goodIn_of _ (by decide +kernel)) ggX6_drop_X4_remove
theorem dX6_drop_0 : decode cX6_drop 0 = .ok (.iload_n 1, 1) := by decide +kernel
theorem dX6_drop_1 : decode cX6_drop 1 = .ok (.invokestatic 53, 3) := by decide +kernel
theorem dX6_drop_4 : decode cX6_drop 4 = .ok (.ifCond .ne 6, 3) := by decide +kernel
theorem dX6_drop_7 : decode cX6_drop 7 = .ok (.ldc 57, 2) := by decide +kernel
theorem dX6_drop_9 : decode cX6_drop 9 = .ok (.ireturn, 1) := by decide +kernel
theorem dX6_drop_10 : decode cX6_drop 10 = .ok (.aload_n 0, 1) := by decide +kernel
theorem dX6_drop_11 : decode cX6_drop 11 = .ok (.aload_n 0, 1) := by decide +kernel
theorem dX6_drop_12 : decode cX6_drop 12 = .ok (.getfield 10, 3) := by decide +kernel
theorem dX6_drop_15 : decode cX6_drop 15 = .ok (.iload_n 1, 1) := by decide +kernel
theorem dX6_drop_16 : decode cX6_drop 16 = .ok (.invokevirtual 82, 3) := by decide +kernel
theorem dX6_drop_19 : decode cX6_drop 19 = .ok (.ifCond .eq 7, 3) := by decide +kernel
theorem dX6_drop_22 : decode cX6_drop 22 = .ok (.iconst 1, 1) := by decide +kernel
theorem dX6_drop_23 : decode cX6_drop 23 = .ok (.goto 4, 3) := by decide +kernel
theorem dX6_drop_26 : decode cX6_drop 26 = .ok (.iconst 0, 1) := by decide +kernel
theorem dX6_drop_27 : decode cX6_drop 27 = .ok (.putfield 58, 3) := by decide +kernel
theorem dX6_drop_30 : decode cX6_drop 30 = .ok (.aload_n 0, 1) := by decide +kernel
theorem dX6_drop_31 : decode cX6_drop 31 = .ok (.getfield 58, 3) := by decide +kernel
theorem dX6_drop_34 : decode cX6_drop 34 = .ok (.ifCond .eq 13, 3) := by decide +kernel
theorem dX6_drop_37 : decode cX6_drop 37 = .ok (.ldc 62, 2) := by decide +kernel
theorem dX6_drop_39 : decode cX6_drop 39 = .ok (.aload_n 0, 1) := by decide +kernel
theorem dX6_drop_40 : decode cX6_drop 40 = .ok (.getfield 58, 3) := by decide +kernel
theorem dX6_drop_43 : decode cX6_drop 43 = .ok (.isub, 1) := by decide +kernel
theorem dX6_drop_44 : decode cX6_drop 44 = .ok (.goto 11, 3) := by decide +kernel
theorem dX6_drop_47 : decode cX6_drop 47 = .ok (.aload_n 0, 1) := by decide +kernel
theorem dX6_drop_48 : decode cX6_drop 48 = .ok (.getfield 10, 3) := by decide +kernel
theorem dX6_drop_51 : decode cX6_drop 51 = .ok (.iload_n 1, 1) := by decide +kernel
theorem dX6_drop_52 : decode cX6_drop 52 = .ok (.invokevirtual 85, 3) := by decide +kernel
theorem dX6_drop_55 : decode cX6_drop 55 = .ok (.ireturn, 1) := by decide +kernel
set_option maxRecDepth 20000 in
theorem ggX6_post_X1_isFull : GoodIn wsX6_post wsX1_isFull := goodIn_r _ [7, 8, 21, 22] (by decide +kernel) (by decide +kernel)
set_option maxRecDepth 20000 in
theorem gX6_post_X1_isFull : GoodIn wsX6_post (wsV RX6 89 RX1 yX1_isFull wsX1_isFull) := goodIn_app (goodIn_of _ (by decide +kernel)) ggX6_post_X1_isFull
set_option maxRecDepth 20000 in
theorem ggX6_post_X1_add : GoodIn wsX6_post wsX1_add := goodIn_r _ [12, 8, 21, 22] (by decide +kernel) (by decide +kernel)
set_option maxRecDepth 20000 in
theorem gX6_post_X1_add : GoodIn wsX6_post (wsV RX6 94 RX1 yX1_add wsX1_add) := goodIn_app (goodIn_of _ (by decide +kernel)) ggX6_post_X1_add
theorem dX6_post_0 : decode cX6_post 0 = .ok (.aload_n 0, 1) := by decide +kernel
theorem dX6_post_1 : decode cX6_post 1 = .ok (.getfield 19, 3) := by decide +kernel
theorem dX6_post_4 : decode cX6_post 4 = .ok (.invokevirtual 89, 3) := by decide +kernel
theorem dX6_post_7 : decode cX6_post 7 = .ok (.ifCond .eq 8, 3) := by decide +kernel
theorem dX6_post_10 : decode cX6_post 10 = .ok (.ldc 93, 2) := by decide +kernel
theorem dX6_post_12 : decode cX6_post 12 = .ok (.goto 10, 3) := by decide +kernel
theorem dX6_post_15 : decode cX6_post 15 = .ok (.aload_n 0, 1) := by decide +kernel
theorem dX6_post_16 : decode cX6_post 16 = .ok (.getfield 19, 3) := by decide +kernel
theorem dX6_post_19 : decode cX6_post 19 = .ok (.invokevirtual 94, 3) := by decide +kernel
theorem dX6_post_22 : decode cX6_post 22 = .ok (.ireturn, 1) := by decide +kernel
set_option maxRecDepth 20000 in
theorem ggX6_join_X6_isPair : GoodIn wsX6_join wsX6_isPair := goodIn_r _ [7, 2, 8, 9, 10, 11, 12, 13, 23, 24, 25, 26, 27, 28, 29, 30, 31, 32] (by decide +kernel) (by decide +kernel)
set_option maxRecDepth 20000 in
theorem gX6_join_X6_isPair : GoodIn wsX6_join (wsV RX6 98 RX6 yX6_isPair wsX6_isPair) := goodIn_app (goodIn_of _ (by decide +kernel)) ggX6_join_X6_isPair
set_option maxRecDepth 20000 in
theorem ggX6_join_X1_isLinked : GoodIn wsX6_join wsX1_isLinked := goodIn_r _ [17, 18, 31, 32] (by decide +kernel) (by decide +kernel)
set_option maxRecDepth 20000 in
theorem gX6_join_X1_isLinked : GoodIn wsX6_join (wsV RX6 102 RX1 yX1_isLinked wsX1_isLinked) := goodIn_app (goodIn_of _ (by decide +kernel)) ggX6_join_X1_isLinked
set_option maxRecDepth 20000 in
theorem ggX6_join_X1_toggle : GoodIn wsX6_join wsX1_toggle := goodIn_r _ [22, 18, 31, 32] (by decide +kernel) (by decide +kernel)
set_option maxRecDepth 20000 in
theorem gX6_join_X1_toggle : GoodIn wsX6_join (wsV RX6 105 RX1 yX1_toggle wsX1_toggle) := goodIn_app (goodIn_of _ (by decide +kernel)) ggX6_join_X1_toggle
theorem dX6_join_0 : decode cX6_join 0 = .ok (.aload_n 0, 1) := by decide +kernel
theorem dX6_join_1 : decode cX6_join 1 = .ok (.iload_n 1, 1) := by decide +kernel
theorem dX6_join_2 : decode cX6_join 2 = .ok (.iload_n 2, 1) := by decide +kernel
theorem dX6_join_3 : decode cX6_join 3 = .ok (.invokevirtual 98, 3) := by decide +kernel
theorem dX6_join_6 : decode cX6_join 6 = .ok (.ifCond .ne 6, 3) := by decide +kernel
theorem dX6_join_9 : decode cX6_join 9 = .ok (.ldc 57, 2) := by decide +kernel
theorem dX6_join_11 : decode cX6_join 11 = .ok (.ireturn, 1) := by decide +kernel
theorem dX6_join_12 : decode cX6_join 12 = .ok (.aload_n 0, 1) := by decide +kernel
theorem dX6_join_13 : decode cX6_join 13 = .ok (.getfield 19, 3) := by decide +kernel
theorem dX6_join_16 : decode cX6_join 16 = .ok (.iload_n 1, 1) := by decide +kernel
theorem dX6_join_17 : decode cX6_join 17 = .ok (.iload_n 2, 1) := by decide +kernel
theorem dX6_join_18 : decode cX6_join 18 = .ok (.invokevirtual 102, 3) := by decide +kernel
theorem dX6_join_21 : decode cX6_join 21 = .ok (.ifCond .eq 7, 3) := by decide +kernel
theorem dX6_join_24 : decode cX6_join 24 = .ok (.iconst 0, 1) := by decide +kernel
theorem dX6_join_25 : decode cX6_join 25 = .ok (.goto 12, 3) := by decide +kernel
theorem dX6_join_28 : decode cX6_join 28 = .ok (.aload_n 0, 1) := by decide +kernel
theorem dX6_join_29 : decode cX6_join 29 = .ok (.getfield 19, 3) := by decide +kernel
theorem dX6_join_32 : decode cX6_join 32 = .ok (.iload_n 1, 1) := by decide +kernel
theorem dX6_join_33 : decode cX6_join 33 = .ok (.iload_n 2, 1) := by decide +kernel
theorem dX6_join_34 : decode cX6_join 34 = .ok (.invokevirtual 105, 3) := by decide +kernel
theorem dX6_join_37 : decode cX6_join 37 = .ok (.ireturn, 1) := by decide +kernel
set_option maxRecDepth 20000 in
theorem ggX6_part_X6_isPair : GoodIn wsX6_part wsX6_isPair := goodIn_r _ [7, 2, 8, 9, 10, 11, 12, 13, 23, 24, 25, 26, 27, 28, 29, 30, 31, 32] (by decide +kernel) (by decide +kernel)
set_option maxRecDepth 20000 in
theorem gX6_part_X6_isPair : GoodIn wsX6_part (wsV RX6 98 RX6 yX6_isPair wsX6_isPair) := goodIn_app (goodIn_of _ (by decide +kernel)) ggX6_part_X6_isPair
set_option maxRecDepth 20000 in
theorem ggX6_part_X1_isLinked : GoodIn wsX6_part wsX1_isLinked := goodIn_r _ [17, 18, 31, 32] (by decide +kernel) (by decide +kernel)
set_option maxRecDepth 20000 in
theorem gX6_part_X1_isLinked : GoodIn wsX6_part (wsV RX6 102 RX1 yX1_isLinked wsX1_isLinked) := goodIn_app (goodIn_of _ (by decide +kernel)) ggX6_part_X1_isLinked
set_option maxRecDepth 20000 in
theorem ggX6_part_X1_toggle : GoodIn wsX6_part wsX1_toggle := goodIn_r _ [22, 18, 31, 32] (by decide +kernel) (by decide +kernel)
set_option maxRecDepth 20000 in
theorem gX6_part_X1_toggle : GoodIn wsX6_part (wsV RX6 105 RX1 yX1_toggle wsX1_toggle) := goodIn_app (goodIn_of _ (by decide +kernel)) ggX6_part_X1_toggle
theorem dX6_part_0 : decode cX6_part 0 = .ok (.aload_n 0, 1) := by decide +kernel
theorem dX6_part_1 : decode cX6_part 1 = .ok (.iload_n 1, 1) := by decide +kernel
theorem dX6_part_2 : decode cX6_part 2 = .ok (.iload_n 2, 1) := by decide +kernel
theorem dX6_part_3 : decode cX6_part 3 = .ok (.invokevirtual 98, 3) := by decide +kernel
theorem dX6_part_6 : decode cX6_part 6 = .ok (.ifCond .ne 6, 3) := by decide +kernel
theorem dX6_part_9 : decode cX6_part 9 = .ok (.ldc 57, 2) := by decide +kernel
theorem dX6_part_11 : decode cX6_part 11 = .ok (.ireturn, 1) := by decide +kernel
theorem dX6_part_12 : decode cX6_part 12 = .ok (.aload_n 0, 1) := by decide +kernel
theorem dX6_part_13 : decode cX6_part 13 = .ok (.getfield 19, 3) := by decide +kernel
theorem dX6_part_16 : decode cX6_part 16 = .ok (.iload_n 1, 1) := by decide +kernel
theorem dX6_part_17 : decode cX6_part 17 = .ok (.iload_n 2, 1) := by decide +kernel
theorem dX6_part_18 : decode cX6_part 18 = .ok (.invokevirtual 102, 3) := by decide +kernel
theorem dX6_part_21 : decode cX6_part 21 = .ok (.ifCond .eq 15, 3) := by decide +kernel
theorem dX6_part_24 : decode cX6_part 24 = .ok (.aload_n 0, 1) := by decide +kernel
theorem dX6_part_25 : decode cX6_part 25 = .ok (.getfield 19, 3) := by decide +kernel
theorem dX6_part_28 : decode cX6_part 28 = .ok (.iload_n 1, 1) := by decide +kernel
theorem dX6_part_29 : decode cX6_part 29 = .ok (.iload_n 2, 1) := by decide +kernel
theorem dX6_part_30 : decode cX6_part 30 = .ok (.invokevirtual 105, 3) := by decide +kernel
theorem dX6_part_33 : decode cX6_part 33 = .ok (.goto 4, 3) := by decide +kernel
theorem dX6_part_36 : decode cX6_part 36 = .ok (.iconst 0, 1) := by decide +kernel
theorem dX6_part_37 : decode cX6_part 37 = .ok (.ireturn, 1) := by decide +kernel
set_option maxRecDepth 20000 in
theorem ggX6_far_X1_hasPost : GoodIn wsX6_far wsX1_hasPost := goodIn_r _ [7, 8, 27, 28] (by decide +kernel) (by decide +kernel)
set_option maxRecDepth 20000 in
theorem gX6_far_X1_hasPost : GoodIn wsX6_far (wsV RX6 109 RX1 yX1_hasPost wsX1_hasPost) := goodIn_app (goodIn_of _ (by decide +kernel)) ggX6_far_X1_hasPost
set_option maxRecDepth 20000 in
theorem ggX6_far_X1_stepsBetween : GoodIn wsX6_far wsX1_stepsBetween := goodIn_r _ [12, 8, 13, 14, 15, 16, 6, 17, 18, 27, 28] (by decide +kernel) (by decide +kernel)
set_option maxRecDepth 20000 in
theorem gX6_far_X1_stepsBetween : GoodIn wsX6_far (wsV RX6 112 RX1 yX1_stepsBetween wsX1_stepsBetween) := goodIn_app (goodIn_of _ (by decide +kernel)) ggX6_far_X1_stepsBetween
theorem dX6_far_0 : decode cX6_far 0 = .ok (.aload_n 0, 1) := by decide +kernel
theorem dX6_far_1 : decode cX6_far 1 = .ok (.getfield 19, 3) := by decide +kernel
theorem dX6_far_4 : decode cX6_far 4 = .ok (.iload_n 1, 1) := by decide +kernel
theorem dX6_far_5 : decode cX6_far 5 = .ok (.invokevirtual 109, 3) := by decide +kernel
theorem dX6_far_8 : decode cX6_far 8 = .ok (.ifCond .eq 14, 3) := by decide +kernel
theorem dX6_far_11 : decode cX6_far 11 = .ok (.aload_n 0, 1) := by decide +kernel
theorem dX6_far_12 : decode cX6_far 12 = .ok (.getfield 19, 3) := by decide +kernel
theorem dX6_far_15 : decode cX6_far 15 = .ok (.iload_n 2, 1) := by decide +kernel
theorem dX6_far_16 : decode cX6_far 16 = .ok (.invokevirtual 109, 3) := by decide +kernel
theorem dX6_far_19 : decode cX6_far 19 = .ok (.ifCond .ne 6, 3) := by decide +kernel
theorem dX6_far_22 : decode cX6_far 22 = .ok (.ldc 57, 2) := by decide +kernel
theorem dX6_far_24 : decode cX6_far 24 = .ok (.ireturn, 1) := by decide +kernel
theorem dX6_far_25 : decode cX6_far 25 = .ok (.aload_n 0, 1) := by decide +kernel
theorem dX6_far_26 : decode cX6_far 26 = .ok (.getfield 19, 3) := by decide +kernel
theorem dX6_far_29 : decode cX6_far 29 = .ok (.iload_n 1, 1) := by decide +kernel
theorem dX6_far_30 : decode cX6_far 30 = .ok (.iload_n 2, 1) := by decide +kernel
theorem dX6_far_31 : decode cX6_far 31 = .ok (.invokevirtual 112, 3) := by decide +kernel
theorem dX6_far_34 : decode cX6_far 34 = .ok (.ireturn, 1) := by decide +kernel
set_option maxRecDepth 20000 in
theorem ggX6_told_X1_hasPost : GoodIn wsX6_told wsX1_hasPost := goodIn_r _ [7, 8, 45, 46] (by decide +kernel) (by decide +kernel)
set_option maxRecDepth 20000 in
theorem gX6_told_X1_hasPost : GoodIn wsX6_told (wsV RX6 109 RX1 yX1_hasPost wsX1_hasPost) := goodIn_app (goodIn_of _ (by decide +kernel)) ggX6_told_X1_hasPost
set_option maxRecDepth 20000 in
theorem ggX6_told_X1_degree : GoodIn wsX6_told wsX1_degree := goodIn_r _ [12, 13, 14, 15, 16, 17, 18, 19, 20, 45, 46] (by decide +kernel) (by decide +kernel)
set_option maxRecDepth 20000 in
theorem gX6_told_X1_degree : GoodIn wsX6_told (wsV RX6 115 RX1 yX1_degree wsX1_degree) := goodIn_app (goodIn_of _ (by decide +kernel)) ggX6_told_X1_degree
set_option maxRecDepth 20000 in
theorem ggX6_told_X1_neighboursOf : GoodIn wsX6_told wsX1_neighboursOf := goodIn_r _ [24, 13, 45, 46] (by decide +kernel) (by decide +kernel)
set_option maxRecDepth 20000 in
theorem gX6_told_X1_neighboursOf : GoodIn wsX6_told (wsV RX6 118 RX1 yX1_neighboursOf wsX1_neighboursOf) := goodIn_app (goodIn_of _ (by decide +kernel)) ggX6_told_X1_neighboursOf
set_option maxRecDepth 20000 in
theorem ggX6_told_X1_width : GoodIn wsX6_told wsX1_width := goodIn_r _ [28, 8, 29, 30, 31, 6, 32, 13, 45, 46] (by decide +kernel) (by decide +kernel)
set_option maxRecDepth 20000 in
theorem gX6_told_X1_width : GoodIn wsX6_told (wsV RX6 121 RX1 yX1_width wsX1_width) := goodIn_app (goodIn_of _ (by decide +kernel)) ggX6_told_X1_width
set_option maxRecDepth 20000 in
theorem ggX6_told_X1_reachOf : GoodIn wsX6_told wsX1_reachOf := goodIn_r _ [36, 8, 29, 30, 31, 6, 32, 13, 45, 46] (by decide +kernel) (by decide +kernel)
set_option maxRecDepth 20000 in
theorem gX6_told_X1_reachOf : GoodIn wsX6_told (wsV RX6 124 RX1 yX1_reachOf wsX1_reachOf) := goodIn_app (goodIn_of _ (by decide +kernel)) ggX6_told_X1_reachOf
theorem dX6_told_0 : decode cX6_told 0 = .ok (.aload_n 0, 1) := by decide +kernel
theorem dX6_told_1 : decode cX6_told 1 = .ok (.getfield 19, 3) := by decide +kernel
theorem dX6_told_4 : decode cX6_told 4 = .ok (.iload_n 1, 1) := by decide +kernel
theorem dX6_told_5 : decode cX6_told 5 = .ok (.invokevirtual 109, 3) := by decide +kernel
theorem dX6_told_8 : decode cX6_told 8 = .ok (.ifCond .ne 6, 3) := by decide +kernel
theorem dX6_told_11 : decode cX6_told 11 = .ok (.ldc 57, 2) := by decide +kernel
theorem dX6_told_13 : decode cX6_told 13 = .ok (.ireturn, 1) := by decide +kernel
theorem dX6_told_14 : decode cX6_told 14 = .ok (.iload_n 2, 1) := by decide +kernel
theorem dX6_told_15 : decode cX6_told 15 = .ok (.tableswitch 67 0 3 #[29, 38, 47, 56], 29) := by decide +kernel
theorem dX6_told_44 : decode cX6_told 44 = .ok (.aload_n 0, 1) := by decide +kernel
theorem dX6_told_45 : decode cX6_told 45 = .ok (.getfield 19, 3) := by decide +kernel
theorem dX6_told_48 : decode cX6_told 48 = .ok (.iload_n 1, 1) := by decide +kernel
theorem dX6_told_49 : decode cX6_told 49 = .ok (.invokevirtual 115, 3) := by decide +kernel
theorem dX6_told_52 : decode cX6_told 52 = .ok (.ireturn, 1) := by decide +kernel
theorem dX6_told_53 : decode cX6_told 53 = .ok (.aload_n 0, 1) := by decide +kernel
theorem dX6_told_54 : decode cX6_told 54 = .ok (.getfield 19, 3) := by decide +kernel
theorem dX6_told_57 : decode cX6_told 57 = .ok (.iload_n 1, 1) := by decide +kernel
theorem dX6_told_58 : decode cX6_told 58 = .ok (.invokevirtual 118, 3) := by decide +kernel
theorem dX6_told_61 : decode cX6_told 61 = .ok (.ireturn, 1) := by decide +kernel
theorem dX6_told_62 : decode cX6_told 62 = .ok (.aload_n 0, 1) := by decide +kernel
theorem dX6_told_63 : decode cX6_told 63 = .ok (.getfield 19, 3) := by decide +kernel
theorem dX6_told_66 : decode cX6_told 66 = .ok (.iload_n 1, 1) := by decide +kernel
theorem dX6_told_67 : decode cX6_told 67 = .ok (.invokevirtual 121, 3) := by decide +kernel
theorem dX6_told_70 : decode cX6_told 70 = .ok (.ireturn, 1) := by decide +kernel
theorem dX6_told_71 : decode cX6_told 71 = .ok (.aload_n 0, 1) := by decide +kernel
theorem dX6_told_72 : decode cX6_told 72 = .ok (.getfield 19, 3) := by decide +kernel
theorem dX6_told_75 : decode cX6_told 75 = .ok (.iconst 1, 1) := by decide +kernel
theorem dX6_told_76 : decode cX6_told 76 = .ok (.iload_n 1, 1) := by decide +kernel
theorem dX6_told_77 : decode cX6_told 77 = .ok (.ishl, 1) := by decide +kernel
theorem dX6_told_78 : decode cX6_told 78 = .ok (.invokevirtual 124, 3) := by decide +kernel
theorem dX6_told_81 : decode cX6_told 81 = .ok (.ireturn, 1) := by decide +kernel
theorem dX6_told_82 : decode cX6_told 82 = .ok (.ldc 57, 2) := by decide +kernel
theorem dX6_told_84 : decode cX6_told 84 = .ok (.ireturn, 1) := by decide +kernel
set_option maxRecDepth 20000 in
theorem ggX6_hears_X6_isHearing : GoodIn wsX6_hears wsX6_isHearing := goodIn_r _ [6] (by decide +kernel) (by decide +kernel)
set_option maxRecDepth 20000 in
theorem gX6_hears_X6_isHearing : GoodIn wsX6_hears (va_wsS RX6 127 yX6_isHearing wsX6_isHearing) := goodIn_app (goodIn_of _ (by decide +kernel)) ggX6_hears_X6_isHearing
set_option maxRecDepth 20000 in
theorem ggX6_hears_X1_hasSet : GoodIn wsX6_hears wsX1_hasSet := goodIn_r _ [11, 12, 13, 14, 10, 15, 16, 30, 31] (by decide +kernel) (by decide +kernel)
set_option maxRecDepth 20000 in
theorem gX6_hears_X1_hasSet : GoodIn wsX6_hears (wsV RX6 130 RX1 yX1_hasSet wsX1_hasSet) := goodIn_app (goodIn_of _ (by decide +kernel)) ggX6_hears_X1_hasSet
set_option maxRecDepth 20000 in
theorem ggX6_hears_X1_heardBy : GoodIn wsX6_hears wsX1_heardBy := goodIn_r _ [20, 16, 21, 30, 31] (by decide +kernel) (by decide +kernel)
set_option maxRecDepth 20000 in
theorem gX6_hears_X1_heardBy : GoodIn wsX6_hears (wsV RX6 133 RX1 yX1_heardBy wsX1_heardBy) := goodIn_app (goodIn_of _ (by decide +kernel)) ggX6_hears_X1_heardBy
theorem dX6_hears_0 : decode cX6_hears 0 = .ok (.iload_n 1, 1) := by decide +kernel
theorem dX6_hears_1 : decode cX6_hears 1 = .ok (.invokestatic 127, 3) := by decide +kernel
theorem dX6_hears_4 : decode cX6_hears 4 = .ok (.ifCond .eq 14, 3) := by decide +kernel
theorem dX6_hears_7 : decode cX6_hears 7 = .ok (.aload_n 0, 1) := by decide +kernel
theorem dX6_hears_8 : decode cX6_hears 8 = .ok (.getfield 19, 3) := by decide +kernel
theorem dX6_hears_11 : decode cX6_hears 11 = .ok (.iload_n 2, 1) := by decide +kernel
theorem dX6_hears_12 : decode cX6_hears 12 = .ok (.invokevirtual 130, 3) := by decide +kernel
theorem dX6_hears_15 : decode cX6_hears 15 = .ok (.ifCond .ne 6, 3) := by decide +kernel
theorem dX6_hears_18 : decode cX6_hears 18 = .ok (.ldc 57, 2) := by decide +kernel
theorem dX6_hears_20 : decode cX6_hears 20 = .ok (.ireturn, 1) := by decide +kernel
theorem dX6_hears_21 : decode cX6_hears 21 = .ok (.aload_n 0, 1) := by decide +kernel
theorem dX6_hears_22 : decode cX6_hears 22 = .ok (.getfield 19, 3) := by decide +kernel
theorem dX6_hears_25 : decode cX6_hears 25 = .ok (.iload_n 1, 1) := by decide +kernel
theorem dX6_hears_26 : decode cX6_hears 26 = .ok (.iload_n 2, 1) := by decide +kernel
theorem dX6_hears_27 : decode cX6_hears 27 = .ok (.invokevirtual 133, 3) := by decide +kernel
theorem dX6_hears_30 : decode cX6_hears 30 = .ok (.ireturn, 1) := by decide +kernel
set_option maxRecDepth 20000 in
theorem ggX6_spreads_X6_isHearing : GoodIn wsX6_spreads wsX6_isHearing := goodIn_r _ [6] (by decide +kernel) (by decide +kernel)
set_option maxRecDepth 20000 in
theorem gX6_spreads_X6_isHearing : GoodIn wsX6_spreads (va_wsS RX6 127 yX6_isHearing wsX6_isHearing) := goodIn_app (goodIn_of _ (by decide +kernel)) ggX6_spreads_X6_isHearing
set_option maxRecDepth 20000 in
theorem ggX6_spreads_X1_hasSet : GoodIn wsX6_spreads wsX1_hasSet := goodIn_r _ [11, 12, 13, 14, 10, 15, 16, 34, 35] (by decide +kernel) (by decide +kernel)
set_option maxRecDepth 20000 in
theorem gX6_spreads_X1_hasSet : GoodIn wsX6_spreads (wsV RX6 130 RX1 yX1_hasSet wsX1_hasSet) := goodIn_app (goodIn_of _ (by decide +kernel)) ggX6_spreads_X1_hasSet
set_option maxRecDepth 20000 in
theorem ggX6_spreads_X1_knowAfter : GoodIn wsX6_spreads wsX1_knowAfter := goodIn_r _ [20, 21, 22, 23, 10, 24, 16, 25, 34, 35] (by decide +kernel) (by decide +kernel)
set_option maxRecDepth 20000 in
theorem gX6_spreads_X1_knowAfter : GoodIn wsX6_spreads (wsV RX6 136 RX1 yX1_knowAfter wsX1_knowAfter) := goodIn_app (goodIn_of _ (by decide +kernel)) ggX6_spreads_X1_knowAfter
theorem dX6_spreads_0 : decode cX6_spreads 0 = .ok (.iload_n 1, 1) := by decide +kernel
theorem dX6_spreads_1 : decode cX6_spreads 1 = .ok (.invokestatic 127, 3) := by decide +kernel
theorem dX6_spreads_4 : decode cX6_spreads 4 = .ok (.ifCond .eq 25, 3) := by decide +kernel
theorem dX6_spreads_7 : decode cX6_spreads 7 = .ok (.aload_n 0, 1) := by decide +kernel
theorem dX6_spreads_8 : decode cX6_spreads 8 = .ok (.getfield 19, 3) := by decide +kernel
theorem dX6_spreads_11 : decode cX6_spreads 11 = .ok (.iload_n 2, 1) := by decide +kernel
theorem dX6_spreads_12 : decode cX6_spreads 12 = .ok (.invokevirtual 130, 3) := by decide +kernel
theorem dX6_spreads_15 : decode cX6_spreads 15 = .ok (.ifCond .eq 14, 3) := by decide +kernel
theorem dX6_spreads_18 : decode cX6_spreads 18 = .ok (.aload_n 0, 1) := by decide +kernel
theorem dX6_spreads_19 : decode cX6_spreads 19 = .ok (.getfield 19, 3) := by decide +kernel
theorem dX6_spreads_22 : decode cX6_spreads 22 = .ok (.iload_n 3, 1) := by decide +kernel
theorem dX6_spreads_23 : decode cX6_spreads 23 = .ok (.invokevirtual 130, 3) := by decide +kernel
theorem dX6_spreads_26 : decode cX6_spreads 26 = .ok (.ifCond .ne 6, 3) := by decide +kernel
theorem dX6_spreads_29 : decode cX6_spreads 29 = .ok (.ldc 57, 2) := by decide +kernel
theorem dX6_spreads_31 : decode cX6_spreads 31 = .ok (.ireturn, 1) := by decide +kernel
theorem dX6_spreads_32 : decode cX6_spreads 32 = .ok (.aload_n 0, 1) := by decide +kernel
theorem dX6_spreads_33 : decode cX6_spreads 33 = .ok (.getfield 19, 3) := by decide +kernel
theorem dX6_spreads_36 : decode cX6_spreads 36 = .ok (.iload_n 1, 1) := by decide +kernel
theorem dX6_spreads_37 : decode cX6_spreads 37 = .ok (.iload_n 2, 1) := by decide +kernel
theorem dX6_spreads_38 : decode cX6_spreads 38 = .ok (.iload_n 3, 1) := by decide +kernel
theorem dX6_spreads_39 : decode cX6_spreads 39 = .ok (.invokevirtual 136, 3) := by decide +kernel
theorem dX6_spreads_42 : decode cX6_spreads 42 = .ok (.ireturn, 1) := by decide +kernel
set_option maxRecDepth 20000 in
theorem ggX6_feed_X2_hasRoom : GoodIn wsX6_feed wsX2_hasRoom := goodIn_r _ [8, 9, 24, 25, 26, 27, 28, 29, 30, 31] (by decide +kernel) (by decide +kernel)
set_option maxRecDepth 20000 in
theorem gX6_feed_X2_hasRoom : GoodIn wsX6_feed (wsV RX6 139 RX2 yX2_hasRoom wsX2_hasRoom) := goodIn_app (goodIn_of _ (by decide +kernel)) ggX6_feed_X2_hasRoom
set_option maxRecDepth 20000 in
theorem ggX6_feed_X2_take : GoodIn wsX6_feed wsX2_take := goodIn_r _ [13, 14, 9, 15, 24, 25, 26, 27, 28, 29, 30, 31] (by decide +kernel) (by decide +kernel)
set_option maxRecDepth 20000 in
theorem gX6_feed_X2_take : GoodIn wsX6_feed (wsV RX6 142 RX2 yX2_take wsX2_take) := goodIn_app (goodIn_of _ (by decide +kernel)) ggX6_feed_X2_take
theorem dX6_feed_0 : decode cX6_feed 0 = .ok (.iload_n 3, 1) := by decide +kernel
theorem dX6_feed_1 : decode cX6_feed 1 = .ok (.iconst 1, 1) := by decide +kernel
theorem dX6_feed_2 : decode cX6_feed 2 = .ok (.if_icmp .lt 9, 3) := by decide +kernel
theorem dX6_feed_5 : decode cX6_feed 5 = .ok (.iload_n 3, 1) := by decide +kernel
theorem dX6_feed_6 : decode cX6_feed 6 = .ok (.bipush 8, 2) := by decide +kernel
theorem dX6_feed_8 : decode cX6_feed 8 = .ok (.if_icmp .le 6, 3) := by decide +kernel
theorem dX6_feed_11 : decode cX6_feed 11 = .ok (.ldc 57, 2) := by decide +kernel
theorem dX6_feed_13 : decode cX6_feed 13 = .ok (.ireturn, 1) := by decide +kernel
theorem dX6_feed_14 : decode cX6_feed 14 = .ok (.aload_n 0, 1) := by decide +kernel
theorem dX6_feed_15 : decode cX6_feed 15 = .ok (.getfield 26, 3) := by decide +kernel
theorem dX6_feed_18 : decode cX6_feed 18 = .ok (.iload_n 3, 1) := by decide +kernel
theorem dX6_feed_19 : decode cX6_feed 19 = .ok (.invokevirtual 139, 3) := by decide +kernel
theorem dX6_feed_22 : decode cX6_feed 22 = .ok (.ifCond .eq 15, 3) := by decide +kernel
theorem dX6_feed_25 : decode cX6_feed 25 = .ok (.aload_n 0, 1) := by decide +kernel
theorem dX6_feed_26 : decode cX6_feed 26 = .ok (.getfield 26, 3) := by decide +kernel
theorem dX6_feed_29 : decode cX6_feed 29 = .ok (.lload_n 1, 1) := by decide +kernel
theorem dX6_feed_30 : decode cX6_feed 30 = .ok (.iload_n 3, 1) := by decide +kernel
theorem dX6_feed_31 : decode cX6_feed 31 = .ok (.invokevirtual 142, 3) := by decide +kernel
theorem dX6_feed_34 : decode cX6_feed 34 = .ok (.goto 5, 3) := by decide +kernel
theorem dX6_feed_37 : decode cX6_feed 37 = .ok (.ldc 93, 2) := by decide +kernel
theorem dX6_feed_39 : decode cX6_feed 39 = .ok (.ireturn, 1) := by decide +kernel
set_option maxRecDepth 20000 in
theorem ggX6_schedule_X1_size : GoodIn wsX6_schedule wsX1_size := goodIn_r _ [10, 11, 143, 144] (by decide +kernel) (by decide +kernel)
set_option maxRecDepth 20000 in
theorem gX6_schedule_X1_size : GoodIn wsX6_schedule (wsV RX6 146 RX1 yX1_size wsX1_size) := goodIn_app (goodIn_of _ (by decide +kernel)) ggX6_schedule_X1_size
set_option maxRecDepth 20000 in
theorem ggX6_schedule_X2_read : GoodIn wsX6_schedule wsX2_read := goodIn_r _ [16, 17, 18, 19, 20, 21, 22, 23, 15, 24, 25, 26, 27, 28, 29, 30, 31, 32, 33, 34, 35, 36, 37, 38, 39, 40, 41, 42, 43, 44, 45, 46, 47, 48, 49, 50, 51, 52, 53, 54, 55, 56, 57, 58, 59, 60, 61, 62, 63, 64, 65, 66, 67, 68, 69, 70, 71, 72, 73, 74, 75, 76, 77, 78, 79, 80, 81, 82, 83, 84, 85, 86, 87, 88, 89, 90, 91, 92, 93, 94, 95, 96, 97, 98, 99, 100, 101, 102, 103, 104, 105, 106, 107, 108, 109, 110, 111, 145, 146, 147, 148, 149, 150, 151, 152] (by decide +kernel) (by decide +kernel)
set_option maxRecDepth 20000 in
theorem gX6_schedule_X2_read : GoodIn wsX6_schedule (wsV RX6 149 RX2 yX2_read wsX2_read) := goodIn_app (goodIn_of _ (by decide +kernel)) ggX6_schedule_X2_read
set_option maxRecDepth 20000 in
theorem ggX6_schedule_X2_tokenPlace : GoodIn wsX6_schedule wsX2_tokenPlace := goodIn_r _ [115, 25, 145, 146, 147, 148, 149, 150, 151, 152] (by decide +kernel) (by decide +kernel)
set_option maxRecDepth 20000 in
theorem gX6_schedule_X2_tokenPlace : GoodIn wsX6_schedule (wsV RX6 156 RX2 yX2_tokenPlace wsX2_tokenPlace) := goodIn_app (goodIn_of _ (by decide +kernel)) ggX6_schedule_X2_tokenPlace
set_option maxRecDepth 20000 in
theorem ggX6_schedule_X5_become : GoodIn wsX6_schedule wsX5_become := goodIn_r _ [120, 121, 122, 123, 124, 125, 15, 126, 99, 17, 127, 128, 129, 130, 153, 154, 145, 146, 147, 148, 149, 150, 151, 152] (by decide +kernel) (by decide +kernel)
set_option maxRecDepth 20000 in
theorem gX6_schedule_X5_become : GoodIn wsX6_schedule (wsV RX6 159 RX5 yX5_become wsX5_become) := goodIn_app (goodIn_of _ (by decide +kernel)) ggX6_schedule_X5_become
set_option maxRecDepth 20000 in
theorem ggX6_schedule_X5_size : GoodIn wsX6_schedule wsX5_size := goodIn_r _ [134, 122, 153, 154] (by decide +kernel) (by decide +kernel)
set_option maxRecDepth 20000 in
theorem gX6_schedule_X5_size : GoodIn wsX6_schedule (wsV RX6 163 RX5 yX5_size wsX5_size) := goodIn_app (goodIn_of _ (by decide +kernel)) ggX6_schedule_X5_size
theorem dX6_schedule_0 : decode cX6_schedule 0 = .ok (.aload_n 0, 1) := by decide +kernel
theorem dX6_schedule_1 : decode cX6_schedule 1 = .ok (.getfield 26, 3) := by decide +kernel
theorem dX6_schedule_4 : decode cX6_schedule 4 = .ok (.aload_n 0, 1) := by decide +kernel
theorem dX6_schedule_5 : decode cX6_schedule 5 = .ok (.getfield 19, 3) := by decide +kernel
theorem dX6_schedule_8 : decode cX6_schedule 8 = .ok (.invokevirtual 146, 3) := by decide +kernel
theorem dX6_schedule_11 : decode cX6_schedule 11 = .ok (.invokevirtual 149, 3) := by decide +kernel
theorem dX6_schedule_14 : decode cX6_schedule 14 = .ok (.istore_n 1, 1) := by decide +kernel
theorem dX6_schedule_15 : decode cX6_schedule 15 = .ok (.iload_n 1, 1) := by decide +kernel
theorem dX6_schedule_16 : decode cX6_schedule 16 = .ok (.ifCond .eq 19, 3) := by decide +kernel
theorem dX6_schedule_19 : decode cX6_schedule 19 = .ok (.aload_n 0, 1) := by decide +kernel
theorem dX6_schedule_20 : decode cX6_schedule 20 = .ok (.iload_n 1, 1) := by decide +kernel
theorem dX6_schedule_21 : decode cX6_schedule 21 = .ok (.putfield 152, 3) := by decide +kernel
theorem dX6_schedule_24 : decode cX6_schedule 24 = .ok (.ldc 155, 2) := by decide +kernel
theorem dX6_schedule_26 : decode cX6_schedule 26 = .ok (.aload_n 0, 1) := by decide +kernel
theorem dX6_schedule_27 : decode cX6_schedule 27 = .ok (.getfield 26, 3) := by decide +kernel
theorem dX6_schedule_30 : decode cX6_schedule 30 = .ok (.invokevirtual 156, 3) := by decide +kernel
theorem dX6_schedule_33 : decode cX6_schedule 33 = .ok (.isub, 1) := by decide +kernel
theorem dX6_schedule_34 : decode cX6_schedule 34 = .ok (.ireturn, 1) := by decide +kernel
theorem dX6_schedule_35 : decode cX6_schedule 35 = .ok (.aload_n 0, 1) := by decide +kernel
theorem dX6_schedule_36 : decode cX6_schedule 36 = .ok (.getfield 33, 3) := by decide +kernel
theorem dX6_schedule_39 : decode cX6_schedule 39 = .ok (.aload_n 0, 1) := by decide +kernel
theorem dX6_schedule_40 : decode cX6_schedule 40 = .ok (.getfield 26, 3) := by decide +kernel
theorem dX6_schedule_43 : decode cX6_schedule 43 = .ok (.invokevirtual 159, 3) := by decide +kernel
theorem dX6_schedule_46 : decode cX6_schedule 46 = .ok (.aload_n 0, 1) := by decide +kernel
theorem dX6_schedule_47 : decode cX6_schedule 47 = .ok (.getfield 33, 3) := by decide +kernel
theorem dX6_schedule_50 : decode cX6_schedule 50 = .ok (.invokevirtual 163, 3) := by decide +kernel
theorem dX6_schedule_53 : decode cX6_schedule 53 = .ok (.ireturn, 1) := by decide +kernel
theorem dX6_fault_0 : decode cX6_fault 0 = .ok (.aload_n 0, 1) := by decide +kernel
theorem dX6_fault_1 : decode cX6_fault 1 = .ok (.getfield 152, 3) := by decide +kernel
theorem dX6_fault_4 : decode cX6_fault 4 = .ok (.ireturn, 1) := by decide +kernel
set_option maxRecDepth 20000 in
theorem ggX6_round_X5_hasRound : GoodIn wsX6_round wsX5_hasRound := goodIn_r _ [8, 9, 29, 30] (by decide +kernel) (by decide +kernel)
set_option maxRecDepth 20000 in
theorem gX6_round_X5_hasRound : GoodIn wsX6_round (wsV RX6 164 RX5 yX5_hasRound wsX5_hasRound) := goodIn_app (goodIn_of _ (by decide +kernel)) ggX6_round_X5_hasRound
set_option maxRecDepth 20000 in
theorem ggX6_round_X1_allPosts : GoodIn wsX6_round wsX1_allPosts := goodIn_r _ [14, 15, 31, 32] (by decide +kernel) (by decide +kernel)
set_option maxRecDepth 20000 in
theorem gX6_round_X1_allPosts : GoodIn wsX6_round (wsV RX6 167 RX1 yX1_allPosts wsX1_allPosts) := goodIn_app (goodIn_of _ (by decide +kernel)) ggX6_round_X1_allPosts
set_option maxRecDepth 20000 in
theorem ggX6_round_X5_soundsIn : GoodIn wsX6_round wsX5_soundsIn := goodIn_r _ [19, 20, 29, 30] (by decide +kernel) (by decide +kernel)
set_option maxRecDepth 20000 in
theorem gX6_round_X5_soundsIn : GoodIn wsX6_round (wsV RX6 170 RX5 yX5_soundsIn wsX5_soundsIn) := goodIn_app (goodIn_of _ (by decide +kernel)) ggX6_round_X5_soundsIn
theorem dX6_round_0 : decode cX6_round 0 = .ok (.aload_n 0, 1) := by decide +kernel
theorem dX6_round_1 : decode cX6_round 1 = .ok (.getfield 33, 3) := by decide +kernel
theorem dX6_round_4 : decode cX6_round 4 = .ok (.iload_n 1, 1) := by decide +kernel
theorem dX6_round_5 : decode cX6_round 5 = .ok (.invokevirtual 164, 3) := by decide +kernel
theorem dX6_round_8 : decode cX6_round 8 = .ok (.ifCond .eq 21, 3) := by decide +kernel
theorem dX6_round_11 : decode cX6_round 11 = .ok (.aload_n 0, 1) := by decide +kernel
theorem dX6_round_12 : decode cX6_round 12 = .ok (.getfield 33, 3) := by decide +kernel
theorem dX6_round_15 : decode cX6_round 15 = .ok (.iload_n 1, 1) := by decide +kernel
theorem dX6_round_16 : decode cX6_round 16 = .ok (.aload_n 0, 1) := by decide +kernel
theorem dX6_round_17 : decode cX6_round 17 = .ok (.getfield 19, 3) := by decide +kernel
theorem dX6_round_20 : decode cX6_round 20 = .ok (.invokevirtual 167, 3) := by decide +kernel
theorem dX6_round_23 : decode cX6_round 23 = .ok (.invokevirtual 170, 3) := by decide +kernel
theorem dX6_round_26 : decode cX6_round 26 = .ok (.goto 5, 3) := by decide +kernel
theorem dX6_round_29 : decode cX6_round 29 = .ok (.ldc 173, 2) := by decide +kernel
theorem dX6_round_31 : decode cX6_round 31 = .ok (.ireturn, 1) := by decide +kernel
set_option maxRecDepth 20000 in
theorem ggX6_run_X6_isHearing : GoodIn wsX6_run wsX6_isHearing := goodIn_r _ [8] (by decide +kernel) (by decide +kernel)
set_option maxRecDepth 20000 in
theorem gX6_run_X6_isHearing : GoodIn wsX6_run (va_wsS RX6 127 yX6_isHearing wsX6_isHearing) := goodIn_app (goodIn_of _ (by decide +kernel)) ggX6_run_X6_isHearing
set_option maxRecDepth 20000 in
theorem ggX6_run_X1_hasPost : GoodIn wsX6_run wsX1_hasPost := goodIn_r _ [13, 14, 51, 52] (by decide +kernel) (by decide +kernel)
set_option maxRecDepth 20000 in
theorem gX6_run_X1_hasPost : GoodIn wsX6_run (wsV RX6 109 RX1 yX1_hasPost wsX1_hasPost) := goodIn_app (goodIn_of _ (by decide +kernel)) ggX6_run_X1_hasPost
set_option maxRecDepth 20000 in
theorem ggX6_run_X5_size : GoodIn wsX6_run wsX5_size := goodIn_r _ [19, 20, 53, 54] (by decide +kernel) (by decide +kernel)
set_option maxRecDepth 20000 in
theorem gX6_run_X5_size : GoodIn wsX6_run (wsV RX6 163 RX5 yX5_size wsX5_size) := goodIn_app (goodIn_of _ (by decide +kernel)) ggX6_run_X5_size
set_option maxRecDepth 20000 in
theorem ggX6_run_X1_allPosts : GoodIn wsX6_run wsX1_allPosts := goodIn_r _ [24, 14, 51, 52] (by decide +kernel) (by decide +kernel)
set_option maxRecDepth 20000 in
theorem gX6_run_X1_allPosts : GoodIn wsX6_run (wsV RX6 167 RX1 yX1_allPosts wsX1_allPosts) := goodIn_app (goodIn_of _ (by decide +kernel)) ggX6_run_X1_allPosts
set_option maxRecDepth 20000 in
theorem ggX6_run_X5_soundsOverAndOver : GoodIn wsX6_run wsX5_soundsOverAndOver := goodIn_r _ [28, 20, 29, 30, 31, 18, 32, 33, 53, 54] (by decide +kernel) (by decide +kernel)
set_option maxRecDepth 20000 in
theorem gX6_run_X5_soundsOverAndOver : GoodIn wsX6_run (wsV RX6 175 RX5 yX5_soundsOverAndOver wsX5_soundsOverAndOver) := goodIn_app (goodIn_of _ (by decide +kernel)) ggX6_run_X5_soundsOverAndOver
set_option maxRecDepth 20000 in
theorem ggX6_run_X1_knowAfter : GoodIn wsX6_run wsX1_knowAfter := goodIn_r _ [37, 38, 39, 40, 12, 41, 14, 42, 51, 52] (by decide +kernel) (by decide +kernel)
set_option maxRecDepth 20000 in
theorem gX6_run_X1_knowAfter : GoodIn wsX6_run (wsV RX6 136 RX1 yX1_knowAfter wsX1_knowAfter) := goodIn_app (goodIn_of _ (by decide +kernel)) ggX6_run_X1_knowAfter
theorem dX6_run_0 : decode cX6_run 0 = .ok (.iload_n 1, 1) := by decide +kernel
theorem dX6_run_1 : decode cX6_run 1 = .ok (.invokestatic 127, 3) := by decide +kernel
theorem dX6_run_4 : decode cX6_run 4 = .ok (.ifCond .eq 24, 3) := by decide +kernel
theorem dX6_run_7 : decode cX6_run 7 = .ok (.aload_n 0, 1) := by decide +kernel
theorem dX6_run_8 : decode cX6_run 8 = .ok (.getfield 19, 3) := by decide +kernel
theorem dX6_run_11 : decode cX6_run 11 = .ok (.iload_n 2, 1) := by decide +kernel
theorem dX6_run_12 : decode cX6_run 12 = .ok (.invokevirtual 109, 3) := by decide +kernel
theorem dX6_run_15 : decode cX6_run 15 = .ok (.ifCond .eq 13, 3) := by decide +kernel
theorem dX6_run_18 : decode cX6_run 18 = .ok (.iload_n 3, 1) := by decide +kernel
theorem dX6_run_19 : decode cX6_run 19 = .ok (.ifCond .lt 9, 3) := by decide +kernel
theorem dX6_run_22 : decode cX6_run 22 = .ok (.iload_n 3, 1) := by decide +kernel
theorem dX6_run_23 : decode cX6_run 23 = .ok (.bipush 60, 2) := by decide +kernel
theorem dX6_run_25 : decode cX6_run 25 = .ok (.if_icmp .le 6, 3) := by decide +kernel
theorem dX6_run_28 : decode cX6_run 28 = .ok (.ldc 57, 2) := by decide +kernel
theorem dX6_run_30 : decode cX6_run 30 = .ok (.ireturn, 1) := by decide +kernel
theorem dX6_run_31 : decode cX6_run 31 = .ok (.aload_n 0, 1) := by decide +kernel
theorem dX6_run_32 : decode cX6_run 32 = .ok (.getfield 33, 3) := by decide +kernel
theorem dX6_run_35 : decode cX6_run 35 = .ok (.invokevirtual 163, 3) := by decide +kernel
theorem dX6_run_38 : decode cX6_run 38 = .ok (.ifCond .ne 6, 3) := by decide +kernel
theorem dX6_run_41 : decode cX6_run 41 = .ok (.ldc 174, 2) := by decide +kernel
theorem dX6_run_43 : decode cX6_run 43 = .ok (.ireturn, 1) := by decide +kernel
theorem dX6_run_44 : decode cX6_run 44 = .ok (.iconst 1, 1) := by decide +kernel
theorem dX6_run_45 : decode cX6_run 45 = .ok (.iload_n 2, 1) := by decide +kernel
theorem dX6_run_46 : decode cX6_run 46 = .ok (.ishl, 1) := by decide +kernel
theorem dX6_run_47 : decode cX6_run 47 = .ok (.istore 4, 2) := by decide +kernel
theorem dX6_run_49 : decode cX6_run 49 = .ok (.iconst 0, 1) := by decide +kernel
theorem dX6_run_50 : decode cX6_run 50 = .ok (.istore 5, 2) := by decide +kernel
theorem dX6_run_52 : decode cX6_run 52 = .ok (.iload 5, 2) := by decide +kernel
theorem dX6_run_54 : decode cX6_run 54 = .ok (.iload_n 3, 1) := by decide +kernel
theorem dX6_run_55 : decode cX6_run 55 = .ok (.if_icmp .ge 37, 3) := by decide +kernel
theorem dX6_run_58 : decode cX6_run 58 = .ok (.aload_n 0, 1) := by decide +kernel
theorem dX6_run_59 : decode cX6_run 59 = .ok (.getfield 19, 3) := by decide +kernel
theorem dX6_run_62 : decode cX6_run 62 = .ok (.iload_n 1, 1) := by decide +kernel
theorem dX6_run_63 : decode cX6_run 63 = .ok (.iload 4, 2) := by decide +kernel
theorem dX6_run_65 : decode cX6_run 65 = .ok (.aload_n 0, 1) := by decide +kernel
theorem dX6_run_66 : decode cX6_run 66 = .ok (.getfield 33, 3) := by decide +kernel
theorem dX6_run_69 : decode cX6_run 69 = .ok (.iload 5, 2) := by decide +kernel
theorem dX6_run_71 : decode cX6_run 71 = .ok (.aload_n 0, 1) := by decide +kernel
theorem dX6_run_72 : decode cX6_run 72 = .ok (.getfield 19, 3) := by decide +kernel
theorem dX6_run_75 : decode cX6_run 75 = .ok (.invokevirtual 167, 3) := by decide +kernel
theorem dX6_run_78 : decode cX6_run 78 = .ok (.invokevirtual 175, 3) := by decide +kernel
theorem dX6_run_81 : decode cX6_run 81 = .ok (.invokevirtual 136, 3) := by decide +kernel
theorem dX6_run_84 : decode cX6_run 84 = .ok (.istore 4, 2) := by decide +kernel
theorem dX6_run_86 : decode cX6_run 86 = .ok (.iinc 5 1, 3) := by decide +kernel
theorem dX6_run_89 : decode cX6_run 89 = .ok (.goto (-37), 3) := by decide +kernel
theorem dX6_run_92 : decode cX6_run 92 = .ok (.iload 4, 2) := by decide +kernel
theorem dX6_run_94 : decode cX6_run 94 = .ok (.ireturn, 1) := by decide +kernel
set_option maxRecDepth 20000 in
theorem ggX6_least_X6_isHearing : GoodIn wsX6_least wsX6_isHearing := goodIn_r _ [7] (by decide +kernel) (by decide +kernel)
set_option maxRecDepth 20000 in
theorem gX6_least_X6_isHearing : GoodIn wsX6_least (va_wsS RX6 127 yX6_isHearing wsX6_isHearing) := goodIn_app (goodIn_of _ (by decide +kernel)) ggX6_least_X6_isHearing
set_option maxRecDepth 20000 in
theorem ggX6_least_X1_hasSet : GoodIn wsX6_least wsX1_hasSet := goodIn_r _ [12, 13, 14, 15, 11, 16, 17, 67, 68] (by decide +kernel) (by decide +kernel)
set_option maxRecDepth 20000 in
theorem gX6_least_X1_hasSet : GoodIn wsX6_least (wsV RX6 130 RX1 yX1_hasSet wsX1_hasSet) := goodIn_app (goodIn_of _ (by decide +kernel)) ggX6_least_X1_hasSet
set_option maxRecDepth 20000 in
theorem ggX6_least_X3_listen : GoodIn wsX6_least wsX3_listen := goodIn_r _ [22, 23, 24, 14, 15, 11, 16, 17, 25, 26, 27, 28, 29, 69, 70, 71, 72, 67, 68] (by decide +kernel) (by decide +kernel)
set_option maxRecDepth 20000 in
theorem gX6_least_X3_listen : GoodIn wsX6_least (wsV RX6 178 RX3 yX3_listen wsX3_listen) := goodIn_app (goodIn_of _ (by decide +kernel)) ggX6_least_X3_listen
set_option maxRecDepth 20000 in
theorem ggX6_least_X1_reachOf : GoodIn wsX6_least wsX1_reachOf := goodIn_r _ [33, 17, 34, 35, 36, 11, 37, 29, 67, 68] (by decide +kernel) (by decide +kernel)
set_option maxRecDepth 20000 in
theorem gX6_least_X1_reachOf : GoodIn wsX6_least (wsV RX6 124 RX1 yX1_reachOf wsX1_reachOf) := goodIn_app (goodIn_of _ (by decide +kernel)) ggX6_least_X1_reachOf
set_option maxRecDepth 20000 in
theorem ggX6_least_X3_findFewest : GoodIn wsX6_least wsX3_findFewest := goodIn_r _ [41, 42, 43, 44, 45, 21, 46, 23, 47, 48, 49, 50, 69, 70, 71, 72] (by decide +kernel) (by decide +kernel)
set_option maxRecDepth 20000 in
theorem gX6_least_X3_findFewest : GoodIn wsX6_least (wsV RX6 182 RX3 yX3_findFewest wsX3_findFewest) := goodIn_app (goodIn_of _ (by decide +kernel)) ggX6_least_X3_findFewest
set_option maxRecDepth 20000 in
theorem ggX6_least_X3_fewestFrom : GoodIn wsX6_least wsX3_fewestFrom := goodIn_r _ [54, 42, 69, 70, 71, 72] (by decide +kernel) (by decide +kernel)
set_option maxRecDepth 20000 in
theorem gX6_least_X3_fewestFrom : GoodIn wsX6_least (wsV RX6 186 RX3 yX3_fewestFrom wsX3_fewestFrom) := goodIn_app (goodIn_of _ (by decide +kernel)) ggX6_least_X3_fewestFrom
set_option maxRecDepth 20000 in
theorem ggX6_least_X3_firstSet : GoodIn wsX6_least wsX3_firstSet := goodIn_r _ [58, 42, 23, 69, 70, 71, 72] (by decide +kernel) (by decide +kernel)
set_option maxRecDepth 20000 in
theorem gX6_least_X3_firstSet : GoodIn wsX6_least (wsV RX6 189 RX3 yX3_firstSet wsX3_firstSet) := goodIn_app (goodIn_of _ (by decide +kernel)) ggX6_least_X3_firstSet
theorem dX6_least_0 : decode cX6_least 0 = .ok (.iload_n 1, 1) := by decide +kernel
theorem dX6_least_1 : decode cX6_least 1 = .ok (.invokestatic 127, 3) := by decide +kernel
theorem dX6_least_4 : decode cX6_least 4 = .ok (.ifCond .eq 27, 3) := by decide +kernel
theorem dX6_least_7 : decode cX6_least 7 = .ok (.iload_n 2, 1) := by decide +kernel
theorem dX6_least_8 : decode cX6_least 8 = .ok (.ifCond .eq 23, 3) := by decide +kernel
theorem dX6_least_11 : decode cX6_least 11 = .ok (.aload_n 0, 1) := by decide +kernel
theorem dX6_least_12 : decode cX6_least 12 = .ok (.getfield 19, 3) := by decide +kernel
theorem dX6_least_15 : decode cX6_least 15 = .ok (.iload_n 2, 1) := by decide +kernel
theorem dX6_least_16 : decode cX6_least 16 = .ok (.invokevirtual 130, 3) := by decide +kernel
theorem dX6_least_19 : decode cX6_least 19 = .ok (.ifCond .eq 12, 3) := by decide +kernel
theorem dX6_least_22 : decode cX6_least 22 = .ok (.iload_n 3, 1) := by decide +kernel
theorem dX6_least_23 : decode cX6_least 23 = .ok (.ifCond .lt 8, 3) := by decide +kernel
theorem dX6_least_26 : decode cX6_least 26 = .ok (.iload_n 3, 1) := by decide +kernel
theorem dX6_least_27 : decode cX6_least 27 = .ok (.iconst 1, 1) := by decide +kernel
theorem dX6_least_28 : decode cX6_least 28 = .ok (.if_icmp .le 6, 3) := by decide +kernel
theorem dX6_least_31 : decode cX6_least 31 = .ok (.ldc 57, 2) := by decide +kernel
theorem dX6_least_33 : decode cX6_least 33 = .ok (.ireturn, 1) := by decide +kernel
theorem dX6_least_34 : decode cX6_least 34 = .ok (.aload_n 0, 1) := by decide +kernel
theorem dX6_least_35 : decode cX6_least 35 = .ok (.getfield 40, 3) := by decide +kernel
theorem dX6_least_38 : decode cX6_least 38 = .ok (.aload_n 0, 1) := by decide +kernel
theorem dX6_least_39 : decode cX6_least 39 = .ok (.getfield 19, 3) := by decide +kernel
theorem dX6_least_42 : decode cX6_least 42 = .ok (.iload_n 1, 1) := by decide +kernel
theorem dX6_least_43 : decode cX6_least 43 = .ok (.invokevirtual 178, 3) := by decide +kernel
theorem dX6_least_46 : decode cX6_least 46 = .ok (.aload_n 0, 1) := by decide +kernel
theorem dX6_least_47 : decode cX6_least 47 = .ok (.getfield 40, 3) := by decide +kernel
theorem dX6_least_50 : decode cX6_least 50 = .ok (.iload_n 2, 1) := by decide +kernel
theorem dX6_least_51 : decode cX6_least 51 = .ok (.aload_n 0, 1) := by decide +kernel
theorem dX6_least_52 : decode cX6_least 52 = .ok (.getfield 19, 3) := by decide +kernel
theorem dX6_least_55 : decode cX6_least 55 = .ok (.iload_n 2, 1) := by decide +kernel
theorem dX6_least_56 : decode cX6_least 56 = .ok (.invokevirtual 124, 3) := by decide +kernel
theorem dX6_least_59 : decode cX6_least 59 = .ok (.invokevirtual 182, 3) := by decide +kernel
theorem dX6_least_62 : decode cX6_least 62 = .ok (.iload_n 3, 1) := by decide +kernel
theorem dX6_least_63 : decode cX6_least 63 = .ok (.ifCond .ne 14, 3) := by decide +kernel
theorem dX6_least_66 : decode cX6_least 66 = .ok (.aload_n 0, 1) := by decide +kernel
theorem dX6_least_67 : decode cX6_least 67 = .ok (.getfield 40, 3) := by decide +kernel
theorem dX6_least_70 : decode cX6_least 70 = .ok (.iload_n 2, 1) := by decide +kernel
theorem dX6_least_71 : decode cX6_least 71 = .ok (.invokevirtual 186, 3) := by decide +kernel
theorem dX6_least_74 : decode cX6_least 74 = .ok (.goto 11, 3) := by decide +kernel
theorem dX6_least_77 : decode cX6_least 77 = .ok (.aload_n 0, 1) := by decide +kernel
theorem dX6_least_78 : decode cX6_least 78 = .ok (.getfield 40, 3) := by decide +kernel
theorem dX6_least_81 : decode cX6_least 81 = .ok (.iload_n 2, 1) := by decide +kernel
theorem dX6_least_82 : decode cX6_least 82 = .ok (.invokevirtual 189, 3) := by decide +kernel
theorem dX6_least_85 : decode cX6_least 85 = .ok (.ireturn, 1) := by decide +kernel
set_option maxRecDepth 20000 in
theorem ggX6_jammed_X6_isHearing : GoodIn wsX6_jammed wsX6_isHearing := goodIn_r _ [9] (by decide +kernel) (by decide +kernel)
set_option maxRecDepth 20000 in
theorem gX6_jammed_X6_isHearing : GoodIn wsX6_jammed (va_wsS RX6 127 yX6_isHearing wsX6_isHearing) := goodIn_app (goodIn_of _ (by decide +kernel)) ggX6_jammed_X6_isHearing
set_option maxRecDepth 20000 in
theorem ggX6_jammed_X1_hasPost : GoodIn wsX6_jammed wsX1_hasPost := goodIn_r _ [14, 15, 80, 81] (by decide +kernel) (by decide +kernel)
set_option maxRecDepth 20000 in
theorem gX6_jammed_X1_hasPost : GoodIn wsX6_jammed (wsV RX6 109 RX1 yX1_hasPost wsX1_hasPost) := goodIn_app (goodIn_of _ (by decide +kernel)) ggX6_jammed_X1_hasPost
set_option maxRecDepth 20000 in
theorem ggX6_jammed_X5_size : GoodIn wsX6_jammed wsX5_size := goodIn_r _ [20, 21, 82, 83] (by decide +kernel) (by decide +kernel)
set_option maxRecDepth 20000 in
theorem gX6_jammed_X5_size : GoodIn wsX6_jammed (wsV RX6 163 RX5 yX5_size wsX5_size) := goodIn_app (goodIn_of _ (by decide +kernel)) ggX6_jammed_X5_size
set_option maxRecDepth 20000 in
theorem ggX6_jammed_X3_listen : GoodIn wsX6_jammed wsX3_listen := goodIn_r _ [26, 27, 28, 29, 30, 13, 31, 15, 32, 33, 34, 35, 36, 84, 85, 86, 87, 80, 81] (by decide +kernel) (by decide +kernel)
set_option maxRecDepth 20000 in
theorem gX6_jammed_X3_listen : GoodIn wsX6_jammed (wsV RX6 178 RX3 yX3_listen wsX3_listen) := goodIn_app (goodIn_of _ (by decide +kernel)) ggX6_jammed_X3_listen
set_option maxRecDepth 20000 in
theorem ggX6_jammed_X3_worstRounds : GoodIn wsX6_jammed wsX3_worstRounds := goodIn_r _ [40, 41, 42, 43, 44, 45, 13, 46, 15, 47, 48, 49, 50, 36, 51, 52, 53, 54, 28, 29, 30, 31, 55, 56, 57, 19, 58, 21, 59, 60, 61, 62, 63, 64, 65, 66, 25, 67, 27, 68, 69, 70, 71, 84, 85, 86, 87, 80, 81, 82, 83] (by decide +kernel) (by decide +kernel)
set_option maxRecDepth 20000 in
theorem gX6_jammed_X3_worstRounds : GoodIn wsX6_jammed (wsV RX6 192 RX3 yX3_worstRounds wsX3_worstRounds) := goodIn_app (goodIn_of _ (by decide +kernel)) ggX6_jammed_X3_worstRounds
theorem dX6_jammed_0 : decode cX6_jammed 0 = .ok (.iload_n 1, 1) := by decide +kernel
theorem dX6_jammed_1 : decode cX6_jammed 1 = .ok (.invokestatic 127, 3) := by decide +kernel
theorem dX6_jammed_4 : decode cX6_jammed 4 = .ok (.ifCond .eq 23, 3) := by decide +kernel
theorem dX6_jammed_7 : decode cX6_jammed 7 = .ok (.aload_n 0, 1) := by decide +kernel
theorem dX6_jammed_8 : decode cX6_jammed 8 = .ok (.getfield 19, 3) := by decide +kernel
theorem dX6_jammed_11 : decode cX6_jammed 11 = .ok (.iload_n 2, 1) := by decide +kernel
theorem dX6_jammed_12 : decode cX6_jammed 12 = .ok (.invokevirtual 109, 3) := by decide +kernel
theorem dX6_jammed_15 : decode cX6_jammed 15 = .ok (.ifCond .eq 12, 3) := by decide +kernel
theorem dX6_jammed_18 : decode cX6_jammed 18 = .ok (.iload_n 3, 1) := by decide +kernel
theorem dX6_jammed_19 : decode cX6_jammed 19 = .ok (.ifCond .lt 8, 3) := by decide +kernel
theorem dX6_jammed_22 : decode cX6_jammed 22 = .ok (.iload_n 3, 1) := by decide +kernel
theorem dX6_jammed_23 : decode cX6_jammed 23 = .ok (.iconst 5, 1) := by decide +kernel
theorem dX6_jammed_24 : decode cX6_jammed 24 = .ok (.if_icmp .le 6, 3) := by decide +kernel
theorem dX6_jammed_27 : decode cX6_jammed 27 = .ok (.ldc 57, 2) := by decide +kernel
theorem dX6_jammed_29 : decode cX6_jammed 29 = .ok (.ireturn, 1) := by decide +kernel
theorem dX6_jammed_30 : decode cX6_jammed 30 = .ok (.aload_n 0, 1) := by decide +kernel
theorem dX6_jammed_31 : decode cX6_jammed 31 = .ok (.getfield 33, 3) := by decide +kernel
theorem dX6_jammed_34 : decode cX6_jammed 34 = .ok (.invokevirtual 163, 3) := by decide +kernel
theorem dX6_jammed_37 : decode cX6_jammed 37 = .ok (.ifCond .ne 6, 3) := by decide +kernel
theorem dX6_jammed_40 : decode cX6_jammed 40 = .ok (.ldc 174, 2) := by decide +kernel
theorem dX6_jammed_42 : decode cX6_jammed 42 = .ok (.ireturn, 1) := by decide +kernel
theorem dX6_jammed_43 : decode cX6_jammed 43 = .ok (.aload_n 0, 1) := by decide +kernel
theorem dX6_jammed_44 : decode cX6_jammed 44 = .ok (.getfield 40, 3) := by decide +kernel
theorem dX6_jammed_47 : decode cX6_jammed 47 = .ok (.aload_n 0, 1) := by decide +kernel
theorem dX6_jammed_48 : decode cX6_jammed 48 = .ok (.getfield 19, 3) := by decide +kernel
theorem dX6_jammed_51 : decode cX6_jammed 51 = .ok (.iload_n 1, 1) := by decide +kernel
theorem dX6_jammed_52 : decode cX6_jammed 52 = .ok (.invokevirtual 178, 3) := by decide +kernel
theorem dX6_jammed_55 : decode cX6_jammed 55 = .ok (.aload_n 0, 1) := by decide +kernel
theorem dX6_jammed_56 : decode cX6_jammed 56 = .ok (.getfield 40, 3) := by decide +kernel
theorem dX6_jammed_59 : decode cX6_jammed 59 = .ok (.aload_n 0, 1) := by decide +kernel
theorem dX6_jammed_60 : decode cX6_jammed 60 = .ok (.getfield 19, 3) := by decide +kernel
theorem dX6_jammed_63 : decode cX6_jammed 63 = .ok (.aload_n 0, 1) := by decide +kernel
theorem dX6_jammed_64 : decode cX6_jammed 64 = .ok (.getfield 33, 3) := by decide +kernel
theorem dX6_jammed_67 : decode cX6_jammed 67 = .ok (.iload_n 2, 1) := by decide +kernel
theorem dX6_jammed_68 : decode cX6_jammed 68 = .ok (.iload_n 3, 1) := by decide +kernel
theorem dX6_jammed_69 : decode cX6_jammed 69 = .ok (.invokevirtual 192, 3) := by decide +kernel
theorem dX6_jammed_72 : decode cX6_jammed 72 = .ok (.ireturn, 1) := by decide +kernel
set_option maxRecDepth 20000 in
theorem ggX6_draws_X6_isHearing : GoodIn wsX6_draws wsX6_isHearing := goodIn_r _ [7] (by decide +kernel) (by decide +kernel)
set_option maxRecDepth 20000 in
theorem gX6_draws_X6_isHearing : GoodIn wsX6_draws (va_wsS RX6 127 yX6_isHearing wsX6_isHearing) := goodIn_app (goodIn_of _ (by decide +kernel)) ggX6_draws_X6_isHearing
set_option maxRecDepth 20000 in
theorem ggX6_draws_X1_hasPost : GoodIn wsX6_draws wsX1_hasPost := goodIn_r _ [12, 13, 73, 74] (by decide +kernel) (by decide +kernel)
set_option maxRecDepth 20000 in
theorem gX6_draws_X1_hasPost : GoodIn wsX6_draws (wsV RX6 109 RX1 yX1_hasPost wsX1_hasPost) := goodIn_app (goodIn_of _ (by decide +kernel)) ggX6_draws_X1_hasPost
set_option maxRecDepth 20000 in
theorem ggX6_draws_X3_listen : GoodIn wsX6_draws wsX3_listen := goodIn_r _ [18, 19, 20, 21, 22, 11, 23, 13, 24, 25, 26, 27, 28, 75, 76, 77, 78, 73, 74] (by decide +kernel) (by decide +kernel)
set_option maxRecDepth 20000 in
theorem gX6_draws_X3_listen : GoodIn wsX6_draws (wsV RX6 178 RX3 yX3_listen wsX3_listen) := goodIn_app (goodIn_of _ (by decide +kernel)) ggX6_draws_X3_listen
set_option maxRecDepth 20000 in
theorem ggX6_draws_X3_casesThatReachAll : GoodIn wsX6_draws wsX3_casesThatReachAll := goodIn_r _ [32, 33, 34, 35, 36, 11, 37, 13, 38, 39, 40, 41, 28, 42, 43, 44, 45, 46, 47, 48, 49, 50, 51, 52, 17, 53, 54, 55, 56, 57, 19, 58, 59, 60, 61, 62, 63, 64, 75, 76, 77, 78, 73, 74] (by decide +kernel) (by decide +kernel)
set_option maxRecDepth 20000 in
theorem gX6_draws_X3_casesThatReachAll : GoodIn wsX6_draws (wsV RX6 198 RX3 yX3_casesThatReachAll wsX3_casesThatReachAll) := goodIn_app (goodIn_of _ (by decide +kernel)) ggX6_draws_X3_casesThatReachAll
theorem dX6_draws_0 : decode cX6_draws 0 = .ok (.iload_n 1, 1) := by decide +kernel
theorem dX6_draws_1 : decode cX6_draws 1 = .ok (.invokestatic 127, 3) := by decide +kernel
theorem dX6_draws_4 : decode cX6_draws 4 = .ok (.ifCond .eq 24, 3) := by decide +kernel
theorem dX6_draws_7 : decode cX6_draws 7 = .ok (.aload_n 0, 1) := by decide +kernel
theorem dX6_draws_8 : decode cX6_draws 8 = .ok (.getfield 19, 3) := by decide +kernel
theorem dX6_draws_11 : decode cX6_draws 11 = .ok (.iload_n 2, 1) := by decide +kernel
theorem dX6_draws_12 : decode cX6_draws 12 = .ok (.invokevirtual 109, 3) := by decide +kernel
theorem dX6_draws_15 : decode cX6_draws 15 = .ok (.ifCond .eq 13, 3) := by decide +kernel
theorem dX6_draws_18 : decode cX6_draws 18 = .ok (.iload_n 3, 1) := by decide +kernel
theorem dX6_draws_19 : decode cX6_draws 19 = .ok (.ifCond .lt 9, 3) := by decide +kernel
theorem dX6_draws_22 : decode cX6_draws 22 = .ok (.iload_n 3, 1) := by decide +kernel
theorem dX6_draws_23 : decode cX6_draws 23 = .ok (.bipush 7, 2) := by decide +kernel
theorem dX6_draws_25 : decode cX6_draws 25 = .ok (.if_icmp .le 7, 3) := by decide +kernel
theorem dX6_draws_28 : decode cX6_draws 28 = .ok (.ldc2_w 196, 3) := by decide +kernel
theorem dX6_draws_31 : decode cX6_draws 31 = .ok (.lreturn, 1) := by decide +kernel
theorem dX6_draws_32 : decode cX6_draws 32 = .ok (.aload_n 0, 1) := by decide +kernel
theorem dX6_draws_33 : decode cX6_draws 33 = .ok (.getfield 40, 3) := by decide +kernel
theorem dX6_draws_36 : decode cX6_draws 36 = .ok (.aload_n 0, 1) := by decide +kernel
theorem dX6_draws_37 : decode cX6_draws 37 = .ok (.getfield 19, 3) := by decide +kernel
theorem dX6_draws_40 : decode cX6_draws 40 = .ok (.iload_n 1, 1) := by decide +kernel
theorem dX6_draws_41 : decode cX6_draws 41 = .ok (.invokevirtual 178, 3) := by decide +kernel
theorem dX6_draws_44 : decode cX6_draws 44 = .ok (.aload_n 0, 1) := by decide +kernel
theorem dX6_draws_45 : decode cX6_draws 45 = .ok (.getfield 40, 3) := by decide +kernel
theorem dX6_draws_48 : decode cX6_draws 48 = .ok (.aload_n 0, 1) := by decide +kernel
theorem dX6_draws_49 : decode cX6_draws 49 = .ok (.getfield 19, 3) := by decide +kernel
theorem dX6_draws_52 : decode cX6_draws 52 = .ok (.iload_n 2, 1) := by decide +kernel
theorem dX6_draws_53 : decode cX6_draws 53 = .ok (.iload_n 3, 1) := by decide +kernel
theorem dX6_draws_54 : decode cX6_draws 54 = .ok (.invokevirtual 198, 3) := by decide +kernel
theorem dX6_draws_57 : decode cX6_draws 57 = .ok (.lreturn, 1) := by decide +kernel
set_option maxRecDepth 20000 in
theorem ggX6_picks_X6_isSheet : GoodIn wsX6_picks wsX6_isSheet := goodIn_r _ [9] (by decide +kernel) (by decide +kernel)
set_option maxRecDepth 20000 in
theorem gX6_picks_X6_isSheet : GoodIn wsX6_picks (va_wsS RX6 53 yX6_isSheet wsX6_isSheet) := goodIn_app (goodIn_of _ (by decide +kernel)) ggX6_picks_X6_isSheet
set_option maxRecDepth 20000 in
theorem ggX6_picks_X4_findPlaces : GoodIn wsX6_picks wsX4_findPlaces := goodIn_r _ [14, 15, 16, 17, 13, 18, 19, 20, 21, 22, 23, 24, 57, 58, 59] (by decide +kernel) (by decide +kernel)
set_option maxRecDepth 20000 in
theorem gX6_picks_X4_findPlaces : GoodIn wsX6_picks (wsV RX6 67 RX4 yX4_findPlaces wsX4_findPlaces) := goodIn_app (goodIn_of _ (by decide +kernel)) ggX6_picks_X4_findPlaces
set_option maxRecDepth 20000 in
theorem ggX6_picks_X6_firstUnpicked : GoodIn wsX6_picks wsX6_firstUnpicked := goodIn_r _ [28, 29, 2, 5, 30, 31, 32, 33, 34, 35, 36, 37, 38, 39, 40, 41, 42, 43, 44, 45, 13, 46, 47, 48, 49, 50, 51, 52, 53, 54, 55, 56, 60, 61, 57, 58, 59] (by decide +kernel) (by decide +kernel)
set_option maxRecDepth 20000 in
theorem gX6_picks_X6_firstUnpicked : GoodIn wsX6_picks (wsV RX6 202 RX6 yX6_firstUnpicked wsX6_firstUnpicked) := goodIn_app (goodIn_of _ (by decide +kernel)) ggX6_picks_X6_firstUnpicked
theorem dX6_picks_0 : decode cX6_picks 0 = .ok (.iload_n 1, 1) := by decide +kernel
end
section
theorem dX6_picks_1 : decode cX6_picks 1 = .ok (.invokestatic 53, 3) := by decide +kernel
theorem dX6_picks_4 : decode cX6_picks 4 = .ok (.ifCond .eq 37, 3) := by decide +kernel
theorem dX6_picks_7 : decode cX6_picks 7 = .ok (.iload_n 3, 1) := by decide +kernel
theorem dX6_picks_8 : decode cX6_picks 8 = .ok (.iconst 1, 1) := by decide +kernel
theorem dX6_picks_9 : decode cX6_picks 9 = .ok (.if_icmp .lt 32, 3) := by decide +kernel
theorem dX6_picks_12 : decode cX6_picks 12 = .ok (.iload_n 3, 1) := by decide +kernel
theorem dX6_picks_13 : decode cX6_picks 13 = .ok (.bipush 40, 2) := by decide +kernel
theorem dX6_picks_15 : decode cX6_picks 15 = .ok (.if_icmp .gt 26, 3) := by decide +kernel
theorem dX6_picks_18 : decode cX6_picks 18 = .ok (.iload 4, 2) := by decide +kernel
theorem dX6_picks_20 : decode cX6_picks 20 = .ok (.iconst 1, 1) := by decide +kernel
theorem dX6_picks_21 : decode cX6_picks 21 = .ok (.if_icmp .lt 20, 3) := by decide +kernel
theorem dX6_picks_24 : decode cX6_picks 24 = .ok (.iload 4, 2) := by decide +kernel
theorem dX6_picks_26 : decode cX6_picks 26 = .ok (.iconst 4, 1) := by decide +kernel
theorem dX6_picks_27 : decode cX6_picks 27 = .ok (.if_icmp .gt 14, 3) := by decide +kernel
theorem dX6_picks_30 : decode cX6_picks 30 = .ok (.iload 5, 2) := by decide +kernel
theorem dX6_picks_32 : decode cX6_picks 32 = .ok (.ifCond .lt 9, 3) := by decide +kernel
theorem dX6_picks_35 : decode cX6_picks 35 = .ok (.iload 5, 2) := by decide +kernel
theorem dX6_picks_37 : decode cX6_picks 37 = .ok (.iconst 1, 1) := by decide +kernel
theorem dX6_picks_38 : decode cX6_picks 38 = .ok (.if_icmp .le 6, 3) := by decide +kernel
theorem dX6_picks_41 : decode cX6_picks 41 = .ok (.ldc 57, 2) := by decide +kernel
theorem dX6_picks_43 : decode cX6_picks 43 = .ok (.ireturn, 1) := by decide +kernel
theorem dX6_picks_44 : decode cX6_picks 44 = .ok (.aload_n 0, 1) := by decide +kernel
theorem dX6_picks_45 : decode cX6_picks 45 = .ok (.aload_n 0, 1) := by decide +kernel
theorem dX6_picks_46 : decode cX6_picks 46 = .ok (.getfield 10, 3) := by decide +kernel
theorem dX6_picks_49 : decode cX6_picks 49 = .ok (.iload_n 1, 1) := by decide +kernel
theorem dX6_picks_50 : decode cX6_picks 50 = .ok (.iload_n 2, 1) := by decide +kernel
theorem dX6_picks_51 : decode cX6_picks 51 = .ok (.iload_n 3, 1) := by decide +kernel
theorem dX6_picks_52 : decode cX6_picks 52 = .ok (.invokevirtual 67, 3) := by decide +kernel
theorem dX6_picks_55 : decode cX6_picks 55 = .ok (.putfield 58, 3) := by decide +kernel
theorem dX6_picks_58 : decode cX6_picks 58 = .ok (.aload_n 0, 1) := by decide +kernel
theorem dX6_picks_59 : decode cX6_picks 59 = .ok (.getfield 58, 3) := by decide +kernel
theorem dX6_picks_62 : decode cX6_picks 62 = .ok (.ifCond .eq 11, 3) := by decide +kernel
theorem dX6_picks_65 : decode cX6_picks 65 = .ok (.ldc 62, 2) := by decide +kernel
theorem dX6_picks_67 : decode cX6_picks 67 = .ok (.aload_n 0, 1) := by decide +kernel
theorem dX6_picks_68 : decode cX6_picks 68 = .ok (.getfield 58, 3) := by decide +kernel
theorem dX6_picks_71 : decode cX6_picks 71 = .ok (.isub, 1) := by decide +kernel
theorem dX6_picks_72 : decode cX6_picks 72 = .ok (.ireturn, 1) := by decide +kernel
theorem dX6_picks_73 : decode cX6_picks 73 = .ok (.aload_n 0, 1) := by decide +kernel
theorem dX6_picks_74 : decode cX6_picks 74 = .ok (.iload_n 1, 1) := by decide +kernel
theorem dX6_picks_75 : decode cX6_picks 75 = .ok (.iload_n 2, 1) := by decide +kernel
theorem dX6_picks_76 : decode cX6_picks 76 = .ok (.iload_n 3, 1) := by decide +kernel
theorem dX6_picks_77 : decode cX6_picks 77 = .ok (.iload 4, 2) := by decide +kernel
theorem dX6_picks_79 : decode cX6_picks 79 = .ok (.invokevirtual 202, 3) := by decide +kernel
theorem dX6_picks_82 : decode cX6_picks 82 = .ok (.istore 6, 2) := by decide +kernel
theorem dX6_picks_84 : decode cX6_picks 84 = .ok (.iload 5, 2) := by decide +kernel
theorem dX6_picks_86 : decode cX6_picks 86 = .ok (.iconst 1, 1) := by decide +kernel
theorem dX6_picks_87 : decode cX6_picks 87 = .ok (.if_icmp .ne 6, 3) := by decide +kernel
theorem dX6_picks_90 : decode cX6_picks 90 = .ok (.iload 6, 2) := by decide +kernel
theorem dX6_picks_92 : decode cX6_picks 92 = .ok (.ireturn, 1) := by decide +kernel
theorem dX6_picks_93 : decode cX6_picks 93 = .ok (.iload 6, 2) := by decide +kernel
theorem dX6_picks_95 : decode cX6_picks 95 = .ok (.ldc 173, 2) := by decide +kernel
theorem dX6_picks_97 : decode cX6_picks 97 = .ok (.if_icmp .ne 7, 3) := by decide +kernel
theorem dX6_picks_100 : decode cX6_picks 100 = .ok (.iconst 1, 1) := by decide +kernel
theorem dX6_picks_101 : decode cX6_picks 101 = .ok (.goto 4, 3) := by decide +kernel
theorem dX6_picks_104 : decode cX6_picks 104 = .ok (.iconst 0, 1) := by decide +kernel
theorem dX6_picks_105 : decode cX6_picks 105 = .ok (.ireturn, 1) := by decide +kernel
set_option maxRecDepth 20000 in
theorem ggX6_kind_X1_hasPost : GoodIn wsX6_kind wsX1_hasPost := goodIn_r _ [7, 8, 41, 42] (by decide +kernel) (by decide +kernel)
set_option maxRecDepth 20000 in
theorem gX6_kind_X1_hasPost : GoodIn wsX6_kind (wsV RX6 109 RX1 yX1_hasPost wsX1_hasPost) := goodIn_app (goodIn_of _ (by decide +kernel)) ggX6_kind_X1_hasPost
set_option maxRecDepth 20000 in
theorem ggX6_kind_X1_kindOf : GoodIn wsX6_kind wsX1_kindOf := goodIn_r _ [12, 13, 14, 15, 6, 16, 17, 18, 19, 20, 21, 22, 23, 24, 25, 26, 27, 28, 8, 29, 30, 31, 32, 41, 42] (by decide +kernel) (by decide +kernel)
set_option maxRecDepth 20000 in
theorem gX6_kind_X1_kindOf : GoodIn wsX6_kind (wsV RX6 206 RX1 yX1_kindOf wsX1_kindOf) := goodIn_app (goodIn_of _ (by decide +kernel)) ggX6_kind_X1_kindOf
theorem dX6_kind_0 : decode cX6_kind 0 = .ok (.aload_n 0, 1) := by decide +kernel
theorem dX6_kind_1 : decode cX6_kind 1 = .ok (.getfield 19, 3) := by decide +kernel
theorem dX6_kind_4 : decode cX6_kind 4 = .ok (.iload_n 1, 1) := by decide +kernel
theorem dX6_kind_5 : decode cX6_kind 5 = .ok (.invokevirtual 109, 3) := by decide +kernel
theorem dX6_kind_8 : decode cX6_kind 8 = .ok (.ifCond .eq 14, 3) := by decide +kernel
theorem dX6_kind_11 : decode cX6_kind 11 = .ok (.aload_n 0, 1) := by decide +kernel
theorem dX6_kind_12 : decode cX6_kind 12 = .ok (.getfield 19, 3) := by decide +kernel
theorem dX6_kind_15 : decode cX6_kind 15 = .ok (.iload_n 1, 1) := by decide +kernel
theorem dX6_kind_16 : decode cX6_kind 16 = .ok (.invokevirtual 206, 3) := by decide +kernel
theorem dX6_kind_19 : decode cX6_kind 19 = .ok (.goto 5, 3) := by decide +kernel
theorem dX6_kind_22 : decode cX6_kind 22 = .ok (.ldc 57, 2) := by decide +kernel
theorem dX6_kind_24 : decode cX6_kind 24 = .ok (.ireturn, 1) := by decide +kernel
set_option maxRecDepth 20000 in
theorem ggX6_as_X1_hasPost : GoodIn wsX6_as wsX1_hasPost := goodIn_r _ [9, 10, 48, 49] (by decide +kernel) (by decide +kernel)
set_option maxRecDepth 20000 in
theorem gX6_as_X1_hasPost : GoodIn wsX6_as (wsV RX6 109 RX1 yX1_hasPost wsX1_hasPost) := goodIn_app (goodIn_of _ (by decide +kernel)) ggX6_as_X1_hasPost
set_option maxRecDepth 20000 in
theorem ggX6_as_X1_isOfKind : GoodIn wsX6_as wsX1_isOfKind := goodIn_r _ [14, 15, 16, 17, 8, 18, 19, 20, 21, 22, 23, 24, 25, 26, 27, 28, 29, 30, 31, 32, 33, 34, 10, 35, 36, 37, 38, 48, 49] (by decide +kernel) (by decide +kernel)
set_option maxRecDepth 20000 in
theorem gX6_as_X1_isOfKind : GoodIn wsX6_as (wsV RX6 209 RX1 yX1_isOfKind wsX1_isOfKind) := goodIn_app (goodIn_of _ (by decide +kernel)) ggX6_as_X1_isOfKind
set_option maxRecDepth 20000 in
theorem ggX6_as_X1_degree : GoodIn wsX6_as wsX1_degree := goodIn_r _ [22, 23, 24, 25, 26, 27, 28, 29, 30, 48, 49] (by decide +kernel) (by decide +kernel)
set_option maxRecDepth 20000 in
theorem gX6_as_X1_degree : GoodIn wsX6_as (wsV RX6 115 RX1 yX1_degree wsX1_degree) := goodIn_app (goodIn_of _ (by decide +kernel)) ggX6_as_X1_degree
theorem dX6_as_0 : decode cX6_as 0 = .ok (.aload_n 0, 1) := by decide +kernel
theorem dX6_as_1 : decode cX6_as 1 = .ok (.getfield 19, 3) := by decide +kernel
theorem dX6_as_4 : decode cX6_as 4 = .ok (.iload_n 1, 1) := by decide +kernel
theorem dX6_as_5 : decode cX6_as 5 = .ok (.invokevirtual 109, 3) := by decide +kernel
theorem dX6_as_8 : decode cX6_as 8 = .ok (.ifCond .eq 12, 3) := by decide +kernel
theorem dX6_as_11 : decode cX6_as 11 = .ok (.iload_n 2, 1) := by decide +kernel
theorem dX6_as_12 : decode cX6_as 12 = .ok (.ifCond .lt 8, 3) := by decide +kernel
theorem dX6_as_15 : decode cX6_as 15 = .ok (.iload_n 2, 1) := by decide +kernel
theorem dX6_as_16 : decode cX6_as 16 = .ok (.iconst 4, 1) := by decide +kernel
theorem dX6_as_17 : decode cX6_as 17 = .ok (.if_icmp .le 6, 3) := by decide +kernel
theorem dX6_as_20 : decode cX6_as 20 = .ok (.ldc 57, 2) := by decide +kernel
theorem dX6_as_22 : decode cX6_as 22 = .ok (.ireturn, 1) := by decide +kernel
theorem dX6_as_23 : decode cX6_as 23 = .ok (.aload_n 0, 1) := by decide +kernel
theorem dX6_as_24 : decode cX6_as 24 = .ok (.aload_n 0, 1) := by decide +kernel
theorem dX6_as_25 : decode cX6_as 25 = .ok (.getfield 19, 3) := by decide +kernel
theorem dX6_as_28 : decode cX6_as 28 = .ok (.iload_n 1, 1) := by decide +kernel
theorem dX6_as_29 : decode cX6_as 29 = .ok (.iload_n 2, 1) := by decide +kernel
theorem dX6_as_30 : decode cX6_as 30 = .ok (.invokevirtual 209, 3) := by decide +kernel
theorem dX6_as_33 : decode cX6_as 33 = .ok (.ifCond .eq 7, 3) := by decide +kernel
theorem dX6_as_36 : decode cX6_as 36 = .ok (.iconst 0, 1) := by decide +kernel
theorem dX6_as_37 : decode cX6_as 37 = .ok (.goto 4, 3) := by decide +kernel
theorem dX6_as_40 : decode cX6_as 40 = .ok (.iconst 3, 1) := by decide +kernel
theorem dX6_as_41 : decode cX6_as 41 = .ok (.putfield 58, 3) := by decide +kernel
theorem dX6_as_44 : decode cX6_as 44 = .ok (.aload_n 0, 1) := by decide +kernel
theorem dX6_as_45 : decode cX6_as 45 = .ok (.getfield 58, 3) := by decide +kernel
theorem dX6_as_48 : decode cX6_as 48 = .ok (.ifCond .eq 13, 3) := by decide +kernel
theorem dX6_as_51 : decode cX6_as 51 = .ok (.ldc 62, 2) := by decide +kernel
theorem dX6_as_53 : decode cX6_as 53 = .ok (.aload_n 0, 1) := by decide +kernel
theorem dX6_as_54 : decode cX6_as 54 = .ok (.getfield 58, 3) := by decide +kernel
theorem dX6_as_57 : decode cX6_as 57 = .ok (.isub, 1) := by decide +kernel
theorem dX6_as_58 : decode cX6_as 58 = .ok (.goto 11, 3) := by decide +kernel
theorem dX6_as_61 : decode cX6_as 61 = .ok (.aload_n 0, 1) := by decide +kernel
theorem dX6_as_62 : decode cX6_as 62 = .ok (.getfield 19, 3) := by decide +kernel
theorem dX6_as_65 : decode cX6_as 65 = .ok (.iload_n 1, 1) := by decide +kernel
theorem dX6_as_66 : decode cX6_as 66 = .ok (.invokevirtual 115, 3) := by decide +kernel
theorem dX6_as_69 : decode cX6_as 69 = .ok (.ireturn, 1) := by decide +kernel
set_option maxRecDepth 20000 in
theorem ggX6_ask_X1_hasPost : GoodIn wsX6_ask wsX1_hasPost := goodIn_r _ [8, 9, 99, 100] (by decide +kernel) (by decide +kernel)
set_option maxRecDepth 20000 in
theorem gX6_ask_X1_hasPost : GoodIn wsX6_ask (wsV RX6 109 RX1 yX1_hasPost wsX1_hasPost) := goodIn_app (goodIn_of _ (by decide +kernel)) ggX6_ask_X1_hasPost
set_option maxRecDepth 20000 in
theorem ggX6_ask_X0_answer : GoodIn wsX6_ask wsX0_answer := goodIn_r _ [14, 15, 16, 17, 18, 13, 19, 20, 21, 22, 23, 7, 24, 25, 26, 27, 28, 29, 30, 31, 32, 33, 34, 35, 36, 37, 38, 39, 40, 9, 41, 42, 43, 44, 45, 46, 47, 48, 49, 50, 51, 52, 53, 54, 55, 56, 57, 58, 59, 60, 61, 62, 63, 64, 65, 66, 67, 68, 69, 70, 71, 72, 73, 74, 75, 76, 77, 78, 79, 80, 81, 82, 83, 84, 85, 86, 87, 88, 89, 90, 101, 102, 103, 99, 100] (by decide +kernel) (by decide +kernel)
set_option maxRecDepth 20000 in
theorem gX6_ask_X0_answer : GoodIn wsX6_ask (wsV RX6 212 RX0 yX0_answer wsX0_answer) := goodIn_app (goodIn_of _ (by decide +kernel)) ggX6_ask_X0_answer
theorem dX6_ask_0 : decode cX6_ask 0 = .ok (.aload_n 0, 1) := by decide +kernel
theorem dX6_ask_1 : decode cX6_ask 1 = .ok (.getfield 19, 3) := by decide +kernel
theorem dX6_ask_4 : decode cX6_ask 4 = .ok (.iload_n 1, 1) := by decide +kernel
theorem dX6_ask_5 : decode cX6_ask 5 = .ok (.invokevirtual 109, 3) := by decide +kernel
theorem dX6_ask_8 : decode cX6_ask 8 = .ok (.ifCond .eq 12, 3) := by decide +kernel
theorem dX6_ask_11 : decode cX6_ask 11 = .ok (.iload_n 2, 1) := by decide +kernel
theorem dX6_ask_12 : decode cX6_ask 12 = .ok (.ifCond .lt 8, 3) := by decide +kernel
theorem dX6_ask_15 : decode cX6_ask 15 = .ok (.iload_n 2, 1) := by decide +kernel
theorem dX6_ask_16 : decode cX6_ask 16 = .ok (.iconst 1, 1) := by decide +kernel
theorem dX6_ask_17 : decode cX6_ask 17 = .ok (.if_icmp .le 6, 3) := by decide +kernel
theorem dX6_ask_20 : decode cX6_ask 20 = .ok (.ldc 57, 2) := by decide +kernel
theorem dX6_ask_22 : decode cX6_ask 22 = .ok (.ireturn, 1) := by decide +kernel
theorem dX6_ask_23 : decode cX6_ask 23 = .ok (.aload_n 0, 1) := by decide +kernel
theorem dX6_ask_24 : decode cX6_ask 24 = .ok (.getfield 49, 3) := by decide +kernel
theorem dX6_ask_27 : decode cX6_ask 27 = .ok (.iload_n 1, 1) := by decide +kernel
theorem dX6_ask_28 : decode cX6_ask 28 = .ok (.iload_n 2, 1) := by decide +kernel
theorem dX6_ask_29 : decode cX6_ask 29 = .ok (.invokevirtual 212, 3) := by decide +kernel
theorem dX6_ask_32 : decode cX6_ask 32 = .ok (.ireturn, 1) := by decide +kernel
set_option maxRecDepth 20000 in
theorem ggX6_trace_X0_begunBody : GoodIn wsX6_trace wsX0_begunBody := goodIn_r _ [6, 7, 8, 9, 18, 19, 20] (by decide +kernel) (by decide +kernel)
set_option maxRecDepth 20000 in
theorem gX6_trace_X0_begunBody : GoodIn wsX6_trace (wsV RX6 215 RX0 yX0_begunBody wsX0_begunBody) := goodIn_app (goodIn_of _ (by decide +kernel)) ggX6_trace_X0_begunBody
theorem dX6_trace_0 : decode cX6_trace 0 = .ok (.aload_n 0, 1) := by decide +kernel
theorem dX6_trace_1 : decode cX6_trace 1 = .ok (.getfield 49, 3) := by decide +kernel
theorem dX6_trace_4 : decode cX6_trace 4 = .ok (.iload_n 1, 1) := by decide +kernel
theorem dX6_trace_5 : decode cX6_trace 5 = .ok (.invokevirtual 215, 3) := by decide +kernel
theorem dX6_trace_8 : decode cX6_trace 8 = .ok (.ireturn, 1) := by decide +kernel
set_option maxRecDepth 20000 in
theorem ggX6_count_X4_size : GoodIn wsX6_count wsX4_size := goodIn_r _ [10, 11, 12, 13, 9, 14, 15, 74, 75, 76] (by decide +kernel) (by decide +kernel)
set_option maxRecDepth 20000 in
theorem gX6_count_X4_size : GoodIn wsX6_count (wsV RX6 218 RX4 yX4_size wsX4_size) := goodIn_app (goodIn_of _ (by decide +kernel)) ggX6_count_X4_size
set_option maxRecDepth 20000 in
theorem ggX6_count_X1_size : GoodIn wsX6_count wsX1_size := goodIn_r _ [20, 21, 77, 78] (by decide +kernel) (by decide +kernel)
set_option maxRecDepth 20000 in
theorem gX6_count_X1_size : GoodIn wsX6_count (wsV RX6 146 RX1 yX1_size wsX1_size) := goodIn_app (goodIn_of _ (by decide +kernel)) ggX6_count_X1_size
set_option maxRecDepth 20000 in
theorem ggX6_count_X1_pairs : GoodIn wsX6_count wsX1_pairs := goodIn_r _ [25, 21, 26, 27, 28, 19, 29, 30, 31, 32, 33, 34, 35, 36, 37, 77, 78] (by decide +kernel) (by decide +kernel)
set_option maxRecDepth 20000 in
theorem gX6_count_X1_pairs : GoodIn wsX6_count (wsV RX6 219 RX1 yX1_pairs wsX1_pairs) := goodIn_app (goodIn_of _ (by decide +kernel)) ggX6_count_X1_pairs
set_option maxRecDepth 20000 in
theorem ggX6_count_X5_size : GoodIn wsX6_count wsX5_size := goodIn_r _ [42, 43, 79, 80] (by decide +kernel) (by decide +kernel)
set_option maxRecDepth 20000 in
theorem gX6_count_X5_size : GoodIn wsX6_count (wsV RX6 163 RX5 yX5_size wsX5_size) := goodIn_app (goodIn_of _ (by decide +kernel)) ggX6_count_X5_size
set_option maxRecDepth 20000 in
theorem ggX6_count_X1_countOf : GoodIn wsX6_count wsX1_countOf := goodIn_r _ [47, 21, 48, 49, 50, 19, 51, 26, 27, 28, 29, 30, 31, 32, 33, 34, 35, 36, 37, 52, 53, 54, 55, 56, 57, 58, 59, 77, 78] (by decide +kernel) (by decide +kernel)
set_option maxRecDepth 20000 in
theorem gX6_count_X1_countOf : GoodIn wsX6_count (wsV RX6 222 RX1 yX1_countOf wsX1_countOf) := goodIn_app (goodIn_of _ (by decide +kernel)) ggX6_count_X1_countOf
set_option maxRecDepth 20000 in
theorem ggX6_count_X2_size : GoodIn wsX6_count wsX2_size := goodIn_r _ [64, 65, 81, 82, 83, 84, 85, 86, 87, 88] (by decide +kernel) (by decide +kernel)
set_option maxRecDepth 20000 in
theorem gX6_count_X2_size : GoodIn wsX6_count (wsV RX6 225 RX2 yX2_size wsX2_size) := goodIn_app (goodIn_of _ (by decide +kernel)) ggX6_count_X2_size
theorem dX6_count_0 : decode cX6_count 0 = .ok (.iload_n 1, 1) := by decide +kernel
theorem dX6_count_1 : decode cX6_count 1 = .ok (.tableswitch 114 0 7 #[47, 55, 63, 71, 79, 88, 97, 106], 47) := by decide +kernel
theorem dX6_count_48 : decode cX6_count 48 = .ok (.aload_n 0, 1) := by decide +kernel
theorem dX6_count_49 : decode cX6_count 49 = .ok (.getfield 10, 3) := by decide +kernel
theorem dX6_count_52 : decode cX6_count 52 = .ok (.invokevirtual 218, 3) := by decide +kernel
theorem dX6_count_55 : decode cX6_count 55 = .ok (.ireturn, 1) := by decide +kernel
theorem dX6_count_56 : decode cX6_count 56 = .ok (.aload_n 0, 1) := by decide +kernel
theorem dX6_count_57 : decode cX6_count 57 = .ok (.getfield 19, 3) := by decide +kernel
theorem dX6_count_60 : decode cX6_count 60 = .ok (.invokevirtual 146, 3) := by decide +kernel
theorem dX6_count_63 : decode cX6_count 63 = .ok (.ireturn, 1) := by decide +kernel
theorem dX6_count_64 : decode cX6_count 64 = .ok (.aload_n 0, 1) := by decide +kernel
theorem dX6_count_65 : decode cX6_count 65 = .ok (.getfield 19, 3) := by decide +kernel
theorem dX6_count_68 : decode cX6_count 68 = .ok (.invokevirtual 219, 3) := by decide +kernel
theorem dX6_count_71 : decode cX6_count 71 = .ok (.ireturn, 1) := by decide +kernel
theorem dX6_count_72 : decode cX6_count 72 = .ok (.aload_n 0, 1) := by decide +kernel
theorem dX6_count_73 : decode cX6_count 73 = .ok (.getfield 33, 3) := by decide +kernel
theorem dX6_count_76 : decode cX6_count 76 = .ok (.invokevirtual 163, 3) := by decide +kernel
theorem dX6_count_79 : decode cX6_count 79 = .ok (.ireturn, 1) := by decide +kernel
theorem dX6_count_80 : decode cX6_count 80 = .ok (.aload_n 0, 1) := by decide +kernel
theorem dX6_count_81 : decode cX6_count 81 = .ok (.getfield 19, 3) := by decide +kernel
theorem dX6_count_84 : decode cX6_count 84 = .ok (.iconst 2, 1) := by decide +kernel
theorem dX6_count_85 : decode cX6_count 85 = .ok (.invokevirtual 222, 3) := by decide +kernel
theorem dX6_count_88 : decode cX6_count 88 = .ok (.ireturn, 1) := by decide +kernel
theorem dX6_count_89 : decode cX6_count 89 = .ok (.aload_n 0, 1) := by decide +kernel
theorem dX6_count_90 : decode cX6_count 90 = .ok (.getfield 19, 3) := by decide +kernel
theorem dX6_count_93 : decode cX6_count 93 = .ok (.iconst 3, 1) := by decide +kernel
theorem dX6_count_94 : decode cX6_count 94 = .ok (.invokevirtual 222, 3) := by decide +kernel
theorem dX6_count_97 : decode cX6_count 97 = .ok (.ireturn, 1) := by decide +kernel
theorem dX6_count_98 : decode cX6_count 98 = .ok (.aload_n 0, 1) := by decide +kernel
theorem dX6_count_99 : decode cX6_count 99 = .ok (.getfield 19, 3) := by decide +kernel
theorem dX6_count_102 : decode cX6_count 102 = .ok (.iconst 4, 1) := by decide +kernel
theorem dX6_count_103 : decode cX6_count 103 = .ok (.invokevirtual 222, 3) := by decide +kernel
theorem dX6_count_106 : decode cX6_count 106 = .ok (.ireturn, 1) := by decide +kernel
theorem dX6_count_107 : decode cX6_count 107 = .ok (.aload_n 0, 1) := by decide +kernel
theorem dX6_count_108 : decode cX6_count 108 = .ok (.getfield 26, 3) := by decide +kernel
theorem dX6_count_111 : decode cX6_count 111 = .ok (.invokevirtual 225, 3) := by decide +kernel
theorem dX6_count_114 : decode cX6_count 114 = .ok (.ireturn, 1) := by decide +kernel
theorem dX6_count_115 : decode cX6_count 115 = .ok (.ldc 57, 2) := by decide +kernel
theorem dX6_count_117 : decode cX6_count 117 = .ok (.ireturn, 1) := by decide +kernel
theorem dX6_status_0 : decode cX6_status 0 = .ok (.aload_n 0, 1) := by decide +kernel
theorem dX6_status_1 : decode cX6_status 1 = .ok (.getfield 58, 3) := by decide +kernel
theorem dX6_status_4 : decode cX6_status 4 = .ok (.ireturn, 1) := by decide +kernel
theorem dX6_isSheet_0 : decode cX6_isSheet 0 = .ok (.iload_n 0, 1) := by decide +kernel
theorem dX6_isSheet_1 : decode cX6_isSheet 1 = .ok (.ifCond .lt 13, 3) := by decide +kernel
theorem dX6_isSheet_4 : decode cX6_isSheet 4 = .ok (.iload_n 0, 1) := by decide +kernel
theorem dX6_isSheet_5 : decode cX6_isSheet 5 = .ok (.bipush 8, 2) := by decide +kernel
theorem dX6_isSheet_7 : decode cX6_isSheet 7 = .ok (.if_icmp .ge 7, 3) := by decide +kernel
theorem dX6_isSheet_10 : decode cX6_isSheet 10 = .ok (.iconst 1, 1) := by decide +kernel
theorem dX6_isSheet_11 : decode cX6_isSheet 11 = .ok (.goto 4, 3) := by decide +kernel
theorem dX6_isSheet_14 : decode cX6_isSheet 14 = .ok (.iconst 0, 1) := by decide +kernel
theorem dX6_isSheet_15 : decode cX6_isSheet 15 = .ok (.ireturn, 1) := by decide +kernel
theorem dX6_isHearing_0 : decode cX6_isHearing 0 = .ok (.iload_n 0, 1) := by decide +kernel
theorem dX6_isHearing_1 : decode cX6_isHearing 1 = .ok (.ifCond .eq 8, 3) := by decide +kernel
theorem dX6_isHearing_4 : decode cX6_isHearing 4 = .ok (.iload_n 0, 1) := by decide +kernel
theorem dX6_isHearing_5 : decode cX6_isHearing 5 = .ok (.iconst 1, 1) := by decide +kernel
theorem dX6_isHearing_6 : decode cX6_isHearing 6 = .ok (.if_icmp .ne 7, 3) := by decide +kernel
theorem dX6_isHearing_9 : decode cX6_isHearing 9 = .ok (.iconst 1, 1) := by decide +kernel
theorem dX6_isHearing_10 : decode cX6_isHearing 10 = .ok (.goto 4, 3) := by decide +kernel
theorem dX6_isHearing_13 : decode cX6_isHearing 13 = .ok (.iconst 0, 1) := by decide +kernel
theorem dX6_isHearing_14 : decode cX6_isHearing 14 = .ok (.ireturn, 1) := by decide +kernel
set_option maxRecDepth 20000 in
theorem ggX6_isPair_X1_hasPost : GoodIn wsX6_isPair wsX1_hasPost := goodIn_r _ [6, 7, 16, 17] (by decide +kernel) (by decide +kernel)
set_option maxRecDepth 20000 in
theorem gX6_isPair_X1_hasPost : GoodIn wsX6_isPair (wsV RX6 109 RX1 yX1_hasPost wsX1_hasPost) := goodIn_app (goodIn_of _ (by decide +kernel)) ggX6_isPair_X1_hasPost
theorem dX6_isPair_0 : decode cX6_isPair 0 = .ok (.aload_n 0, 1) := by decide +kernel
theorem dX6_isPair_1 : decode cX6_isPair 1 = .ok (.getfield 19, 3) := by decide +kernel
theorem dX6_isPair_4 : decode cX6_isPair 4 = .ok (.iload_n 1, 1) := by decide +kernel
theorem dX6_isPair_5 : decode cX6_isPair 5 = .ok (.invokevirtual 109, 3) := by decide +kernel
theorem dX6_isPair_8 : decode cX6_isPair 8 = .ok (.ifCond .eq 23, 3) := by decide +kernel
theorem dX6_isPair_11 : decode cX6_isPair 11 = .ok (.aload_n 0, 1) := by decide +kernel
theorem dX6_isPair_12 : decode cX6_isPair 12 = .ok (.getfield 19, 3) := by decide +kernel
theorem dX6_isPair_15 : decode cX6_isPair 15 = .ok (.iload_n 2, 1) := by decide +kernel
theorem dX6_isPair_16 : decode cX6_isPair 16 = .ok (.invokevirtual 109, 3) := by decide +kernel
theorem dX6_isPair_19 : decode cX6_isPair 19 = .ok (.ifCond .eq 12, 3) := by decide +kernel
theorem dX6_isPair_22 : decode cX6_isPair 22 = .ok (.iload_n 1, 1) := by decide +kernel
theorem dX6_isPair_23 : decode cX6_isPair 23 = .ok (.iload_n 2, 1) := by decide +kernel
theorem dX6_isPair_24 : decode cX6_isPair 24 = .ok (.if_icmp .eq 7, 3) := by decide +kernel
theorem dX6_isPair_27 : decode cX6_isPair 27 = .ok (.iconst 1, 1) := by decide +kernel
theorem dX6_isPair_28 : decode cX6_isPair 28 = .ok (.goto 4, 3) := by decide +kernel
theorem dX6_isPair_31 : decode cX6_isPair 31 = .ok (.iconst 0, 1) := by decide +kernel
theorem dX6_isPair_32 : decode cX6_isPair 32 = .ok (.ireturn, 1) := by decide +kernel
set_option maxRecDepth 20000 in
theorem ggX6_firstUnpicked_X1_allPosts : GoodIn wsX6_firstUnpicked wsX1_allPosts := goodIn_r _ [8, 9, 32, 33] (by decide +kernel) (by decide +kernel)
set_option maxRecDepth 20000 in
theorem gX6_firstUnpicked_X1_allPosts : GoodIn wsX6_firstUnpicked (wsV RX6 167 RX1 yX1_allPosts wsX1_allPosts) := goodIn_app (goodIn_of _ (by decide +kernel)) ggX6_firstUnpicked_X1_allPosts
set_option maxRecDepth 20000 in
theorem ggX6_firstUnpicked_J6_bitCount_0f7a4 : GoodIn wsX6_firstUnpicked wsJ6_bitCount_0f7a4 := goodIn_r _ [13, 14, 15, 16] (by decide +kernel) (by decide +kernel)
set_option maxRecDepth 20000 in
theorem gX6_firstUnpicked_J6_bitCount_0f7a4 : GoodIn wsX6_firstUnpicked (va_wsS RX6 226 yJ6_bitCount_0f7a4 wsJ6_bitCount_0f7a4) := goodIn_app (goodIn_of _ (by decide +kernel)) ggX6_firstUnpicked_J6_bitCount_0f7a4
set_option maxRecDepth 20000 in
theorem ggX6_firstUnpicked_X4_picksOne : GoodIn wsX6_firstUnpicked wsX4_picksOne := goodIn_r _ [21, 22, 23, 11, 12, 13, 14, 15, 16, 34, 35, 36] (by decide +kernel) (by decide +kernel)
set_option maxRecDepth 20000 in
theorem gX6_firstUnpicked_X4_picksOne : GoodIn wsX6_firstUnpicked (wsV RX6 231 RX4 yX4_picksOne wsX4_picksOne) := goodIn_app (goodIn_of _ (by decide +kernel)) ggX6_firstUnpicked_X4_picksOne
theorem dX6_firstUnpicked_0 : decode cX6_firstUnpicked 0 = .ok (.iconst 1, 1) := by decide +kernel
theorem dX6_firstUnpicked_1 : decode cX6_firstUnpicked 1 = .ok (.istore 5, 2) := by decide +kernel
theorem dX6_firstUnpicked_3 : decode cX6_firstUnpicked 3 = .ok (.iload 5, 2) := by decide +kernel
theorem dX6_firstUnpicked_5 : decode cX6_firstUnpicked 5 = .ok (.aload_n 0, 1) := by decide +kernel
theorem dX6_firstUnpicked_6 : decode cX6_firstUnpicked 6 = .ok (.getfield 19, 3) := by decide +kernel
theorem dX6_firstUnpicked_9 : decode cX6_firstUnpicked 9 = .ok (.invokevirtual 167, 3) := by decide +kernel
theorem dX6_firstUnpicked_12 : decode cX6_firstUnpicked 12 = .ok (.if_icmp .gt 37, 3) := by decide +kernel
theorem dX6_firstUnpicked_15 : decode cX6_firstUnpicked 15 = .ok (.iload 5, 2) := by decide +kernel
theorem dX6_firstUnpicked_17 : decode cX6_firstUnpicked 17 = .ok (.invokestatic 226, 3) := by decide +kernel
theorem dX6_firstUnpicked_20 : decode cX6_firstUnpicked 20 = .ok (.iload 4, 2) := by decide +kernel
theorem dX6_firstUnpicked_22 : decode cX6_firstUnpicked 22 = .ok (.if_icmp .gt 21, 3) := by decide +kernel
theorem dX6_firstUnpicked_25 : decode cX6_firstUnpicked 25 = .ok (.aload_n 0, 1) := by decide +kernel
theorem dX6_firstUnpicked_26 : decode cX6_firstUnpicked 26 = .ok (.getfield 10, 3) := by decide +kernel
theorem dX6_firstUnpicked_29 : decode cX6_firstUnpicked 29 = .ok (.iload_n 1, 1) := by decide +kernel
theorem dX6_firstUnpicked_30 : decode cX6_firstUnpicked 30 = .ok (.iload_n 2, 1) := by decide +kernel
theorem dX6_firstUnpicked_31 : decode cX6_firstUnpicked 31 = .ok (.iload_n 3, 1) := by decide +kernel
theorem dX6_firstUnpicked_32 : decode cX6_firstUnpicked 32 = .ok (.iload 5, 2) := by decide +kernel
theorem dX6_firstUnpicked_34 : decode cX6_firstUnpicked 34 = .ok (.invokevirtual 231, 3) := by decide +kernel
theorem dX6_firstUnpicked_37 : decode cX6_firstUnpicked 37 = .ok (.ifCond .ne 6, 3) := by decide +kernel
theorem dX6_firstUnpicked_40 : decode cX6_firstUnpicked 40 = .ok (.iload 5, 2) := by decide +kernel
theorem dX6_firstUnpicked_42 : decode cX6_firstUnpicked 42 = .ok (.ireturn, 1) := by decide +kernel
theorem dX6_firstUnpicked_43 : decode cX6_firstUnpicked 43 = .ok (.iinc 5 1, 3) := by decide +kernel
theorem dX6_firstUnpicked_46 : decode cX6_firstUnpicked 46 = .ok (.goto (-43), 3) := by decide +kernel
theorem dX6_firstUnpicked_49 : decode cX6_firstUnpicked 49 = .ok (.ldc 173, 2) := by decide +kernel
theorem dX6_firstUnpicked_51 : decode cX6_firstUnpicked 51 = .ok (.ireturn, 1) := by decide +kernel
theorem dX7_init_0 : decode cX7_init 0 = .ok (.aload_n 0, 1) := by decide +kernel
theorem dX7_init_1 : decode cX7_init 1 = .ok (.invokespecial 1, 3) := by decide +kernel
theorem dX7_init_4 : decode cX7_init 4 = .ok (.aload_n 0, 1) := by decide +kernel
theorem dX7_init_5 : decode cX7_init 5 = .ok (.bipush 8, 2) := by decide +kernel
theorem dX7_init_7 : decode cX7_init 7 = .ok (.newarray .int, 2) := by decide +kernel
theorem dX7_init_9 : decode cX7_init 9 = .ok (.dup, 1) := by decide +kernel
theorem dX7_init_10 : decode cX7_init 10 = .ok (.iconst 0, 1) := by decide +kernel
theorem dX7_init_11 : decode cX7_init 11 = .ok (.iconst (-1), 1) := by decide +kernel
theorem dX7_init_12 : decode cX7_init 12 = .ok (.iastore, 1) := by decide +kernel
theorem dX7_init_13 : decode cX7_init 13 = .ok (.dup, 1) := by decide +kernel
theorem dX7_init_14 : decode cX7_init 14 = .ok (.iconst 1, 1) := by decide +kernel
theorem dX7_init_15 : decode cX7_init 15 = .ok (.iconst (-1), 1) := by decide +kernel
theorem dX7_init_16 : decode cX7_init 16 = .ok (.iastore, 1) := by decide +kernel
theorem dX7_init_17 : decode cX7_init 17 = .ok (.dup, 1) := by decide +kernel
theorem dX7_init_18 : decode cX7_init 18 = .ok (.iconst 2, 1) := by decide +kernel
theorem dX7_init_19 : decode cX7_init 19 = .ok (.iconst (-1), 1) := by decide +kernel
theorem dX7_init_20 : decode cX7_init 20 = .ok (.iastore, 1) := by decide +kernel
theorem dX7_init_21 : decode cX7_init 21 = .ok (.dup, 1) := by decide +kernel
theorem dX7_init_22 : decode cX7_init 22 = .ok (.iconst 3, 1) := by decide +kernel
theorem dX7_init_23 : decode cX7_init 23 = .ok (.iconst (-1), 1) := by decide +kernel
theorem dX7_init_24 : decode cX7_init 24 = .ok (.iastore, 1) := by decide +kernel
theorem dX7_init_25 : decode cX7_init 25 = .ok (.dup, 1) := by decide +kernel
theorem dX7_init_26 : decode cX7_init 26 = .ok (.iconst 4, 1) := by decide +kernel
theorem dX7_init_27 : decode cX7_init 27 = .ok (.iconst (-1), 1) := by decide +kernel
theorem dX7_init_28 : decode cX7_init 28 = .ok (.iastore, 1) := by decide +kernel
theorem dX7_init_29 : decode cX7_init 29 = .ok (.dup, 1) := by decide +kernel
theorem dX7_init_30 : decode cX7_init 30 = .ok (.iconst 5, 1) := by decide +kernel
theorem dX7_init_31 : decode cX7_init 31 = .ok (.iconst (-1), 1) := by decide +kernel
theorem dX7_init_32 : decode cX7_init 32 = .ok (.iastore, 1) := by decide +kernel
theorem dX7_init_33 : decode cX7_init 33 = .ok (.dup, 1) := by decide +kernel
theorem dX7_init_34 : decode cX7_init 34 = .ok (.bipush 6, 2) := by decide +kernel
theorem dX7_init_36 : decode cX7_init 36 = .ok (.iconst (-1), 1) := by decide +kernel
theorem dX7_init_37 : decode cX7_init 37 = .ok (.iastore, 1) := by decide +kernel
theorem dX7_init_38 : decode cX7_init 38 = .ok (.dup, 1) := by decide +kernel
theorem dX7_init_39 : decode cX7_init 39 = .ok (.bipush 7, 2) := by decide +kernel
theorem dX7_init_41 : decode cX7_init 41 = .ok (.iconst (-1), 1) := by decide +kernel
theorem dX7_init_42 : decode cX7_init 42 = .ok (.iastore, 1) := by decide +kernel
theorem dX7_init_43 : decode cX7_init 43 = .ok (.putfield 7, 3) := by decide +kernel
theorem dX7_init_46 : decode cX7_init 46 = .ok (.aload_n 0, 1) := by decide +kernel
theorem dX7_init_47 : decode cX7_init 47 = .ok (.bipush 8, 2) := by decide +kernel
theorem dX7_init_49 : decode cX7_init 49 = .ok (.newarray .int, 2) := by decide +kernel
theorem dX7_init_51 : decode cX7_init 51 = .ok (.putfield 13, 3) := by decide +kernel
theorem dX7_init_54 : decode cX7_init 54 = .ok (.aload_n 0, 1) := by decide +kernel
theorem dX7_init_55 : decode cX7_init 55 = .ok (.sipush 320, 3) := by decide +kernel
theorem dX7_init_58 : decode cX7_init 58 = .ok (.newarray .int, 2) := by decide +kernel
theorem dX7_init_60 : decode cX7_init 60 = .ok (.putfield 16, 3) := by decide +kernel
theorem dX7_init_63 : decode cX7_init 63 = .ok (.aload_n 0, 1) := by decide +kernel
theorem dX7_init_64 : decode cX7_init 64 = .ok (.bipush 8, 2) := by decide +kernel
theorem dX7_init_66 : decode cX7_init 66 = .ok (.newarray .int, 2) := by decide +kernel
theorem dX7_init_68 : decode cX7_init 68 = .ok (.putfield 19, 3) := by decide +kernel
theorem dX7_init_71 : decode cX7_init 71 = .ok (.aload_n 0, 1) := by decide +kernel
theorem dX7_init_72 : decode cX7_init 72 = .ok (.bipush 20, 2) := by decide +kernel
theorem dX7_init_74 : decode cX7_init 74 = .ok (.newarray .int, 2) := by decide +kernel
theorem dX7_init_76 : decode cX7_init 76 = .ok (.putfield 22, 3) := by decide +kernel
theorem dX7_init_79 : decode cX7_init 79 = .ok (.aload_n 0, 1) := by decide +kernel
theorem dX7_init_80 : decode cX7_init 80 = .ok (.bipush 20, 2) := by decide +kernel
theorem dX7_init_82 : decode cX7_init 82 = .ok (.newarray .int, 2) := by decide +kernel
theorem dX7_init_84 : decode cX7_init 84 = .ok (.putfield 25, 3) := by decide +kernel
theorem dX7_init_87 : decode cX7_init 87 = .ok (.aload_n 0, 1) := by decide +kernel
theorem dX7_init_88 : decode cX7_init 88 = .ok (.sipush 300, 3) := by decide +kernel
theorem dX7_init_91 : decode cX7_init 91 = .ok (.newarray .int, 2) := by decide +kernel
theorem dX7_init_93 : decode cX7_init 93 = .ok (.putfield 28, 3) := by decide +kernel
theorem dX7_init_96 : decode cX7_init 96 = .ok (.aload_n 0, 1) := by decide +kernel
theorem dX7_init_97 : decode cX7_init 97 = .ok (.sipush 256, 3) := by decide +kernel
theorem dX7_init_100 : decode cX7_init 100 = .ok (.newarray .int, 2) := by decide +kernel
theorem dX7_init_102 : decode cX7_init 102 = .ok (.putfield 31, 3) := by decide +kernel
theorem dX7_init_105 : decode cX7_init 105 = .ok (.aload_n 0, 1) := by decide +kernel
theorem dX7_init_106 : decode cX7_init 106 = .ok (.sipush 1536, 3) := by decide +kernel
theorem dX7_init_109 : decode cX7_init 109 = .ok (.newarray .boolean, 2) := by decide +kernel
theorem dX7_init_111 : decode cX7_init 111 = .ok (.putfield 34, 3) := by decide +kernel
theorem dX7_init_114 : decode cX7_init 114 = .ok (.aload_n 0, 1) := by decide +kernel
theorem dX7_init_115 : decode cX7_init 115 = .ok (.sipush 1536, 3) := by decide +kernel
theorem dX7_init_118 : decode cX7_init 118 = .ok (.newarray .boolean, 2) := by decide +kernel
theorem dX7_init_120 : decode cX7_init 120 = .ok (.putfield 38, 3) := by decide +kernel
theorem dX7_init_123 : decode cX7_init 123 = .ok (.aload_n 0, 1) := by decide +kernel
theorem dX7_init_124 : decode cX7_init 124 = .ok (.sipush 256, 3) := by decide +kernel
theorem dX7_init_127 : decode cX7_init 127 = .ok (.newarray .long, 2) := by decide +kernel
theorem dX7_init_129 : decode cX7_init 129 = .ok (.putfield 41, 3) := by decide +kernel
theorem dX7_init_132 : decode cX7_init 132 = .ok (.aload_n 0, 1) := by decide +kernel
theorem dX7_init_133 : decode cX7_init 133 = .ok (.sipush 256, 3) := by decide +kernel
theorem dX7_init_136 : decode cX7_init 136 = .ok (.newarray .long, 2) := by decide +kernel
theorem dX7_init_138 : decode cX7_init 138 = .ok (.putfield 45, 3) := by decide +kernel
theorem dX7_init_141 : decode cX7_init 141 = .ok (.aload_n 0, 1) := by decide +kernel
theorem dX7_init_142 : decode cX7_init 142 = .ok (.bipush 16, 2) := by decide +kernel
theorem dX7_init_144 : decode cX7_init 144 = .ok (.newarray .int, 2) := by decide +kernel
theorem dX7_init_146 : decode cX7_init 146 = .ok (.putfield 48, 3) := by decide +kernel
theorem dX7_init_149 : decode cX7_init 149 = .ok (.return_, 1) := by decide +kernel
theorem dX7_in_0 : decode cX7_in 0 = .ok (.lload_n 0, 1) := by decide +kernel
theorem dX7_in_1 : decode cX7_in 1 = .ok (.lload_n 2, 1) := by decide +kernel
theorem dX7_in_2 : decode cX7_in 2 = .ok (.lcmp, 1) := by decide +kernel
theorem dX7_in_3 : decode cX7_in 3 = .ok (.ifCond .lt 14, 3) := by decide +kernel
theorem dX7_in_6 : decode cX7_in 6 = .ok (.lload_n 0, 1) := by decide +kernel
theorem dX7_in_7 : decode cX7_in 7 = .ok (.lload 4, 2) := by decide +kernel
theorem dX7_in_9 : decode cX7_in 9 = .ok (.lcmp, 1) := by decide +kernel
theorem dX7_in_10 : decode cX7_in 10 = .ok (.ifCond .gt 7, 3) := by decide +kernel
theorem dX7_in_13 : decode cX7_in 13 = .ok (.iconst 1, 1) := by decide +kernel
theorem dX7_in_14 : decode cX7_in 14 = .ok (.goto 4, 3) := by decide +kernel
theorem dX7_in_17 : decode cX7_in 17 = .ok (.iconst 0, 1) := by decide +kernel
theorem dX7_in_18 : decode cX7_in 18 = .ok (.ireturn, 1) := by decide +kernel
theorem dX7_found_0 : decode cX7_found 0 = .ok (.aload_n 0, 1) := by decide +kernel
theorem dX7_found_1 : decode cX7_found 1 = .ok (.iload_n 1, 1) := by decide +kernel
theorem dX7_found_2 : decode cX7_found 2 = .ok (.putfield 55, 3) := by decide +kernel
theorem dX7_found_5 : decode cX7_found 5 = .ok (.ldc 58, 2) := by decide +kernel
theorem dX7_found_7 : decode cX7_found 7 = .ok (.iload_n 1, 1) := by decide +kernel
theorem dX7_found_8 : decode cX7_found 8 = .ok (.isub, 1) := by decide +kernel
theorem dX7_found_9 : decode cX7_found 9 = .ok (.ireturn, 1) := by decide +kernel
set_option maxRecDepth 20000 in
theorem ggX7_isSheet_X7_in : GoodIn wsX7_isSheet wsX7_in := goodIn_r _ [5] (by decide +kernel) (by decide +kernel)
set_option maxRecDepth 20000 in
theorem gX7_isSheet_X7_in : GoodIn wsX7_isSheet (va_wsS RX7 61 yX7_in wsX7_in) := goodIn_app (goodIn_of _ (by decide +kernel)) ggX7_isSheet_X7_in
theorem dX7_isSheet_0 : decode cX7_isSheet 0 = .ok (.iload_n 0, 1) := by decide +kernel
theorem dX7_isSheet_1 : decode cX7_isSheet 1 = .ok (.i2l, 1) := by decide +kernel
theorem dX7_isSheet_2 : decode cX7_isSheet 2 = .ok (.lconst 0, 1) := by decide +kernel
theorem dX7_isSheet_3 : decode cX7_isSheet 3 = .ok (.ldc2_w 59, 3) := by decide +kernel
theorem dX7_isSheet_6 : decode cX7_isSheet 6 = .ok (.invokestatic 61, 3) := by decide +kernel
theorem dX7_isSheet_9 : decode cX7_isSheet 9 = .ok (.ireturn, 1) := by decide +kernel
set_option maxRecDepth 20000 in
theorem ggX7_sheet_X7_isSheet : GoodIn wsX7_sheet wsX7_isSheet := goodIn_r _ [11, 12, 13, 14, 10, 15] (by decide +kernel) (by decide +kernel)
set_option maxRecDepth 20000 in
theorem gX7_sheet_X7_isSheet : GoodIn wsX7_sheet (va_wsS RX7 65 yX7_isSheet wsX7_isSheet) := goodIn_app (goodIn_of _ (by decide +kernel)) ggX7_sheet_X7_isSheet
set_option maxRecDepth 20000 in
theorem ggX7_sheet_X7_in : GoodIn wsX7_sheet wsX7_in := goodIn_r _ [15] (by decide +kernel) (by decide +kernel)
set_option maxRecDepth 20000 in
theorem gX7_sheet_X7_in : GoodIn wsX7_sheet (va_wsS RX7 61 yX7_in wsX7_in) := goodIn_app (goodIn_of _ (by decide +kernel)) ggX7_sheet_X7_in
set_option maxRecDepth 20000 in
theorem ggX7_sheet_X7_found : GoodIn wsX7_sheet wsX7_found := goodIn_r _ [19, 4, 20, 21, 22, 23, 24, 25, 26, 27, 28, 29, 30, 31, 32, 33, 34, 35, 36, 37, 38, 39, 40, 41, 42, 43, 44, 45, 46, 47, 48] (by decide +kernel) (by decide +kernel)
set_option maxRecDepth 20000 in
theorem gX7_sheet_X7_found : GoodIn wsX7_sheet (wsV RX7 72 RX7 yX7_found wsX7_found) := goodIn_app (goodIn_of _ (by decide +kernel)) ggX7_sheet_X7_found
theorem dX7_sheet_0 : decode cX7_sheet 0 = .ok (.aload_n 0, 1) := by decide +kernel
theorem dX7_sheet_1 : decode cX7_sheet 1 = .ok (.iconst 0, 1) := by decide +kernel
theorem dX7_sheet_2 : decode cX7_sheet 2 = .ok (.putfield 51, 3) := by decide +kernel
theorem dX7_sheet_5 : decode cX7_sheet 5 = .ok (.iload_n 1, 1) := by decide +kernel
theorem dX7_sheet_6 : decode cX7_sheet 6 = .ok (.invokestatic 65, 3) := by decide +kernel
theorem dX7_sheet_9 : decode cX7_sheet 9 = .ok (.ifCond .eq 21, 3) := by decide +kernel
theorem dX7_sheet_12 : decode cX7_sheet 12 = .ok (.iload_n 2, 1) := by decide +kernel
theorem dX7_sheet_13 : decode cX7_sheet 13 = .ok (.i2l, 1) := by decide +kernel
theorem dX7_sheet_14 : decode cX7_sheet 14 = .ok (.lconst 0, 1) := by decide +kernel
theorem dX7_sheet_15 : decode cX7_sheet 15 = .ok (.ldc2_w 69, 3) := by decide +kernel
theorem dX7_sheet_18 : decode cX7_sheet 18 = .ok (.invokestatic 61, 3) := by decide +kernel
theorem dX7_sheet_21 : decode cX7_sheet 21 = .ok (.ifCond .eq 9, 3) := by decide +kernel
theorem dX7_sheet_24 : decode cX7_sheet 24 = .ok (.iload_n 3, 1) := by decide +kernel
theorem dX7_sheet_25 : decode cX7_sheet 25 = .ok (.bipush 40, 2) := by decide +kernel
theorem dX7_sheet_27 : decode cX7_sheet 27 = .ok (.if_icmp .le 6, 3) := by decide +kernel
theorem dX7_sheet_30 : decode cX7_sheet 30 = .ok (.ldc 71, 2) := by decide +kernel
theorem dX7_sheet_32 : decode cX7_sheet 32 = .ok (.ireturn, 1) := by decide +kernel
theorem dX7_sheet_33 : decode cX7_sheet 33 = .ok (.aload_n 0, 1) := by decide +kernel
theorem dX7_sheet_34 : decode cX7_sheet 34 = .ok (.iconst 0, 1) := by decide +kernel
theorem dX7_sheet_35 : decode cX7_sheet 35 = .ok (.putfield 55, 3) := by decide +kernel
theorem dX7_sheet_38 : decode cX7_sheet 38 = .ok (.iload_n 3, 1) := by decide +kernel
theorem dX7_sheet_39 : decode cX7_sheet 39 = .ok (.ifCond .ge 9, 3) := by decide +kernel
theorem dX7_sheet_42 : decode cX7_sheet 42 = .ok (.aload_n 0, 1) := by decide +kernel
theorem dX7_sheet_43 : decode cX7_sheet 43 = .ok (.iconst 4, 1) := by decide +kernel
theorem dX7_sheet_44 : decode cX7_sheet 44 = .ok (.invokevirtual 72, 3) := by decide +kernel
theorem dX7_sheet_47 : decode cX7_sheet 47 = .ok (.ireturn, 1) := by decide +kernel
theorem dX7_sheet_48 : decode cX7_sheet 48 = .ok (.aload_n 0, 1) := by decide +kernel
theorem dX7_sheet_49 : decode cX7_sheet 49 = .ok (.getfield 7, 3) := by decide +kernel
theorem dX7_sheet_52 : decode cX7_sheet 52 = .ok (.iload_n 1, 1) := by decide +kernel
theorem dX7_sheet_53 : decode cX7_sheet 53 = .ok (.iload_n 2, 1) := by decide +kernel
theorem dX7_sheet_54 : decode cX7_sheet 54 = .ok (.iastore, 1) := by decide +kernel
theorem dX7_sheet_55 : decode cX7_sheet 55 = .ok (.aload_n 0, 1) := by decide +kernel
theorem dX7_sheet_56 : decode cX7_sheet 56 = .ok (.getfield 13, 3) := by decide +kernel
theorem dX7_sheet_59 : decode cX7_sheet 59 = .ok (.iload_n 1, 1) := by decide +kernel
theorem dX7_sheet_60 : decode cX7_sheet 60 = .ok (.iload_n 3, 1) := by decide +kernel
theorem dX7_sheet_61 : decode cX7_sheet 61 = .ok (.iastore, 1) := by decide +kernel
theorem dX7_sheet_62 : decode cX7_sheet 62 = .ok (.iconst 0, 1) := by decide +kernel
theorem dX7_sheet_63 : decode cX7_sheet 63 = .ok (.istore 4, 2) := by decide +kernel
theorem dX7_sheet_65 : decode cX7_sheet 65 = .ok (.iload 4, 2) := by decide +kernel
theorem dX7_sheet_67 : decode cX7_sheet 67 = .ok (.bipush 40, 2) := by decide +kernel
theorem dX7_sheet_69 : decode cX7_sheet 69 = .ok (.if_icmp .ge 22, 3) := by decide +kernel
theorem dX7_sheet_72 : decode cX7_sheet 72 = .ok (.aload_n 0, 1) := by decide +kernel
theorem dX7_sheet_73 : decode cX7_sheet 73 = .ok (.getfield 16, 3) := by decide +kernel
theorem dX7_sheet_76 : decode cX7_sheet 76 = .ok (.bipush 40, 2) := by decide +kernel
theorem dX7_sheet_78 : decode cX7_sheet 78 = .ok (.iload_n 1, 1) := by decide +kernel
theorem dX7_sheet_79 : decode cX7_sheet 79 = .ok (.imul, 1) := by decide +kernel
theorem dX7_sheet_80 : decode cX7_sheet 80 = .ok (.iload 4, 2) := by decide +kernel
theorem dX7_sheet_82 : decode cX7_sheet 82 = .ok (.iadd, 1) := by decide +kernel
theorem dX7_sheet_83 : decode cX7_sheet 83 = .ok (.iconst 0, 1) := by decide +kernel
theorem dX7_sheet_84 : decode cX7_sheet 84 = .ok (.iastore, 1) := by decide +kernel
theorem dX7_sheet_85 : decode cX7_sheet 85 = .ok (.iinc 4 1, 3) := by decide +kernel
theorem dX7_sheet_88 : decode cX7_sheet 88 = .ok (.goto (-23), 3) := by decide +kernel
theorem dX7_sheet_91 : decode cX7_sheet 91 = .ok (.iload_n 3, 1) := by decide +kernel
theorem dX7_sheet_92 : decode cX7_sheet 92 = .ok (.ireturn, 1) := by decide +kernel
set_option maxRecDepth 20000 in
theorem ggX7_set_X7_isSheet : GoodIn wsX7_set wsX7_isSheet := goodIn_r _ [10, 11, 12, 13, 9, 14] (by decide +kernel) (by decide +kernel)
set_option maxRecDepth 20000 in
theorem gX7_set_X7_isSheet : GoodIn wsX7_set (va_wsS RX7 65 yX7_isSheet wsX7_isSheet) := goodIn_app (goodIn_of _ (by decide +kernel)) ggX7_set_X7_isSheet
set_option maxRecDepth 20000 in
theorem ggX7_set_X7_found : GoodIn wsX7_set wsX7_found := goodIn_r _ [18, 3, 19, 20, 21, 22, 23, 24, 25, 26, 27, 28, 29, 30, 31, 32, 33, 34, 35, 36, 37, 38, 39, 40, 41, 42, 43, 44, 45, 46, 47] (by decide +kernel) (by decide +kernel)
set_option maxRecDepth 20000 in
theorem gX7_set_X7_found : GoodIn wsX7_set (wsV RX7 72 RX7 yX7_found wsX7_found) := goodIn_app (goodIn_of _ (by decide +kernel)) ggX7_set_X7_found
set_option maxRecDepth 20000 in
theorem ggX7_set_X7_in : GoodIn wsX7_set wsX7_in := goodIn_r _ [14] (by decide +kernel) (by decide +kernel)
set_option maxRecDepth 20000 in
theorem gX7_set_X7_in : GoodIn wsX7_set (va_wsS RX7 61 yX7_in wsX7_in) := goodIn_app (goodIn_of _ (by decide +kernel)) ggX7_set_X7_in
theorem dX7_set_0 : decode cX7_set 0 = .ok (.aload_n 0, 1) := by decide +kernel
theorem dX7_set_1 : decode cX7_set 1 = .ok (.iconst 0, 1) := by decide +kernel
theorem dX7_set_2 : decode cX7_set 2 = .ok (.putfield 51, 3) := by decide +kernel
theorem dX7_set_5 : decode cX7_set 5 = .ok (.iload_n 1, 1) := by decide +kernel
theorem dX7_set_6 : decode cX7_set 6 = .ok (.invokestatic 65, 3) := by decide +kernel
theorem dX7_set_9 : decode cX7_set 9 = .ok (.ifCond .ne 6, 3) := by decide +kernel
theorem dX7_set_12 : decode cX7_set 12 = .ok (.ldc 71, 2) := by decide +kernel
theorem dX7_set_14 : decode cX7_set 14 = .ok (.ireturn, 1) := by decide +kernel
theorem dX7_set_15 : decode cX7_set 15 = .ok (.aload_n 0, 1) := by decide +kernel
theorem dX7_set_16 : decode cX7_set 16 = .ok (.iconst 0, 1) := by decide +kernel
theorem dX7_set_17 : decode cX7_set 17 = .ok (.putfield 55, 3) := by decide +kernel
theorem dX7_set_20 : decode cX7_set 20 = .ok (.aload_n 0, 1) := by decide +kernel
theorem dX7_set_21 : decode cX7_set 21 = .ok (.getfield 7, 3) := by decide +kernel
theorem dX7_set_24 : decode cX7_set 24 = .ok (.iload_n 1, 1) := by decide +kernel
theorem dX7_set_25 : decode cX7_set 25 = .ok (.iaload, 1) := by decide +kernel
theorem dX7_set_26 : decode cX7_set 26 = .ok (.ifCond .ge 9, 3) := by decide +kernel
theorem dX7_set_29 : decode cX7_set 29 = .ok (.aload_n 0, 1) := by decide +kernel
theorem dX7_set_30 : decode cX7_set 30 = .ok (.iconst 1, 1) := by decide +kernel
theorem dX7_set_31 : decode cX7_set 31 = .ok (.invokevirtual 72, 3) := by decide +kernel
theorem dX7_set_34 : decode cX7_set 34 = .ok (.ireturn, 1) := by decide +kernel
theorem dX7_set_35 : decode cX7_set 35 = .ok (.iload_n 2, 1) := by decide +kernel
theorem dX7_set_36 : decode cX7_set 36 = .ok (.i2l, 1) := by decide +kernel
theorem dX7_set_37 : decode cX7_set 37 = .ok (.lconst 0, 1) := by decide +kernel
theorem dX7_set_38 : decode cX7_set 38 = .ok (.aload_n 0, 1) := by decide +kernel
theorem dX7_set_39 : decode cX7_set 39 = .ok (.getfield 13, 3) := by decide +kernel
theorem dX7_set_42 : decode cX7_set 42 = .ok (.iload_n 1, 1) := by decide +kernel
theorem dX7_set_43 : decode cX7_set 43 = .ok (.iaload, 1) := by decide +kernel
theorem dX7_set_44 : decode cX7_set 44 = .ok (.iconst 1, 1) := by decide +kernel
theorem dX7_set_45 : decode cX7_set 45 = .ok (.isub, 1) := by decide +kernel
theorem dX7_set_46 : decode cX7_set 46 = .ok (.i2l, 1) := by decide +kernel
theorem dX7_set_47 : decode cX7_set 47 = .ok (.invokestatic 61, 3) := by decide +kernel
theorem dX7_set_50 : decode cX7_set 50 = .ok (.ifCond .ne 9, 3) := by decide +kernel
theorem dX7_set_53 : decode cX7_set 53 = .ok (.aload_n 0, 1) := by decide +kernel
theorem dX7_set_54 : decode cX7_set 54 = .ok (.iconst 2, 1) := by decide +kernel
theorem dX7_set_55 : decode cX7_set 55 = .ok (.invokevirtual 72, 3) := by decide +kernel
theorem dX7_set_58 : decode cX7_set 58 = .ok (.ireturn, 1) := by decide +kernel
theorem dX7_set_59 : decode cX7_set 59 = .ok (.aload_n 0, 1) := by decide +kernel
theorem dX7_set_60 : decode cX7_set 60 = .ok (.getfield 16, 3) := by decide +kernel
theorem dX7_set_63 : decode cX7_set 63 = .ok (.bipush 40, 2) := by decide +kernel
theorem dX7_set_65 : decode cX7_set 65 = .ok (.iload_n 1, 1) := by decide +kernel
theorem dX7_set_66 : decode cX7_set 66 = .ok (.imul, 1) := by decide +kernel
theorem dX7_set_67 : decode cX7_set 67 = .ok (.iload_n 2, 1) := by decide +kernel
theorem dX7_set_68 : decode cX7_set 68 = .ok (.iadd, 1) := by decide +kernel
theorem dX7_set_69 : decode cX7_set 69 = .ok (.aload_n 0, 1) := by decide +kernel
theorem dX7_set_70 : decode cX7_set 70 = .ok (.getfield 7, 3) := by decide +kernel
theorem dX7_set_73 : decode cX7_set 73 = .ok (.iload_n 1, 1) := by decide +kernel
theorem dX7_set_74 : decode cX7_set 74 = .ok (.iaload, 1) := by decide +kernel
theorem dX7_set_75 : decode cX7_set 75 = .ok (.ifCond .ne 8, 3) := by decide +kernel
theorem dX7_set_78 : decode cX7_set 78 = .ok (.iload_n 3, 1) := by decide +kernel
theorem dX7_set_79 : decode cX7_set 79 = .ok (.i2b, 1) := by decide +kernel
theorem dX7_set_80 : decode cX7_set 80 = .ok (.goto 19, 3) := by decide +kernel
theorem dX7_set_83 : decode cX7_set 83 = .ok (.aload_n 0, 1) := by decide +kernel
theorem dX7_set_84 : decode cX7_set 84 = .ok (.getfield 7, 3) := by decide +kernel
theorem dX7_set_87 : decode cX7_set 87 = .ok (.iload_n 1, 1) := by decide +kernel
theorem dX7_set_88 : decode cX7_set 88 = .ok (.iaload, 1) := by decide +kernel
theorem dX7_set_89 : decode cX7_set 89 = .ok (.iconst 1, 1) := by decide +kernel
theorem dX7_set_90 : decode cX7_set 90 = .ok (.if_icmp .ne 8, 3) := by decide +kernel
theorem dX7_set_93 : decode cX7_set 93 = .ok (.iload_n 3, 1) := by decide +kernel
theorem dX7_set_94 : decode cX7_set 94 = .ok (.i2s, 1) := by decide +kernel
theorem dX7_set_95 : decode cX7_set 95 = .ok (.goto 4, 3) := by decide +kernel
theorem dX7_set_98 : decode cX7_set 98 = .ok (.iload_n 3, 1) := by decide +kernel
theorem dX7_set_99 : decode cX7_set 99 = .ok (.iastore, 1) := by decide +kernel
theorem dX7_set_100 : decode cX7_set 100 = .ok (.aload_n 0, 1) := by decide +kernel
theorem dX7_set_101 : decode cX7_set 101 = .ok (.getfield 16, 3) := by decide +kernel
theorem dX7_set_104 : decode cX7_set 104 = .ok (.bipush 40, 2) := by decide +kernel
theorem dX7_set_106 : decode cX7_set 106 = .ok (.iload_n 1, 1) := by decide +kernel
theorem dX7_set_107 : decode cX7_set 107 = .ok (.imul, 1) := by decide +kernel
theorem dX7_set_108 : decode cX7_set 108 = .ok (.iload_n 2, 1) := by decide +kernel
theorem dX7_set_109 : decode cX7_set 109 = .ok (.iadd, 1) := by decide +kernel
theorem dX7_set_110 : decode cX7_set 110 = .ok (.iaload, 1) := by decide +kernel
theorem dX7_set_111 : decode cX7_set 111 = .ok (.ireturn, 1) := by decide +kernel
set_option maxRecDepth 20000 in
theorem ggX7_copy_X7_isSheet : GoodIn wsX7_copy wsX7_isSheet := goodIn_r _ [10, 11, 12, 13, 9, 14] (by decide +kernel) (by decide +kernel)
set_option maxRecDepth 20000 in
theorem gX7_copy_X7_isSheet : GoodIn wsX7_copy (va_wsS RX7 65 yX7_isSheet wsX7_isSheet) := goodIn_app (goodIn_of _ (by decide +kernel)) ggX7_copy_X7_isSheet
set_option maxRecDepth 20000 in
theorem ggX7_copy_X7_found : GoodIn wsX7_copy wsX7_found := goodIn_r _ [18, 3, 19, 20, 21, 22, 23, 24, 25, 26, 27, 28, 29, 30, 31, 32, 33, 34, 35, 36, 37, 38, 39, 40, 41, 42, 43, 44, 45, 46, 47] (by decide +kernel) (by decide +kernel)
set_option maxRecDepth 20000 in
theorem gX7_copy_X7_found : GoodIn wsX7_copy (wsV RX7 72 RX7 yX7_found wsX7_found) := goodIn_app (goodIn_of _ (by decide +kernel)) ggX7_copy_X7_found
theorem dX7_copy_0 : decode cX7_copy 0 = .ok (.aload_n 0, 1) := by decide +kernel
theorem dX7_copy_1 : decode cX7_copy 1 = .ok (.iconst 0, 1) := by decide +kernel
theorem dX7_copy_2 : decode cX7_copy 2 = .ok (.putfield 51, 3) := by decide +kernel
theorem dX7_copy_5 : decode cX7_copy 5 = .ok (.iload_n 1, 1) := by decide +kernel
theorem dX7_copy_6 : decode cX7_copy 6 = .ok (.invokestatic 65, 3) := by decide +kernel
theorem dX7_copy_9 : decode cX7_copy 9 = .ok (.ifCond .eq 10, 3) := by decide +kernel
theorem dX7_copy_12 : decode cX7_copy 12 = .ok (.iload_n 3, 1) := by decide +kernel
theorem dX7_copy_13 : decode cX7_copy 13 = .ok (.invokestatic 65, 3) := by decide +kernel
theorem dX7_copy_16 : decode cX7_copy 16 = .ok (.ifCond .ne 6, 3) := by decide +kernel
theorem dX7_copy_19 : decode cX7_copy 19 = .ok (.ldc 71, 2) := by decide +kernel
theorem dX7_copy_21 : decode cX7_copy 21 = .ok (.ireturn, 1) := by decide +kernel
theorem dX7_copy_22 : decode cX7_copy 22 = .ok (.aload_n 0, 1) := by decide +kernel
theorem dX7_copy_23 : decode cX7_copy 23 = .ok (.iconst 0, 1) := by decide +kernel
theorem dX7_copy_24 : decode cX7_copy 24 = .ok (.putfield 55, 3) := by decide +kernel
theorem dX7_copy_27 : decode cX7_copy 27 = .ok (.aload_n 0, 1) := by decide +kernel
theorem dX7_copy_28 : decode cX7_copy 28 = .ok (.getfield 7, 3) := by decide +kernel
theorem dX7_copy_31 : decode cX7_copy 31 = .ok (.iload_n 1, 1) := by decide +kernel
theorem dX7_copy_32 : decode cX7_copy 32 = .ok (.iaload, 1) := by decide +kernel
theorem dX7_copy_33 : decode cX7_copy 33 = .ok (.ifCond .lt 12, 3) := by decide +kernel
theorem dX7_copy_36 : decode cX7_copy 36 = .ok (.aload_n 0, 1) := by decide +kernel
theorem dX7_copy_37 : decode cX7_copy 37 = .ok (.getfield 7, 3) := by decide +kernel
theorem dX7_copy_40 : decode cX7_copy 40 = .ok (.iload_n 3, 1) := by decide +kernel
theorem dX7_copy_41 : decode cX7_copy 41 = .ok (.iaload, 1) := by decide +kernel
theorem dX7_copy_42 : decode cX7_copy 42 = .ok (.ifCond .ge 9, 3) := by decide +kernel
theorem dX7_copy_45 : decode cX7_copy 45 = .ok (.aload_n 0, 1) := by decide +kernel
theorem dX7_copy_46 : decode cX7_copy 46 = .ok (.iconst 1, 1) := by decide +kernel
theorem dX7_copy_47 : decode cX7_copy 47 = .ok (.invokevirtual 72, 3) := by decide +kernel
theorem dX7_copy_50 : decode cX7_copy 50 = .ok (.ireturn, 1) := by decide +kernel
theorem dX7_copy_51 : decode cX7_copy 51 = .ok (.aload_n 0, 1) := by decide +kernel
theorem dX7_copy_52 : decode cX7_copy 52 = .ok (.getfield 7, 3) := by decide +kernel
theorem dX7_copy_55 : decode cX7_copy 55 = .ok (.iload_n 1, 1) := by decide +kernel
theorem dX7_copy_56 : decode cX7_copy 56 = .ok (.iaload, 1) := by decide +kernel
theorem dX7_copy_57 : decode cX7_copy 57 = .ok (.aload_n 0, 1) := by decide +kernel
theorem dX7_copy_58 : decode cX7_copy 58 = .ok (.getfield 7, 3) := by decide +kernel
theorem dX7_copy_61 : decode cX7_copy 61 = .ok (.iload_n 3, 1) := by decide +kernel
theorem dX7_copy_62 : decode cX7_copy 62 = .ok (.iaload, 1) := by decide +kernel
theorem dX7_copy_63 : decode cX7_copy 63 = .ok (.if_icmp .eq 9, 3) := by decide +kernel
theorem dX7_copy_66 : decode cX7_copy 66 = .ok (.aload_n 0, 1) := by decide +kernel
theorem dX7_copy_67 : decode cX7_copy 67 = .ok (.iconst 5, 1) := by decide +kernel
theorem dX7_copy_68 : decode cX7_copy 68 = .ok (.invokevirtual 72, 3) := by decide +kernel
theorem dX7_copy_71 : decode cX7_copy 71 = .ok (.ireturn, 1) := by decide +kernel
theorem dX7_copy_72 : decode cX7_copy 72 = .ok (.iload_n 2, 1) := by decide +kernel
theorem dX7_copy_73 : decode cX7_copy 73 = .ok (.ifCond .lt 48, 3) := by decide +kernel
theorem dX7_copy_76 : decode cX7_copy 76 = .ok (.iload 4, 2) := by decide +kernel
theorem dX7_copy_78 : decode cX7_copy 78 = .ok (.ifCond .lt 43, 3) := by decide +kernel
theorem dX7_copy_81 : decode cX7_copy 81 = .ok (.iload 5, 2) := by decide +kernel
theorem dX7_copy_83 : decode cX7_copy 83 = .ok (.ifCond .lt 38, 3) := by decide +kernel
theorem dX7_copy_86 : decode cX7_copy 86 = .ok (.iload_n 2, 1) := by decide +kernel
theorem dX7_copy_87 : decode cX7_copy 87 = .ok (.i2l, 1) := by decide +kernel
theorem dX7_copy_88 : decode cX7_copy 88 = .ok (.iload 5, 2) := by decide +kernel
theorem dX7_copy_90 : decode cX7_copy 90 = .ok (.i2l, 1) := by decide +kernel
theorem dX7_copy_91 : decode cX7_copy 91 = .ok (.ladd, 1) := by decide +kernel
theorem dX7_copy_92 : decode cX7_copy 92 = .ok (.aload_n 0, 1) := by decide +kernel
theorem dX7_copy_93 : decode cX7_copy 93 = .ok (.getfield 13, 3) := by decide +kernel
theorem dX7_copy_96 : decode cX7_copy 96 = .ok (.iload_n 1, 1) := by decide +kernel
theorem dX7_copy_97 : decode cX7_copy 97 = .ok (.iaload, 1) := by decide +kernel
theorem dX7_copy_98 : decode cX7_copy 98 = .ok (.i2l, 1) := by decide +kernel
theorem dX7_copy_99 : decode cX7_copy 99 = .ok (.lcmp, 1) := by decide +kernel
theorem dX7_copy_100 : decode cX7_copy 100 = .ok (.ifCond .gt 21, 3) := by decide +kernel
theorem dX7_copy_103 : decode cX7_copy 103 = .ok (.iload 4, 2) := by decide +kernel
theorem dX7_copy_105 : decode cX7_copy 105 = .ok (.i2l, 1) := by decide +kernel
theorem dX7_copy_106 : decode cX7_copy 106 = .ok (.iload 5, 2) := by decide +kernel
theorem dX7_copy_108 : decode cX7_copy 108 = .ok (.i2l, 1) := by decide +kernel
theorem dX7_copy_109 : decode cX7_copy 109 = .ok (.ladd, 1) := by decide +kernel
theorem dX7_copy_110 : decode cX7_copy 110 = .ok (.aload_n 0, 1) := by decide +kernel
theorem dX7_copy_111 : decode cX7_copy 111 = .ok (.getfield 13, 3) := by decide +kernel
theorem dX7_copy_114 : decode cX7_copy 114 = .ok (.iload_n 3, 1) := by decide +kernel
theorem dX7_copy_115 : decode cX7_copy 115 = .ok (.iaload, 1) := by decide +kernel
theorem dX7_copy_116 : decode cX7_copy 116 = .ok (.i2l, 1) := by decide +kernel
theorem dX7_copy_117 : decode cX7_copy 117 = .ok (.lcmp, 1) := by decide +kernel
theorem dX7_copy_118 : decode cX7_copy 118 = .ok (.ifCond .le 9, 3) := by decide +kernel
theorem dX7_copy_121 : decode cX7_copy 121 = .ok (.aload_n 0, 1) := by decide +kernel
theorem dX7_copy_122 : decode cX7_copy 122 = .ok (.iconst 2, 1) := by decide +kernel
theorem dX7_copy_123 : decode cX7_copy 123 = .ok (.invokevirtual 72, 3) := by decide +kernel
theorem dX7_copy_126 : decode cX7_copy 126 = .ok (.ireturn, 1) := by decide +kernel
theorem dX7_copy_127 : decode cX7_copy 127 = .ok (.iload_n 2, 1) := by decide +kernel
theorem dX7_copy_128 : decode cX7_copy 128 = .ok (.iload 4, 2) := by decide +kernel
theorem dX7_copy_130 : decode cX7_copy 130 = .ok (.if_icmp .lt 7, 3) := by decide +kernel
theorem dX7_copy_133 : decode cX7_copy 133 = .ok (.iconst 1, 1) := by decide +kernel
theorem dX7_copy_134 : decode cX7_copy 134 = .ok (.goto 4, 3) := by decide +kernel
theorem dX7_copy_137 : decode cX7_copy 137 = .ok (.iconst 0, 1) := by decide +kernel
theorem dX7_copy_138 : decode cX7_copy 138 = .ok (.istore 6, 2) := by decide +kernel
theorem dX7_copy_140 : decode cX7_copy 140 = .ok (.iconst 0, 1) := by decide +kernel
theorem dX7_copy_141 : decode cX7_copy 141 = .ok (.istore 7, 2) := by decide +kernel
theorem dX7_copy_143 : decode cX7_copy 143 = .ok (.iload 7, 2) := by decide +kernel
theorem dX7_copy_145 : decode cX7_copy 145 = .ok (.iload 5, 2) := by decide +kernel
theorem dX7_copy_147 : decode cX7_copy 147 = .ok (.if_icmp .ge 57, 3) := by decide +kernel
theorem dX7_copy_150 : decode cX7_copy 150 = .ok (.iload 6, 2) := by decide +kernel
theorem dX7_copy_152 : decode cX7_copy 152 = .ok (.ifCond .eq 8, 3) := by decide +kernel
theorem dX7_copy_155 : decode cX7_copy 155 = .ok (.iload 7, 2) := by decide +kernel
theorem dX7_copy_157 : decode cX7_copy 157 = .ok (.goto 10, 3) := by decide +kernel
theorem dX7_copy_160 : decode cX7_copy 160 = .ok (.iload 5, 2) := by decide +kernel
theorem dX7_copy_162 : decode cX7_copy 162 = .ok (.iconst 1, 1) := by decide +kernel
theorem dX7_copy_163 : decode cX7_copy 163 = .ok (.isub, 1) := by decide +kernel
theorem dX7_copy_164 : decode cX7_copy 164 = .ok (.iload 7, 2) := by decide +kernel
theorem dX7_copy_166 : decode cX7_copy 166 = .ok (.isub, 1) := by decide +kernel
theorem dX7_copy_167 : decode cX7_copy 167 = .ok (.istore 8, 2) := by decide +kernel
theorem dX7_copy_169 : decode cX7_copy 169 = .ok (.aload_n 0, 1) := by decide +kernel
theorem dX7_copy_170 : decode cX7_copy 170 = .ok (.getfield 16, 3) := by decide +kernel
theorem dX7_copy_173 : decode cX7_copy 173 = .ok (.bipush 40, 2) := by decide +kernel
theorem dX7_copy_175 : decode cX7_copy 175 = .ok (.iload_n 3, 1) := by decide +kernel
theorem dX7_copy_176 : decode cX7_copy 176 = .ok (.imul, 1) := by decide +kernel
theorem dX7_copy_177 : decode cX7_copy 177 = .ok (.iload 4, 2) := by decide +kernel
theorem dX7_copy_179 : decode cX7_copy 179 = .ok (.iadd, 1) := by decide +kernel
theorem dX7_copy_180 : decode cX7_copy 180 = .ok (.iload 8, 2) := by decide +kernel
theorem dX7_copy_182 : decode cX7_copy 182 = .ok (.iadd, 1) := by decide +kernel
theorem dX7_copy_183 : decode cX7_copy 183 = .ok (.aload_n 0, 1) := by decide +kernel
theorem dX7_copy_184 : decode cX7_copy 184 = .ok (.getfield 16, 3) := by decide +kernel
theorem dX7_copy_187 : decode cX7_copy 187 = .ok (.bipush 40, 2) := by decide +kernel
theorem dX7_copy_189 : decode cX7_copy 189 = .ok (.iload_n 1, 1) := by decide +kernel
theorem dX7_copy_190 : decode cX7_copy 190 = .ok (.imul, 1) := by decide +kernel
theorem dX7_copy_191 : decode cX7_copy 191 = .ok (.iload_n 2, 1) := by decide +kernel
theorem dX7_copy_192 : decode cX7_copy 192 = .ok (.iadd, 1) := by decide +kernel
theorem dX7_copy_193 : decode cX7_copy 193 = .ok (.iload 8, 2) := by decide +kernel
theorem dX7_copy_195 : decode cX7_copy 195 = .ok (.iadd, 1) := by decide +kernel
theorem dX7_copy_196 : decode cX7_copy 196 = .ok (.iaload, 1) := by decide +kernel
theorem dX7_copy_197 : decode cX7_copy 197 = .ok (.iastore, 1) := by decide +kernel
theorem dX7_copy_198 : decode cX7_copy 198 = .ok (.iinc 7 1, 3) := by decide +kernel
theorem dX7_copy_201 : decode cX7_copy 201 = .ok (.goto (-58), 3) := by decide +kernel
theorem dX7_copy_204 : decode cX7_copy 204 = .ok (.iload 5, 2) := by decide +kernel
theorem dX7_copy_206 : decode cX7_copy 206 = .ok (.ireturn, 1) := by decide +kernel
set_option maxRecDepth 20000 in
theorem ggX7_drop_X7_isSheet : GoodIn wsX7_drop wsX7_isSheet := goodIn_r _ [9, 10, 11, 12, 8, 13] (by decide +kernel) (by decide +kernel)
set_option maxRecDepth 20000 in
theorem gX7_drop_X7_isSheet : GoodIn wsX7_drop (va_wsS RX7 65 yX7_isSheet wsX7_isSheet) := goodIn_app (goodIn_of _ (by decide +kernel)) ggX7_drop_X7_isSheet
set_option maxRecDepth 20000 in
theorem ggX7_drop_X7_found : GoodIn wsX7_drop wsX7_found := goodIn_r _ [17, 3, 18, 19, 20, 21, 22, 23, 24, 25, 26, 27, 28, 29, 30, 31, 32, 33, 34, 35, 36, 37, 38, 39, 40, 41, 42, 43, 44, 45, 46] (by decide +kernel) (by decide +kernel)
set_option maxRecDepth 20000 in
theorem gX7_drop_X7_found : GoodIn wsX7_drop (wsV RX7 72 RX7 yX7_found wsX7_found) := goodIn_app (goodIn_of _ (by decide +kernel)) ggX7_drop_X7_found
theorem dX7_drop_0 : decode cX7_drop 0 = .ok (.aload_n 0, 1) := by decide +kernel
theorem dX7_drop_1 : decode cX7_drop 1 = .ok (.iconst 0, 1) := by decide +kernel
theorem dX7_drop_2 : decode cX7_drop 2 = .ok (.putfield 51, 3) := by decide +kernel
theorem dX7_drop_5 : decode cX7_drop 5 = .ok (.iload_n 1, 1) := by decide +kernel
theorem dX7_drop_6 : decode cX7_drop 6 = .ok (.invokestatic 65, 3) := by decide +kernel
theorem dX7_drop_9 : decode cX7_drop 9 = .ok (.ifCond .ne 6, 3) := by decide +kernel
theorem dX7_drop_12 : decode cX7_drop 12 = .ok (.ldc 71, 2) := by decide +kernel
theorem dX7_drop_14 : decode cX7_drop 14 = .ok (.ireturn, 1) := by decide +kernel
theorem dX7_drop_15 : decode cX7_drop 15 = .ok (.aload_n 0, 1) := by decide +kernel
theorem dX7_drop_16 : decode cX7_drop 16 = .ok (.iconst 0, 1) := by decide +kernel
theorem dX7_drop_17 : decode cX7_drop 17 = .ok (.putfield 55, 3) := by decide +kernel
theorem dX7_drop_20 : decode cX7_drop 20 = .ok (.aload_n 0, 1) := by decide +kernel
theorem dX7_drop_21 : decode cX7_drop 21 = .ok (.getfield 7, 3) := by decide +kernel
theorem dX7_drop_24 : decode cX7_drop 24 = .ok (.iload_n 1, 1) := by decide +kernel
theorem dX7_drop_25 : decode cX7_drop 25 = .ok (.iaload, 1) := by decide +kernel
theorem dX7_drop_26 : decode cX7_drop 26 = .ok (.ifCond .ge 9, 3) := by decide +kernel
theorem dX7_drop_29 : decode cX7_drop 29 = .ok (.aload_n 0, 1) := by decide +kernel
theorem dX7_drop_30 : decode cX7_drop 30 = .ok (.iconst 1, 1) := by decide +kernel
theorem dX7_drop_31 : decode cX7_drop 31 = .ok (.invokevirtual 72, 3) := by decide +kernel
theorem dX7_drop_34 : decode cX7_drop 34 = .ok (.ireturn, 1) := by decide +kernel
theorem dX7_drop_35 : decode cX7_drop 35 = .ok (.aload_n 0, 1) := by decide +kernel
theorem dX7_drop_36 : decode cX7_drop 36 = .ok (.getfield 7, 3) := by decide +kernel
theorem dX7_drop_39 : decode cX7_drop 39 = .ok (.iload_n 1, 1) := by decide +kernel
theorem dX7_drop_40 : decode cX7_drop 40 = .ok (.iconst (-1), 1) := by decide +kernel
theorem dX7_drop_41 : decode cX7_drop 41 = .ok (.iastore, 1) := by decide +kernel
theorem dX7_drop_42 : decode cX7_drop 42 = .ok (.aload_n 0, 1) := by decide +kernel
theorem dX7_drop_43 : decode cX7_drop 43 = .ok (.getfield 13, 3) := by decide +kernel
theorem dX7_drop_46 : decode cX7_drop 46 = .ok (.iload_n 1, 1) := by decide +kernel
theorem dX7_drop_47 : decode cX7_drop 47 = .ok (.iaload, 1) := by decide +kernel
theorem dX7_drop_48 : decode cX7_drop 48 = .ok (.ireturn, 1) := by decide +kernel
set_option maxRecDepth 20000 in
theorem ggX7_isPost_X7_in : GoodIn wsX7_isPost wsX7_in := goodIn_r _ [5] (by decide +kernel) (by decide +kernel)
set_option maxRecDepth 20000 in
theorem gX7_isPost_X7_in : GoodIn wsX7_isPost (va_wsS RX7 61 yX7_in wsX7_in) := goodIn_app (goodIn_of _ (by decide +kernel)) ggX7_isPost_X7_in
theorem dX7_isPost_0 : decode cX7_isPost 0 = .ok (.iload_n 1, 1) := by decide +kernel
theorem dX7_isPost_1 : decode cX7_isPost 1 = .ok (.i2l, 1) := by decide +kernel
theorem dX7_isPost_2 : decode cX7_isPost 2 = .ok (.lconst 0, 1) := by decide +kernel
theorem dX7_isPost_3 : decode cX7_isPost 3 = .ok (.aload_n 0, 1) := by decide +kernel
theorem dX7_isPost_4 : decode cX7_isPost 4 = .ok (.getfield 76, 3) := by decide +kernel
theorem dX7_isPost_7 : decode cX7_isPost 7 = .ok (.iconst 1, 1) := by decide +kernel
theorem dX7_isPost_8 : decode cX7_isPost 8 = .ok (.isub, 1) := by decide +kernel
theorem dX7_isPost_9 : decode cX7_isPost 9 = .ok (.i2l, 1) := by decide +kernel
theorem dX7_isPost_10 : decode cX7_isPost 10 = .ok (.invokestatic 61, 3) := by decide +kernel
theorem dX7_isPost_13 : decode cX7_isPost 13 = .ok (.ireturn, 1) := by decide +kernel
theorem dX7_size_0 : decode cX7_size 0 = .ok (.iconst 0, 1) := by decide +kernel
theorem dX7_size_1 : decode cX7_size 1 = .ok (.istore_n 1, 1) := by decide +kernel
theorem dX7_size_2 : decode cX7_size 2 = .ok (.iconst 0, 1) := by decide +kernel
theorem dX7_size_3 : decode cX7_size 3 = .ok (.istore_n 2, 1) := by decide +kernel
theorem dX7_size_4 : decode cX7_size 4 = .ok (.iload_n 2, 1) := by decide +kernel
theorem dX7_size_5 : decode cX7_size 5 = .ok (.bipush 8, 2) := by decide +kernel
theorem dX7_size_7 : decode cX7_size 7 = .ok (.if_icmp .ge 17, 3) := by decide +kernel
theorem dX7_size_10 : decode cX7_size 10 = .ok (.iload_n 1, 1) := by decide +kernel
theorem dX7_size_11 : decode cX7_size 11 = .ok (.iload_n 0, 1) := by decide +kernel
theorem dX7_size_12 : decode cX7_size 12 = .ok (.iload_n 2, 1) := by decide +kernel
theorem dX7_size_13 : decode cX7_size 13 = .ok (.ishr, 1) := by decide +kernel
theorem dX7_size_14 : decode cX7_size 14 = .ok (.iconst 1, 1) := by decide +kernel
theorem dX7_size_15 : decode cX7_size 15 = .ok (.iand, 1) := by decide +kernel
theorem dX7_size_16 : decode cX7_size 16 = .ok (.iadd, 1) := by decide +kernel
theorem dX7_size_17 : decode cX7_size 17 = .ok (.istore_n 1, 1) := by decide +kernel
theorem dX7_size_18 : decode cX7_size 18 = .ok (.iinc 2 1, 3) := by decide +kernel
theorem dX7_size_21 : decode cX7_size 21 = .ok (.goto (-17), 3) := by decide +kernel
theorem dX7_size_24 : decode cX7_size 24 = .ok (.iload_n 1, 1) := by decide +kernel
theorem dX7_size_25 : decode cX7_size 25 = .ok (.ireturn, 1) := by decide +kernel
theorem dX7_all_0 : decode cX7_all 0 = .ok (.iconst 1, 1) := by decide +kernel
theorem dX7_all_1 : decode cX7_all 1 = .ok (.aload_n 0, 1) := by decide +kernel
theorem dX7_all_2 : decode cX7_all 2 = .ok (.getfield 76, 3) := by decide +kernel
theorem dX7_all_5 : decode cX7_all 5 = .ok (.ishl, 1) := by decide +kernel
theorem dX7_all_6 : decode cX7_all 6 = .ok (.iconst 1, 1) := by decide +kernel
theorem dX7_all_7 : decode cX7_all 7 = .ok (.isub, 1) := by decide +kernel
theorem dX7_all_8 : decode cX7_all 8 = .ok (.ireturn, 1) := by decide +kernel
theorem dX7_post_0 : decode cX7_post 0 = .ok (.aload_n 0, 1) := by decide +kernel
theorem dX7_post_1 : decode cX7_post 1 = .ok (.iconst 0, 1) := by decide +kernel
theorem dX7_post_2 : decode cX7_post 2 = .ok (.putfield 51, 3) := by decide +kernel
theorem dX7_post_5 : decode cX7_post 5 = .ok (.aload_n 0, 1) := by decide +kernel
theorem dX7_post_6 : decode cX7_post 6 = .ok (.getfield 76, 3) := by decide +kernel
theorem dX7_post_9 : decode cX7_post 9 = .ok (.bipush 8, 2) := by decide +kernel
theorem dX7_post_11 : decode cX7_post 11 = .ok (.if_icmp .ne 6, 3) := by decide +kernel
theorem dX7_post_14 : decode cX7_post 14 = .ok (.ldc 79, 2) := by decide +kernel
theorem dX7_post_16 : decode cX7_post 16 = .ok (.ireturn, 1) := by decide +kernel
theorem dX7_post_17 : decode cX7_post 17 = .ok (.aload_n 0, 1) := by decide +kernel
theorem dX7_post_18 : decode cX7_post 18 = .ok (.dup, 1) := by decide +kernel
theorem dX7_post_19 : decode cX7_post 19 = .ok (.getfield 76, 3) := by decide +kernel
theorem dX7_post_22 : decode cX7_post 22 = .ok (.iconst 1, 1) := by decide +kernel
theorem dX7_post_23 : decode cX7_post 23 = .ok (.iadd, 1) := by decide +kernel
theorem dX7_post_24 : decode cX7_post 24 = .ok (.putfield 76, 3) := by decide +kernel
theorem dX7_post_27 : decode cX7_post 27 = .ok (.aload_n 0, 1) := by decide +kernel
theorem dX7_post_28 : decode cX7_post 28 = .ok (.getfield 76, 3) := by decide +kernel
theorem dX7_post_31 : decode cX7_post 31 = .ok (.iconst 1, 1) := by decide +kernel
theorem dX7_post_32 : decode cX7_post 32 = .ok (.isub, 1) := by decide +kernel
theorem dX7_post_33 : decode cX7_post 33 = .ok (.ireturn, 1) := by decide +kernel
set_option maxRecDepth 20000 in
theorem ggX7_join_X7_isPost : GoodIn wsX7_join wsX7_isPost := goodIn_r _ [8, 9, 10, 11, 7, 12, 13, 14, 15, 16, 17, 18, 19, 20, 21, 22, 23, 24, 25, 26, 27, 28, 29, 30, 31, 32, 33, 34, 35, 36, 37, 38, 39, 40] (by decide +kernel) (by decide +kernel)
set_option maxRecDepth 20000 in
theorem gX7_join_X7_isPost : GoodIn wsX7_join (wsV RX7 80 RX7 yX7_isPost wsX7_isPost) := goodIn_app (goodIn_of _ (by decide +kernel)) ggX7_join_X7_isPost
theorem dX7_join_0 : decode cX7_join 0 = .ok (.aload_n 0, 1) := by decide +kernel
theorem dX7_join_1 : decode cX7_join 1 = .ok (.iconst 0, 1) := by decide +kernel
theorem dX7_join_2 : decode cX7_join 2 = .ok (.putfield 51, 3) := by decide +kernel
theorem dX7_join_5 : decode cX7_join 5 = .ok (.aload_n 0, 1) := by decide +kernel
theorem dX7_join_6 : decode cX7_join 6 = .ok (.iload_n 1, 1) := by decide +kernel
theorem dX7_join_7 : decode cX7_join 7 = .ok (.invokevirtual 80, 3) := by decide +kernel
theorem dX7_join_10 : decode cX7_join 10 = .ok (.ifCond .eq 16, 3) := by decide +kernel
theorem dX7_join_13 : decode cX7_join 13 = .ok (.aload_n 0, 1) := by decide +kernel
theorem dX7_join_14 : decode cX7_join 14 = .ok (.iload_n 2, 1) := by decide +kernel
theorem dX7_join_15 : decode cX7_join 15 = .ok (.invokevirtual 80, 3) := by decide +kernel
theorem dX7_join_18 : decode cX7_join 18 = .ok (.ifCond .eq 8, 3) := by decide +kernel
theorem dX7_join_21 : decode cX7_join 21 = .ok (.iload_n 1, 1) := by decide +kernel
theorem dX7_join_22 : decode cX7_join 22 = .ok (.iload_n 2, 1) := by decide +kernel
theorem dX7_join_23 : decode cX7_join 23 = .ok (.if_icmp .ne 6, 3) := by decide +kernel
theorem dX7_join_26 : decode cX7_join 26 = .ok (.ldc 71, 2) := by decide +kernel
theorem dX7_join_28 : decode cX7_join 28 = .ok (.ireturn, 1) := by decide +kernel
theorem dX7_join_29 : decode cX7_join 29 = .ok (.aload_n 0, 1) := by decide +kernel
theorem dX7_join_30 : decode cX7_join 30 = .ok (.getfield 19, 3) := by decide +kernel
theorem dX7_join_33 : decode cX7_join 33 = .ok (.iload_n 1, 1) := by decide +kernel
theorem dX7_join_34 : decode cX7_join 34 = .ok (.iaload, 1) := by decide +kernel
theorem dX7_join_35 : decode cX7_join 35 = .ok (.iload_n 2, 1) := by decide +kernel
theorem dX7_join_36 : decode cX7_join 36 = .ok (.ishr, 1) := by decide +kernel
theorem dX7_join_37 : decode cX7_join 37 = .ok (.iconst 1, 1) := by decide +kernel
theorem dX7_join_38 : decode cX7_join 38 = .ok (.iand, 1) := by decide +kernel
theorem dX7_join_39 : decode cX7_join 39 = .ok (.iconst 1, 1) := by decide +kernel
theorem dX7_join_40 : decode cX7_join 40 = .ok (.if_icmp .ne 7, 3) := by decide +kernel
theorem dX7_join_43 : decode cX7_join 43 = .ok (.iconst 1, 1) := by decide +kernel
theorem dX7_join_44 : decode cX7_join 44 = .ok (.goto 4, 3) := by decide +kernel
theorem dX7_join_47 : decode cX7_join 47 = .ok (.iconst 0, 1) := by decide +kernel
theorem dX7_join_48 : decode cX7_join 48 = .ok (.istore_n 3, 1) := by decide +kernel
theorem dX7_join_49 : decode cX7_join 49 = .ok (.aload_n 0, 1) := by decide +kernel
theorem dX7_join_50 : decode cX7_join 50 = .ok (.getfield 19, 3) := by decide +kernel
theorem dX7_join_53 : decode cX7_join 53 = .ok (.iload_n 1, 1) := by decide +kernel
theorem dX7_join_54 : decode cX7_join 54 = .ok (.dup2, 1) := by decide +kernel
theorem dX7_join_55 : decode cX7_join 55 = .ok (.iaload, 1) := by decide +kernel
theorem dX7_join_56 : decode cX7_join 56 = .ok (.iconst 1, 1) := by decide +kernel
theorem dX7_join_57 : decode cX7_join 57 = .ok (.iload_n 2, 1) := by decide +kernel
theorem dX7_join_58 : decode cX7_join 58 = .ok (.ishl, 1) := by decide +kernel
theorem dX7_join_59 : decode cX7_join 59 = .ok (.ior, 1) := by decide +kernel
theorem dX7_join_60 : decode cX7_join 60 = .ok (.iastore, 1) := by decide +kernel
theorem dX7_join_61 : decode cX7_join 61 = .ok (.aload_n 0, 1) := by decide +kernel
theorem dX7_join_62 : decode cX7_join 62 = .ok (.getfield 19, 3) := by decide +kernel
theorem dX7_join_65 : decode cX7_join 65 = .ok (.iload_n 2, 1) := by decide +kernel
theorem dX7_join_66 : decode cX7_join 66 = .ok (.dup2, 1) := by decide +kernel
theorem dX7_join_67 : decode cX7_join 67 = .ok (.iaload, 1) := by decide +kernel
theorem dX7_join_68 : decode cX7_join 68 = .ok (.iconst 1, 1) := by decide +kernel
theorem dX7_join_69 : decode cX7_join 69 = .ok (.iload_n 1, 1) := by decide +kernel
theorem dX7_join_70 : decode cX7_join 70 = .ok (.ishl, 1) := by decide +kernel
theorem dX7_join_71 : decode cX7_join 71 = .ok (.ior, 1) := by decide +kernel
theorem dX7_join_72 : decode cX7_join 72 = .ok (.iastore, 1) := by decide +kernel
theorem dX7_join_73 : decode cX7_join 73 = .ok (.iload_n 3, 1) := by decide +kernel
theorem dX7_join_74 : decode cX7_join 74 = .ok (.ifCond .eq 7, 3) := by decide +kernel
theorem dX7_join_77 : decode cX7_join 77 = .ok (.iconst 0, 1) := by decide +kernel
theorem dX7_join_78 : decode cX7_join 78 = .ok (.goto 4, 3) := by decide +kernel
theorem dX7_join_81 : decode cX7_join 81 = .ok (.iconst 1, 1) := by decide +kernel
theorem dX7_join_82 : decode cX7_join 82 = .ok (.ireturn, 1) := by decide +kernel
set_option maxRecDepth 20000 in
theorem ggX7_part_X7_isPost : GoodIn wsX7_part wsX7_isPost := goodIn_r _ [8, 9, 10, 11, 7, 12, 13, 14, 15, 16, 17, 18, 19, 20, 21, 22, 23, 24, 25, 26, 27, 28, 29, 30, 31, 32, 33, 34, 35, 36, 37, 38, 39, 40] (by decide +kernel) (by decide +kernel)
set_option maxRecDepth 20000 in
theorem gX7_part_X7_isPost : GoodIn wsX7_part (wsV RX7 80 RX7 yX7_isPost wsX7_isPost) := goodIn_app (goodIn_of _ (by decide +kernel)) ggX7_part_X7_isPost
theorem dX7_part_0 : decode cX7_part 0 = .ok (.aload_n 0, 1) := by decide +kernel
theorem dX7_part_1 : decode cX7_part 1 = .ok (.iconst 0, 1) := by decide +kernel
theorem dX7_part_2 : decode cX7_part 2 = .ok (.putfield 51, 3) := by decide +kernel
theorem dX7_part_5 : decode cX7_part 5 = .ok (.aload_n 0, 1) := by decide +kernel
theorem dX7_part_6 : decode cX7_part 6 = .ok (.iload_n 1, 1) := by decide +kernel
theorem dX7_part_7 : decode cX7_part 7 = .ok (.invokevirtual 80, 3) := by decide +kernel
theorem dX7_part_10 : decode cX7_part 10 = .ok (.ifCond .eq 16, 3) := by decide +kernel
theorem dX7_part_13 : decode cX7_part 13 = .ok (.aload_n 0, 1) := by decide +kernel
theorem dX7_part_14 : decode cX7_part 14 = .ok (.iload_n 2, 1) := by decide +kernel
theorem dX7_part_15 : decode cX7_part 15 = .ok (.invokevirtual 80, 3) := by decide +kernel
theorem dX7_part_18 : decode cX7_part 18 = .ok (.ifCond .eq 8, 3) := by decide +kernel
theorem dX7_part_21 : decode cX7_part 21 = .ok (.iload_n 1, 1) := by decide +kernel
theorem dX7_part_22 : decode cX7_part 22 = .ok (.iload_n 2, 1) := by decide +kernel
theorem dX7_part_23 : decode cX7_part 23 = .ok (.if_icmp .ne 6, 3) := by decide +kernel
theorem dX7_part_26 : decode cX7_part 26 = .ok (.ldc 71, 2) := by decide +kernel
theorem dX7_part_28 : decode cX7_part 28 = .ok (.ireturn, 1) := by decide +kernel
theorem dX7_part_29 : decode cX7_part 29 = .ok (.aload_n 0, 1) := by decide +kernel
theorem dX7_part_30 : decode cX7_part 30 = .ok (.getfield 19, 3) := by decide +kernel
theorem dX7_part_33 : decode cX7_part 33 = .ok (.iload_n 1, 1) := by decide +kernel
theorem dX7_part_34 : decode cX7_part 34 = .ok (.iaload, 1) := by decide +kernel
theorem dX7_part_35 : decode cX7_part 35 = .ok (.iload_n 2, 1) := by decide +kernel
theorem dX7_part_36 : decode cX7_part 36 = .ok (.ishr, 1) := by decide +kernel
theorem dX7_part_37 : decode cX7_part 37 = .ok (.iconst 1, 1) := by decide +kernel
theorem dX7_part_38 : decode cX7_part 38 = .ok (.iand, 1) := by decide +kernel
theorem dX7_part_39 : decode cX7_part 39 = .ok (.iconst 1, 1) := by decide +kernel
theorem dX7_part_40 : decode cX7_part 40 = .ok (.if_icmp .ne 7, 3) := by decide +kernel
theorem dX7_part_43 : decode cX7_part 43 = .ok (.iconst 1, 1) := by decide +kernel
theorem dX7_part_44 : decode cX7_part 44 = .ok (.goto 4, 3) := by decide +kernel
theorem dX7_part_47 : decode cX7_part 47 = .ok (.iconst 0, 1) := by decide +kernel
theorem dX7_part_48 : decode cX7_part 48 = .ok (.istore_n 3, 1) := by decide +kernel
theorem dX7_part_49 : decode cX7_part 49 = .ok (.aload_n 0, 1) := by decide +kernel
theorem dX7_part_50 : decode cX7_part 50 = .ok (.getfield 19, 3) := by decide +kernel
theorem dX7_part_53 : decode cX7_part 53 = .ok (.iload_n 1, 1) := by decide +kernel
theorem dX7_part_54 : decode cX7_part 54 = .ok (.dup2, 1) := by decide +kernel
theorem dX7_part_55 : decode cX7_part 55 = .ok (.iaload, 1) := by decide +kernel
theorem dX7_part_56 : decode cX7_part 56 = .ok (.iconst 1, 1) := by decide +kernel
theorem dX7_part_57 : decode cX7_part 57 = .ok (.iload_n 2, 1) := by decide +kernel
theorem dX7_part_58 : decode cX7_part 58 = .ok (.ishl, 1) := by decide +kernel
theorem dX7_part_59 : decode cX7_part 59 = .ok (.iconst (-1), 1) := by decide +kernel
theorem dX7_part_60 : decode cX7_part 60 = .ok (.ixor, 1) := by decide +kernel
theorem dX7_part_61 : decode cX7_part 61 = .ok (.iand, 1) := by decide +kernel
theorem dX7_part_62 : decode cX7_part 62 = .ok (.iastore, 1) := by decide +kernel
theorem dX7_part_63 : decode cX7_part 63 = .ok (.aload_n 0, 1) := by decide +kernel
theorem dX7_part_64 : decode cX7_part 64 = .ok (.getfield 19, 3) := by decide +kernel
theorem dX7_part_67 : decode cX7_part 67 = .ok (.iload_n 2, 1) := by decide +kernel
theorem dX7_part_68 : decode cX7_part 68 = .ok (.dup2, 1) := by decide +kernel
theorem dX7_part_69 : decode cX7_part 69 = .ok (.iaload, 1) := by decide +kernel
theorem dX7_part_70 : decode cX7_part 70 = .ok (.iconst 1, 1) := by decide +kernel
theorem dX7_part_71 : decode cX7_part 71 = .ok (.iload_n 1, 1) := by decide +kernel
theorem dX7_part_72 : decode cX7_part 72 = .ok (.ishl, 1) := by decide +kernel
theorem dX7_part_73 : decode cX7_part 73 = .ok (.iconst (-1), 1) := by decide +kernel
theorem dX7_part_74 : decode cX7_part 74 = .ok (.ixor, 1) := by decide +kernel
theorem dX7_part_75 : decode cX7_part 75 = .ok (.iand, 1) := by decide +kernel
theorem dX7_part_76 : decode cX7_part 76 = .ok (.iastore, 1) := by decide +kernel
theorem dX7_part_77 : decode cX7_part 77 = .ok (.iload_n 3, 1) := by decide +kernel
theorem dX7_part_78 : decode cX7_part 78 = .ok (.ifCond .eq 7, 3) := by decide +kernel
theorem dX7_part_81 : decode cX7_part 81 = .ok (.iconst 1, 1) := by decide +kernel
theorem dX7_part_82 : decode cX7_part 82 = .ok (.goto 4, 3) := by decide +kernel
theorem dX7_part_85 : decode cX7_part 85 = .ok (.iconst 0, 1) := by decide +kernel
theorem dX7_part_86 : decode cX7_part 86 = .ok (.ireturn, 1) := by decide +kernel
theorem dX7_around_0 : decode cX7_around 0 = .ok (.iconst 0, 1) := by decide +kernel
theorem dX7_around_1 : decode cX7_around 1 = .ok (.istore_n 2, 1) := by decide +kernel
theorem dX7_around_2 : decode cX7_around 2 = .ok (.iconst 0, 1) := by decide +kernel
theorem dX7_around_3 : decode cX7_around 3 = .ok (.istore_n 3, 1) := by decide +kernel
theorem dX7_around_4 : decode cX7_around 4 = .ok (.iload_n 3, 1) := by decide +kernel
theorem dX7_around_5 : decode cX7_around 5 = .ok (.aload_n 0, 1) := by decide +kernel
theorem dX7_around_6 : decode cX7_around 6 = .ok (.getfield 76, 3) := by decide +kernel
theorem dX7_around_9 : decode cX7_around 9 = .ok (.if_icmp .ge 31, 3) := by decide +kernel
theorem dX7_around_12 : decode cX7_around 12 = .ok (.iload_n 2, 1) := by decide +kernel
theorem dX7_around_13 : decode cX7_around 13 = .ok (.iload_n 1, 1) := by decide +kernel
theorem dX7_around_14 : decode cX7_around 14 = .ok (.iload_n 3, 1) := by decide +kernel
theorem dX7_around_15 : decode cX7_around 15 = .ok (.ishr, 1) := by decide +kernel
theorem dX7_around_16 : decode cX7_around 16 = .ok (.iconst 1, 1) := by decide +kernel
theorem dX7_around_17 : decode cX7_around 17 = .ok (.iand, 1) := by decide +kernel
theorem dX7_around_18 : decode cX7_around 18 = .ok (.iconst 1, 1) := by decide +kernel
theorem dX7_around_19 : decode cX7_around 19 = .ok (.if_icmp .ne 12, 3) := by decide +kernel
theorem dX7_around_22 : decode cX7_around 22 = .ok (.aload_n 0, 1) := by decide +kernel
theorem dX7_around_23 : decode cX7_around 23 = .ok (.getfield 19, 3) := by decide +kernel
theorem dX7_around_26 : decode cX7_around 26 = .ok (.iload_n 3, 1) := by decide +kernel
theorem dX7_around_27 : decode cX7_around 27 = .ok (.iaload, 1) := by decide +kernel
theorem dX7_around_28 : decode cX7_around 28 = .ok (.goto 4, 3) := by decide +kernel
theorem dX7_around_31 : decode cX7_around 31 = .ok (.iconst 0, 1) := by decide +kernel
theorem dX7_around_32 : decode cX7_around 32 = .ok (.ior, 1) := by decide +kernel
theorem dX7_around_33 : decode cX7_around 33 = .ok (.istore_n 2, 1) := by decide +kernel
theorem dX7_around_34 : decode cX7_around 34 = .ok (.iinc 3 1, 3) := by decide +kernel
theorem dX7_around_37 : decode cX7_around 37 = .ok (.goto (-33), 3) := by decide +kernel
theorem dX7_around_40 : decode cX7_around 40 = .ok (.iload_n 2, 1) := by decide +kernel
theorem dX7_around_41 : decode cX7_around 41 = .ok (.ireturn, 1) := by decide +kernel
set_option maxRecDepth 20000 in
theorem ggX7_reach_X7_around : GoodIn wsX7_reach wsX7_around := goodIn_r _ [5, 6, 7, 8, 9, 10, 11, 12, 13, 14, 15, 16, 17, 18, 19, 20, 21, 22, 23, 24, 25, 26, 27, 28, 29, 30, 31, 32, 33, 34, 35] (by decide +kernel) (by decide +kernel)
set_option maxRecDepth 20000 in
theorem gX7_reach_X7_around : GoodIn wsX7_reach (wsV RX7 83 RX7 yX7_around wsX7_around) := goodIn_app (goodIn_of _ (by decide +kernel)) ggX7_reach_X7_around
theorem dX7_reach_0 : decode cX7_reach 0 = .ok (.iload_n 1, 1) := by decide +kernel
theorem dX7_reach_1 : decode cX7_reach 1 = .ok (.istore_n 2, 1) := by decide +kernel
theorem dX7_reach_2 : decode cX7_reach 2 = .ok (.iconst 0, 1) := by decide +kernel
theorem dX7_reach_3 : decode cX7_reach 3 = .ok (.istore_n 3, 1) := by decide +kernel
theorem dX7_reach_4 : decode cX7_reach 4 = .ok (.iload_n 3, 1) := by decide +kernel
theorem dX7_reach_5 : decode cX7_reach 5 = .ok (.bipush 8, 2) := by decide +kernel
theorem dX7_reach_7 : decode cX7_reach 7 = .ok (.if_icmp .ge 17, 3) := by decide +kernel
theorem dX7_reach_10 : decode cX7_reach 10 = .ok (.iload_n 2, 1) := by decide +kernel
theorem dX7_reach_11 : decode cX7_reach 11 = .ok (.aload_n 0, 1) := by decide +kernel
theorem dX7_reach_12 : decode cX7_reach 12 = .ok (.iload_n 2, 1) := by decide +kernel
theorem dX7_reach_13 : decode cX7_reach 13 = .ok (.invokevirtual 83, 3) := by decide +kernel
theorem dX7_reach_16 : decode cX7_reach 16 = .ok (.ior, 1) := by decide +kernel
theorem dX7_reach_17 : decode cX7_reach 17 = .ok (.istore_n 2, 1) := by decide +kernel
theorem dX7_reach_18 : decode cX7_reach 18 = .ok (.iinc 3 1, 3) := by decide +kernel
theorem dX7_reach_21 : decode cX7_reach 21 = .ok (.goto (-17), 3) := by decide +kernel
theorem dX7_reach_24 : decode cX7_reach 24 = .ok (.iload_n 2, 1) := by decide +kernel
theorem dX7_reach_25 : decode cX7_reach 25 = .ok (.ireturn, 1) := by decide +kernel
set_option maxRecDepth 20000 in
theorem ggX7_farOf_X7_around : GoodIn wsX7_farOf wsX7_around := goodIn_r _ [6, 7, 8, 9, 10, 11, 12, 13, 14, 15, 16, 17, 18, 19, 20, 21, 22, 23, 24, 25, 26, 27, 28, 29, 30, 31, 32, 33, 34, 35, 36] (by decide +kernel) (by decide +kernel)
set_option maxRecDepth 20000 in
theorem gX7_farOf_X7_around : GoodIn wsX7_farOf (wsV RX7 83 RX7 yX7_around wsX7_around) := goodIn_app (goodIn_of _ (by decide +kernel)) ggX7_farOf_X7_around
theorem dX7_farOf_0 : decode cX7_farOf 0 = .ok (.iconst 1, 1) := by decide +kernel
theorem dX7_farOf_1 : decode cX7_farOf 1 = .ok (.iload_n 1, 1) := by decide +kernel
theorem dX7_farOf_2 : decode cX7_farOf 2 = .ok (.ishl, 1) := by decide +kernel
theorem dX7_farOf_3 : decode cX7_farOf 3 = .ok (.istore_n 3, 1) := by decide +kernel
theorem dX7_farOf_4 : decode cX7_farOf 4 = .ok (.iconst 0, 1) := by decide +kernel
theorem dX7_farOf_5 : decode cX7_farOf 5 = .ok (.istore 4, 2) := by decide +kernel
theorem dX7_farOf_7 : decode cX7_farOf 7 = .ok (.iload 4, 2) := by decide +kernel
theorem dX7_farOf_9 : decode cX7_farOf 9 = .ok (.bipush 8, 2) := by decide +kernel
theorem dX7_farOf_11 : decode cX7_farOf 11 = .ok (.if_icmp .ge 29, 3) := by decide +kernel
theorem dX7_farOf_14 : decode cX7_farOf 14 = .ok (.iload_n 3, 1) := by decide +kernel
theorem dX7_farOf_15 : decode cX7_farOf 15 = .ok (.iload_n 2, 1) := by decide +kernel
theorem dX7_farOf_16 : decode cX7_farOf 16 = .ok (.ishr, 1) := by decide +kernel
theorem dX7_farOf_17 : decode cX7_farOf 17 = .ok (.iconst 1, 1) := by decide +kernel
theorem dX7_farOf_18 : decode cX7_farOf 18 = .ok (.iand, 1) := by decide +kernel
theorem dX7_farOf_19 : decode cX7_farOf 19 = .ok (.iconst 1, 1) := by decide +kernel
theorem dX7_farOf_20 : decode cX7_farOf 20 = .ok (.if_icmp .ne 6, 3) := by decide +kernel
theorem dX7_farOf_23 : decode cX7_farOf 23 = .ok (.iload 4, 2) := by decide +kernel
theorem dX7_farOf_25 : decode cX7_farOf 25 = .ok (.ireturn, 1) := by decide +kernel
theorem dX7_farOf_26 : decode cX7_farOf 26 = .ok (.iload_n 3, 1) := by decide +kernel
theorem dX7_farOf_27 : decode cX7_farOf 27 = .ok (.aload_n 0, 1) := by decide +kernel
theorem dX7_farOf_28 : decode cX7_farOf 28 = .ok (.iload_n 3, 1) := by decide +kernel
theorem dX7_farOf_29 : decode cX7_farOf 29 = .ok (.invokevirtual 83, 3) := by decide +kernel
theorem dX7_farOf_32 : decode cX7_farOf 32 = .ok (.ior, 1) := by decide +kernel
theorem dX7_farOf_33 : decode cX7_farOf 33 = .ok (.istore_n 3, 1) := by decide +kernel
theorem dX7_farOf_34 : decode cX7_farOf 34 = .ok (.iinc 4 1, 3) := by decide +kernel
theorem dX7_farOf_37 : decode cX7_farOf 37 = .ok (.goto (-30), 3) := by decide +kernel
theorem dX7_farOf_40 : decode cX7_farOf 40 = .ok (.ldc 86, 2) := by decide +kernel
theorem dX7_farOf_42 : decode cX7_farOf 42 = .ok (.ireturn, 1) := by decide +kernel
set_option maxRecDepth 20000 in
theorem ggX7_widthOf_X7_farOf : GoodIn wsX7_widthOf wsX7_farOf := goodIn_r _ [6, 7, 8, 9, 10, 5, 11, 1, 12, 13, 14, 15, 16, 17, 18, 19, 20, 21, 22, 23, 24, 25, 26, 27, 28, 29, 30, 31, 32, 33, 34, 35, 36, 37, 38, 39, 40] (by decide +kernel) (by decide +kernel)
set_option maxRecDepth 20000 in
theorem gX7_widthOf_X7_farOf : GoodIn wsX7_widthOf (wsV RX7 87 RX7 yX7_farOf wsX7_farOf) := goodIn_app (goodIn_of _ (by decide +kernel)) ggX7_widthOf_X7_farOf
theorem dX7_widthOf_0 : decode cX7_widthOf 0 = .ok (.iconst 0, 1) := by decide +kernel
theorem dX7_widthOf_1 : decode cX7_widthOf 1 = .ok (.istore_n 2, 1) := by decide +kernel
theorem dX7_widthOf_2 : decode cX7_widthOf 2 = .ok (.iconst 0, 1) := by decide +kernel
theorem dX7_widthOf_3 : decode cX7_widthOf 3 = .ok (.istore_n 3, 1) := by decide +kernel
theorem dX7_widthOf_4 : decode cX7_widthOf 4 = .ok (.iload_n 3, 1) := by decide +kernel
theorem dX7_widthOf_5 : decode cX7_widthOf 5 = .ok (.aload_n 0, 1) := by decide +kernel
theorem dX7_widthOf_6 : decode cX7_widthOf 6 = .ok (.getfield 76, 3) := by decide +kernel
theorem dX7_widthOf_9 : decode cX7_widthOf 9 = .ok (.if_icmp .ge 30, 3) := by decide +kernel
theorem dX7_widthOf_12 : decode cX7_widthOf 12 = .ok (.aload_n 0, 1) := by decide +kernel
theorem dX7_widthOf_13 : decode cX7_widthOf 13 = .ok (.iload_n 1, 1) := by decide +kernel
theorem dX7_widthOf_14 : decode cX7_widthOf 14 = .ok (.iload_n 3, 1) := by decide +kernel
theorem dX7_widthOf_15 : decode cX7_widthOf 15 = .ok (.invokevirtual 87, 3) := by decide +kernel
theorem dX7_widthOf_18 : decode cX7_widthOf 18 = .ok (.iload_n 2, 1) := by decide +kernel
theorem dX7_widthOf_19 : decode cX7_widthOf 19 = .ok (.if_icmp .le 12, 3) := by decide +kernel
theorem dX7_widthOf_22 : decode cX7_widthOf 22 = .ok (.aload_n 0, 1) := by decide +kernel
theorem dX7_widthOf_23 : decode cX7_widthOf 23 = .ok (.iload_n 1, 1) := by decide +kernel
theorem dX7_widthOf_24 : decode cX7_widthOf 24 = .ok (.iload_n 3, 1) := by decide +kernel
theorem dX7_widthOf_25 : decode cX7_widthOf 25 = .ok (.invokevirtual 87, 3) := by decide +kernel
theorem dX7_widthOf_28 : decode cX7_widthOf 28 = .ok (.goto 4, 3) := by decide +kernel
theorem dX7_widthOf_31 : decode cX7_widthOf 31 = .ok (.iload_n 2, 1) := by decide +kernel
theorem dX7_widthOf_32 : decode cX7_widthOf 32 = .ok (.istore_n 2, 1) := by decide +kernel
theorem dX7_widthOf_33 : decode cX7_widthOf 33 = .ok (.iinc 3 1, 3) := by decide +kernel
theorem dX7_widthOf_36 : decode cX7_widthOf 36 = .ok (.goto (-32), 3) := by decide +kernel
theorem dX7_widthOf_39 : decode cX7_widthOf 39 = .ok (.iload_n 2, 1) := by decide +kernel
theorem dX7_widthOf_40 : decode cX7_widthOf 40 = .ok (.ireturn, 1) := by decide +kernel
set_option maxRecDepth 20000 in
theorem ggX7_far_X7_isPost : GoodIn wsX7_far wsX7_isPost := goodIn_r _ [7, 8, 9, 10, 6, 11, 22, 23, 24, 25, 26, 27, 28, 29, 30, 31, 32, 33, 34, 35, 36, 37, 38, 39, 40, 41, 42, 43, 44, 45, 46, 47, 48, 49] (by decide +kernel) (by decide +kernel)
set_option maxRecDepth 20000 in
theorem gX7_far_X7_isPost : GoodIn wsX7_far (wsV RX7 80 RX7 yX7_isPost wsX7_isPost) := goodIn_app (goodIn_of _ (by decide +kernel)) ggX7_far_X7_isPost
set_option maxRecDepth 20000 in
theorem ggX7_far_X7_farOf : GoodIn wsX7_far wsX7_farOf := goodIn_r _ [15, 16, 17, 18, 19, 6, 20, 8, 21, 22, 23, 24, 25, 26, 27, 28, 29, 30, 31, 32, 33, 34, 35, 36, 37, 38, 39, 40, 41, 42, 43, 44, 45, 46, 47, 48, 49] (by decide +kernel) (by decide +kernel)
set_option maxRecDepth 20000 in
theorem gX7_far_X7_farOf : GoodIn wsX7_far (wsV RX7 87 RX7 yX7_farOf wsX7_farOf) := goodIn_app (goodIn_of _ (by decide +kernel)) ggX7_far_X7_farOf
theorem dX7_far_0 : decode cX7_far 0 = .ok (.aload_n 0, 1) := by decide +kernel
theorem dX7_far_1 : decode cX7_far 1 = .ok (.iconst 0, 1) := by decide +kernel
theorem dX7_far_2 : decode cX7_far 2 = .ok (.putfield 51, 3) := by decide +kernel
theorem dX7_far_5 : decode cX7_far 5 = .ok (.aload_n 0, 1) := by decide +kernel
theorem dX7_far_6 : decode cX7_far 6 = .ok (.iload_n 1, 1) := by decide +kernel
theorem dX7_far_7 : decode cX7_far 7 = .ok (.invokevirtual 80, 3) := by decide +kernel
theorem dX7_far_10 : decode cX7_far 10 = .ok (.ifCond .eq 11, 3) := by decide +kernel
theorem dX7_far_13 : decode cX7_far 13 = .ok (.aload_n 0, 1) := by decide +kernel
theorem dX7_far_14 : decode cX7_far 14 = .ok (.iload_n 2, 1) := by decide +kernel
theorem dX7_far_15 : decode cX7_far 15 = .ok (.invokevirtual 80, 3) := by decide +kernel
theorem dX7_far_18 : decode cX7_far 18 = .ok (.ifCond .ne 8, 3) := by decide +kernel
theorem dX7_far_21 : decode cX7_far 21 = .ok (.ldc 71, 2) := by decide +kernel
theorem dX7_far_23 : decode cX7_far 23 = .ok (.goto 9, 3) := by decide +kernel
theorem dX7_far_26 : decode cX7_far 26 = .ok (.aload_n 0, 1) := by decide +kernel
theorem dX7_far_27 : decode cX7_far 27 = .ok (.iload_n 1, 1) := by decide +kernel
theorem dX7_far_28 : decode cX7_far 28 = .ok (.iload_n 2, 1) := by decide +kernel
theorem dX7_far_29 : decode cX7_far 29 = .ok (.invokevirtual 87, 3) := by decide +kernel
theorem dX7_far_32 : decode cX7_far 32 = .ok (.ireturn, 1) := by decide +kernel
set_option maxRecDepth 20000 in
theorem ggX7_told_X7_isPost : GoodIn wsX7_told wsX7_isPost := goodIn_r _ [9, 10, 11, 12, 8, 13, 34, 35, 36, 37, 38, 39, 40, 41, 42, 43, 44, 45, 46, 47, 48, 49, 50, 51, 52, 53, 54, 55, 56, 57, 58, 59, 60, 61] (by decide +kernel) (by decide +kernel)
set_option maxRecDepth 20000 in
theorem gX7_told_X7_isPost : GoodIn wsX7_told (wsV RX7 80 RX7 yX7_isPost wsX7_isPost) := goodIn_app (goodIn_of _ (by decide +kernel)) ggX7_told_X7_isPost
set_option maxRecDepth 20000 in
theorem ggX7_told_X7_in : GoodIn wsX7_told wsX7_in := goodIn_r _ [13] (by decide +kernel) (by decide +kernel)
set_option maxRecDepth 20000 in
theorem gX7_told_X7_in : GoodIn wsX7_told (va_wsS RX7 61 yX7_in wsX7_in) := goodIn_app (goodIn_of _ (by decide +kernel)) ggX7_told_X7_in
set_option maxRecDepth 20000 in
theorem ggX7_told_X7_size : GoodIn wsX7_told wsX7_size := goodIn_r _ [16] (by decide +kernel) (by decide +kernel)
set_option maxRecDepth 20000 in
theorem gX7_told_X7_size : GoodIn wsX7_told (va_wsS RX7 93 yX7_size wsX7_size) := goodIn_app (goodIn_of _ (by decide +kernel)) ggX7_told_X7_size
set_option maxRecDepth 20000 in
theorem ggX7_told_X7_widthOf : GoodIn wsX7_told wsX7_widthOf := goodIn_r _ [20, 10, 21, 22, 23, 8, 24, 25, 26, 27, 28, 29, 4, 34, 35, 36, 37, 38, 39, 40, 41, 42, 43, 44, 45, 46, 47, 48, 49, 50, 51, 52, 53, 54, 55, 56, 57, 58, 59, 60, 61] (by decide +kernel) (by decide +kernel)
set_option maxRecDepth 20000 in
theorem gX7_told_X7_widthOf : GoodIn wsX7_told (wsV RX7 96 RX7 yX7_widthOf wsX7_widthOf) := goodIn_app (goodIn_of _ (by decide +kernel)) ggX7_told_X7_widthOf
set_option maxRecDepth 20000 in
theorem ggX7_told_X7_reach : GoodIn wsX7_told wsX7_reach := goodIn_r _ [33, 26, 27, 28, 8, 29, 10, 4, 34, 35, 36, 37, 38, 39, 40, 41, 42, 43, 44, 45, 46, 47, 48, 49, 50, 51, 52, 53, 54, 55, 56, 57, 58, 59, 60, 61] (by decide +kernel) (by decide +kernel)
set_option maxRecDepth 20000 in
theorem gX7_told_X7_reach : GoodIn wsX7_told (wsV RX7 99 RX7 yX7_reach wsX7_reach) := goodIn_app (goodIn_of _ (by decide +kernel)) ggX7_told_X7_reach
theorem dX7_told_0 : decode cX7_told 0 = .ok (.aload_n 0, 1) := by decide +kernel
theorem dX7_told_1 : decode cX7_told 1 = .ok (.iconst 0, 1) := by decide +kernel
theorem dX7_told_2 : decode cX7_told 2 = .ok (.putfield 51, 3) := by decide +kernel
theorem dX7_told_5 : decode cX7_told 5 = .ok (.aload_n 0, 1) := by decide +kernel
theorem dX7_told_6 : decode cX7_told 6 = .ok (.iload_n 1, 1) := by decide +kernel
theorem dX7_told_7 : decode cX7_told 7 = .ok (.invokevirtual 80, 3) := by decide +kernel
theorem dX7_told_10 : decode cX7_told 10 = .ok (.ifCond .eq 15, 3) := by decide +kernel
theorem dX7_told_13 : decode cX7_told 13 = .ok (.iload_n 2, 1) := by decide +kernel
theorem dX7_told_14 : decode cX7_told 14 = .ok (.i2l, 1) := by decide +kernel
theorem dX7_told_15 : decode cX7_told 15 = .ok (.lconst 0, 1) := by decide +kernel
theorem dX7_told_16 : decode cX7_told 16 = .ok (.ldc2_w 91, 3) := by decide +kernel
theorem dX7_told_19 : decode cX7_told 19 = .ok (.invokestatic 61, 3) := by decide +kernel
theorem dX7_told_22 : decode cX7_told 22 = .ok (.ifCond .ne 6, 3) := by decide +kernel
theorem dX7_told_25 : decode cX7_told 25 = .ok (.ldc 71, 2) := by decide +kernel
theorem dX7_told_27 : decode cX7_told 27 = .ok (.ireturn, 1) := by decide +kernel
theorem dX7_told_28 : decode cX7_told 28 = .ok (.iload_n 2, 1) := by decide +kernel
theorem dX7_told_29 : decode cX7_told 29 = .ok (.ifCond .ne 15, 3) := by decide +kernel
theorem dX7_told_32 : decode cX7_told 32 = .ok (.aload_n 0, 1) := by decide +kernel
theorem dX7_told_33 : decode cX7_told 33 = .ok (.getfield 19, 3) := by decide +kernel
theorem dX7_told_36 : decode cX7_told 36 = .ok (.iload_n 1, 1) := by decide +kernel
theorem dX7_told_37 : decode cX7_told 37 = .ok (.iaload, 1) := by decide +kernel
theorem dX7_told_38 : decode cX7_told 38 = .ok (.invokestatic 93, 3) := by decide +kernel
theorem dX7_told_41 : decode cX7_told 41 = .ok (.goto 37, 3) := by decide +kernel
theorem dX7_told_44 : decode cX7_told 44 = .ok (.iload_n 2, 1) := by decide +kernel
theorem dX7_told_45 : decode cX7_told 45 = .ok (.iconst 1, 1) := by decide +kernel
theorem dX7_told_46 : decode cX7_told 46 = .ok (.if_icmp .ne 12, 3) := by decide +kernel
theorem dX7_told_49 : decode cX7_told 49 = .ok (.aload_n 0, 1) := by decide +kernel
theorem dX7_told_50 : decode cX7_told 50 = .ok (.getfield 19, 3) := by decide +kernel
theorem dX7_told_53 : decode cX7_told 53 = .ok (.iload_n 1, 1) := by decide +kernel
theorem dX7_told_54 : decode cX7_told 54 = .ok (.iaload, 1) := by decide +kernel
theorem dX7_told_55 : decode cX7_told 55 = .ok (.goto 23, 3) := by decide +kernel
theorem dX7_told_58 : decode cX7_told 58 = .ok (.iload_n 2, 1) := by decide +kernel
theorem dX7_told_59 : decode cX7_told 59 = .ok (.iconst 2, 1) := by decide +kernel
theorem dX7_told_60 : decode cX7_told 60 = .ok (.if_icmp .ne 11, 3) := by decide +kernel
theorem dX7_told_63 : decode cX7_told 63 = .ok (.aload_n 0, 1) := by decide +kernel
theorem dX7_told_64 : decode cX7_told 64 = .ok (.iload_n 1, 1) := by decide +kernel
theorem dX7_told_65 : decode cX7_told 65 = .ok (.invokevirtual 96, 3) := by decide +kernel
theorem dX7_told_68 : decode cX7_told 68 = .ok (.goto 10, 3) := by decide +kernel
theorem dX7_told_71 : decode cX7_told 71 = .ok (.aload_n 0, 1) := by decide +kernel
theorem dX7_told_72 : decode cX7_told 72 = .ok (.iconst 1, 1) := by decide +kernel
theorem dX7_told_73 : decode cX7_told 73 = .ok (.iload_n 1, 1) := by decide +kernel
theorem dX7_told_74 : decode cX7_told 74 = .ok (.ishl, 1) := by decide +kernel
theorem dX7_told_75 : decode cX7_told 75 = .ok (.invokevirtual 99, 3) := by decide +kernel
theorem dX7_told_78 : decode cX7_told 78 = .ok (.ireturn, 1) := by decide +kernel
set_option maxRecDepth 20000 in
theorem ggX7_isHearing_X7_in : GoodIn wsX7_isHearing wsX7_in := goodIn_r _ [4] (by decide +kernel) (by decide +kernel)
set_option maxRecDepth 20000 in
theorem gX7_isHearing_X7_in : GoodIn wsX7_isHearing (va_wsS RX7 61 yX7_in wsX7_in) := goodIn_app (goodIn_of _ (by decide +kernel)) ggX7_isHearing_X7_in
theorem dX7_isHearing_0 : decode cX7_isHearing 0 = .ok (.iload_n 0, 1) := by decide +kernel
theorem dX7_isHearing_1 : decode cX7_isHearing 1 = .ok (.i2l, 1) := by decide +kernel
theorem dX7_isHearing_2 : decode cX7_isHearing 2 = .ok (.lconst 0, 1) := by decide +kernel
theorem dX7_isHearing_3 : decode cX7_isHearing 3 = .ok (.lconst 1, 1) := by decide +kernel
theorem dX7_isHearing_4 : decode cX7_isHearing 4 = .ok (.invokestatic 61, 3) := by decide +kernel
theorem dX7_isHearing_7 : decode cX7_isHearing 7 = .ok (.ireturn, 1) := by decide +kernel
set_option maxRecDepth 20000 in
theorem ggX7_isSet_X7_all : GoodIn wsX7_isSet wsX7_all := goodIn_r _ [5, 6, 10, 11, 12, 13, 14, 15, 16, 17, 18, 19, 20, 21, 22, 23, 24, 25, 26, 27, 28, 29, 30, 31, 32, 33, 34, 35, 36, 37] (by decide +kernel) (by decide +kernel)
set_option maxRecDepth 20000 in
theorem gX7_isSet_X7_all : GoodIn wsX7_isSet (wsV RX7 102 RX7 yX7_all wsX7_all) := goodIn_app (goodIn_of _ (by decide +kernel)) ggX7_isSet_X7_all
set_option maxRecDepth 20000 in
theorem ggX7_isSet_X7_in : GoodIn wsX7_isSet wsX7_in := goodIn_r _ [9] (by decide +kernel) (by decide +kernel)
set_option maxRecDepth 20000 in
theorem gX7_isSet_X7_in : GoodIn wsX7_isSet (va_wsS RX7 61 yX7_in wsX7_in) := goodIn_app (goodIn_of _ (by decide +kernel)) ggX7_isSet_X7_in
theorem dX7_isSet_0 : decode cX7_isSet 0 = .ok (.iload_n 1, 1) := by decide +kernel
theorem dX7_isSet_1 : decode cX7_isSet 1 = .ok (.i2l, 1) := by decide +kernel
theorem dX7_isSet_2 : decode cX7_isSet 2 = .ok (.lconst 0, 1) := by decide +kernel
theorem dX7_isSet_3 : decode cX7_isSet 3 = .ok (.aload_n 0, 1) := by decide +kernel
theorem dX7_isSet_4 : decode cX7_isSet 4 = .ok (.invokevirtual 102, 3) := by decide +kernel
theorem dX7_isSet_7 : decode cX7_isSet 7 = .ok (.i2l, 1) := by decide +kernel
theorem dX7_isSet_8 : decode cX7_isSet 8 = .ok (.invokestatic 61, 3) := by decide +kernel
theorem dX7_isSet_11 : decode cX7_isSet 11 = .ok (.ireturn, 1) := by decide +kernel
set_option maxRecDepth 20000 in
theorem ggX7_hearing_X7_size : GoodIn wsX7_hearing wsX7_size := goodIn_r _ [6] (by decide +kernel) (by decide +kernel)
set_option maxRecDepth 20000 in
theorem gX7_hearing_X7_size : GoodIn wsX7_hearing (va_wsS RX7 93 yX7_size wsX7_size) := goodIn_app (goodIn_of _ (by decide +kernel)) ggX7_hearing_X7_size
theorem dX7_hearing_0 : decode cX7_hearing 0 = .ok (.iconst 0, 1) := by decide +kernel
theorem dX7_hearing_1 : decode cX7_hearing 1 = .ok (.istore_n 3, 1) := by decide +kernel
theorem dX7_hearing_2 : decode cX7_hearing 2 = .ok (.iconst 0, 1) := by decide +kernel
theorem dX7_hearing_3 : decode cX7_hearing 3 = .ok (.istore 4, 2) := by decide +kernel
theorem dX7_hearing_5 : decode cX7_hearing 5 = .ok (.iload 4, 2) := by decide +kernel
theorem dX7_hearing_7 : decode cX7_hearing 7 = .ok (.aload_n 0, 1) := by decide +kernel
theorem dX7_hearing_8 : decode cX7_hearing 8 = .ok (.getfield 76, 3) := by decide +kernel
theorem dX7_hearing_11 : decode cX7_hearing 11 = .ok (.if_icmp .ge 61, 3) := by decide +kernel
theorem dX7_hearing_14 : decode cX7_hearing 14 = .ok (.aload_n 0, 1) := by decide +kernel
theorem dX7_hearing_15 : decode cX7_hearing 15 = .ok (.getfield 19, 3) := by decide +kernel
theorem dX7_hearing_18 : decode cX7_hearing 18 = .ok (.iload 4, 2) := by decide +kernel
theorem dX7_hearing_20 : decode cX7_hearing 20 = .ok (.iaload, 1) := by decide +kernel
theorem dX7_hearing_21 : decode cX7_hearing 21 = .ok (.iload_n 2, 1) := by decide +kernel
theorem dX7_hearing_22 : decode cX7_hearing 22 = .ok (.iand, 1) := by decide +kernel
theorem dX7_hearing_23 : decode cX7_hearing 23 = .ok (.invokestatic 93, 3) := by decide +kernel
theorem dX7_hearing_26 : decode cX7_hearing 26 = .ok (.istore 5, 2) := by decide +kernel
theorem dX7_hearing_28 : decode cX7_hearing 28 = .ok (.iload_n 3, 1) := by decide +kernel
theorem dX7_hearing_29 : decode cX7_hearing 29 = .ok (.iload_n 2, 1) := by decide +kernel
theorem dX7_hearing_30 : decode cX7_hearing 30 = .ok (.iload 4, 2) := by decide +kernel
theorem dX7_hearing_32 : decode cX7_hearing 32 = .ok (.ishr, 1) := by decide +kernel
theorem dX7_hearing_33 : decode cX7_hearing 33 = .ok (.iconst 1, 1) := by decide +kernel
theorem dX7_hearing_34 : decode cX7_hearing 34 = .ok (.iand, 1) := by decide +kernel
theorem dX7_hearing_35 : decode cX7_hearing 35 = .ok (.ifCond .ne 28, 3) := by decide +kernel
theorem dX7_hearing_38 : decode cX7_hearing 38 = .ok (.iload_n 1, 1) := by decide +kernel
theorem dX7_hearing_39 : decode cX7_hearing 39 = .ok (.ifCond .ne 11, 3) := by decide +kernel
theorem dX7_hearing_42 : decode cX7_hearing 42 = .ok (.iload 5, 2) := by decide +kernel
theorem dX7_hearing_44 : decode cX7_hearing 44 = .ok (.ifCond .le 19, 3) := by decide +kernel
theorem dX7_hearing_47 : decode cX7_hearing 47 = .ok (.goto 9, 3) := by decide +kernel
theorem dX7_hearing_50 : decode cX7_hearing 50 = .ok (.iload 5, 2) := by decide +kernel
theorem dX7_hearing_52 : decode cX7_hearing 52 = .ok (.iconst 1, 1) := by decide +kernel
theorem dX7_hearing_53 : decode cX7_hearing 53 = .ok (.if_icmp .ne 10, 3) := by decide +kernel
theorem dX7_hearing_56 : decode cX7_hearing 56 = .ok (.iconst 1, 1) := by decide +kernel
theorem dX7_hearing_57 : decode cX7_hearing 57 = .ok (.iload 4, 2) := by decide +kernel
theorem dX7_hearing_59 : decode cX7_hearing 59 = .ok (.ishl, 1) := by decide +kernel
theorem dX7_hearing_60 : decode cX7_hearing 60 = .ok (.goto 4, 3) := by decide +kernel
theorem dX7_hearing_63 : decode cX7_hearing 63 = .ok (.iconst 0, 1) := by decide +kernel
theorem dX7_hearing_64 : decode cX7_hearing 64 = .ok (.ior, 1) := by decide +kernel
theorem dX7_hearing_65 : decode cX7_hearing 65 = .ok (.istore_n 3, 1) := by decide +kernel
theorem dX7_hearing_66 : decode cX7_hearing 66 = .ok (.iinc 4 1, 3) := by decide +kernel
theorem dX7_hearing_69 : decode cX7_hearing 69 = .ok (.goto (-64), 3) := by decide +kernel
theorem dX7_hearing_72 : decode cX7_hearing 72 = .ok (.iload_n 3, 1) := by decide +kernel
theorem dX7_hearing_73 : decode cX7_hearing 73 = .ok (.ireturn, 1) := by decide +kernel
set_option maxRecDepth 20000 in
theorem ggX7_spread_X7_hearing : GoodIn wsX7_spread wsX7_hearing := goodIn_r _ [5, 6, 7, 8, 9, 4, 10, 11, 12, 13, 14, 15, 16, 17, 18, 19, 20, 21, 22, 23, 24, 25, 26, 27, 28, 29, 30, 31, 32, 33, 34, 35, 36, 37, 38] (by decide +kernel) (by decide +kernel)
set_option maxRecDepth 20000 in
theorem gX7_spread_X7_hearing : GoodIn wsX7_spread (wsV RX7 106 RX7 yX7_hearing wsX7_hearing) := goodIn_app (goodIn_of _ (by decide +kernel)) ggX7_spread_X7_hearing
theorem dX7_spread_0 : decode cX7_spread 0 = .ok (.iload_n 2, 1) := by decide +kernel
theorem dX7_spread_1 : decode cX7_spread 1 = .ok (.aload_n 0, 1) := by decide +kernel
theorem dX7_spread_2 : decode cX7_spread 2 = .ok (.iload_n 1, 1) := by decide +kernel
theorem dX7_spread_3 : decode cX7_spread 3 = .ok (.iload_n 2, 1) := by decide +kernel
theorem dX7_spread_4 : decode cX7_spread 4 = .ok (.iload_n 3, 1) := by decide +kernel
theorem dX7_spread_5 : decode cX7_spread 5 = .ok (.iand, 1) := by decide +kernel
theorem dX7_spread_6 : decode cX7_spread 6 = .ok (.invokevirtual 106, 3) := by decide +kernel
theorem dX7_spread_9 : decode cX7_spread 9 = .ok (.ior, 1) := by decide +kernel
theorem dX7_spread_10 : decode cX7_spread 10 = .ok (.ireturn, 1) := by decide +kernel
set_option maxRecDepth 20000 in
theorem ggX7_hears_X7_isHearing : GoodIn wsX7_hears wsX7_isHearing := goodIn_r _ [6, 7, 8, 5, 9] (by decide +kernel) (by decide +kernel)
set_option maxRecDepth 20000 in
theorem gX7_hears_X7_isHearing : GoodIn wsX7_hears (va_wsS RX7 109 yX7_isHearing wsX7_isHearing) := goodIn_app (goodIn_of _ (by decide +kernel)) ggX7_hears_X7_isHearing
set_option maxRecDepth 20000 in
theorem ggX7_hears_X7_isSet : GoodIn wsX7_hears wsX7_isSet := goodIn_r _ [13, 14, 15, 16, 5, 17, 18, 7, 8, 9, 27, 28, 29, 30, 31, 32, 33, 34, 35, 36, 37, 38, 39, 40, 41, 42, 43, 44, 45, 46, 47, 48, 49, 50, 51, 52, 53, 54] (by decide +kernel) (by decide +kernel)
set_option maxRecDepth 20000 in
theorem gX7_hears_X7_isSet : GoodIn wsX7_hears (wsV RX7 112 RX7 yX7_isSet wsX7_isSet) := goodIn_app (goodIn_of _ (by decide +kernel)) ggX7_hears_X7_isSet
set_option maxRecDepth 20000 in
theorem ggX7_hears_X7_hearing : GoodIn wsX7_hears wsX7_hearing := goodIn_r _ [22, 18, 23, 24, 25, 5, 26, 27, 28, 29, 30, 31, 32, 33, 34, 35, 36, 37, 38, 39, 40, 41, 42, 43, 44, 45, 46, 47, 48, 49, 50, 51, 52, 53, 54] (by decide +kernel) (by decide +kernel)
set_option maxRecDepth 20000 in
theorem gX7_hears_X7_hearing : GoodIn wsX7_hears (wsV RX7 106 RX7 yX7_hearing wsX7_hearing) := goodIn_app (goodIn_of _ (by decide +kernel)) ggX7_hears_X7_hearing
theorem dX7_hears_0 : decode cX7_hears 0 = .ok (.aload_n 0, 1) := by decide +kernel
theorem dX7_hears_1 : decode cX7_hears 1 = .ok (.iconst 0, 1) := by decide +kernel
theorem dX7_hears_2 : decode cX7_hears 2 = .ok (.putfield 51, 3) := by decide +kernel
theorem dX7_hears_5 : decode cX7_hears 5 = .ok (.iload_n 1, 1) := by decide +kernel
theorem dX7_hears_6 : decode cX7_hears 6 = .ok (.invokestatic 109, 3) := by decide +kernel
theorem dX7_hears_9 : decode cX7_hears 9 = .ok (.ifCond .eq 11, 3) := by decide +kernel
theorem dX7_hears_12 : decode cX7_hears 12 = .ok (.aload_n 0, 1) := by decide +kernel
theorem dX7_hears_13 : decode cX7_hears 13 = .ok (.iload_n 2, 1) := by decide +kernel
theorem dX7_hears_14 : decode cX7_hears 14 = .ok (.invokevirtual 112, 3) := by decide +kernel
theorem dX7_hears_17 : decode cX7_hears 17 = .ok (.ifCond .ne 8, 3) := by decide +kernel
theorem dX7_hears_20 : decode cX7_hears 20 = .ok (.ldc 71, 2) := by decide +kernel
theorem dX7_hears_22 : decode cX7_hears 22 = .ok (.goto 9, 3) := by decide +kernel
theorem dX7_hears_25 : decode cX7_hears 25 = .ok (.aload_n 0, 1) := by decide +kernel
theorem dX7_hears_26 : decode cX7_hears 26 = .ok (.iload_n 1, 1) := by decide +kernel
theorem dX7_hears_27 : decode cX7_hears 27 = .ok (.iload_n 2, 1) := by decide +kernel
theorem dX7_hears_28 : decode cX7_hears 28 = .ok (.invokevirtual 106, 3) := by decide +kernel
theorem dX7_hears_31 : decode cX7_hears 31 = .ok (.ireturn, 1) := by decide +kernel
set_option maxRecDepth 20000 in
theorem ggX7_spreads_X7_isHearing : GoodIn wsX7_spreads wsX7_isHearing := goodIn_r _ [6, 7, 8, 5, 9] (by decide +kernel) (by decide +kernel)
set_option maxRecDepth 20000 in
theorem gX7_spreads_X7_isHearing : GoodIn wsX7_spreads (va_wsS RX7 109 yX7_isHearing wsX7_isHearing) := goodIn_app (goodIn_of _ (by decide +kernel)) ggX7_spreads_X7_isHearing
set_option maxRecDepth 20000 in
theorem ggX7_spreads_X7_isSet : GoodIn wsX7_spreads wsX7_isSet := goodIn_r _ [13, 14, 15, 16, 5, 17, 18, 7, 8, 9, 31, 32, 33, 34, 35, 36, 37, 38, 39, 40, 41, 42, 43, 44, 45, 46, 47, 48, 49, 50, 51, 52, 53, 54, 55, 56, 57, 58] (by decide +kernel) (by decide +kernel)
set_option maxRecDepth 20000 in
theorem gX7_spreads_X7_isSet : GoodIn wsX7_spreads (wsV RX7 112 RX7 yX7_isSet wsX7_isSet) := goodIn_app (goodIn_of _ (by decide +kernel)) ggX7_spreads_X7_isSet
set_option maxRecDepth 20000 in
theorem ggX7_spreads_X7_spread : GoodIn wsX7_spreads wsX7_spread := goodIn_r _ [22, 23, 24, 25, 5, 26, 18, 27, 28, 29, 30, 31, 32, 33, 34, 35, 36, 37, 38, 39, 40, 41, 42, 43, 44, 45, 46, 47, 48, 49, 50, 51, 52, 53, 54, 55, 56, 57, 58] (by decide +kernel) (by decide +kernel)
set_option maxRecDepth 20000 in
theorem gX7_spreads_X7_spread : GoodIn wsX7_spreads (wsV RX7 115 RX7 yX7_spread wsX7_spread) := goodIn_app (goodIn_of _ (by decide +kernel)) ggX7_spreads_X7_spread
theorem dX7_spreads_0 : decode cX7_spreads 0 = .ok (.aload_n 0, 1) := by decide +kernel
theorem dX7_spreads_1 : decode cX7_spreads 1 = .ok (.iconst 0, 1) := by decide +kernel
theorem dX7_spreads_2 : decode cX7_spreads 2 = .ok (.putfield 51, 3) := by decide +kernel
theorem dX7_spreads_5 : decode cX7_spreads 5 = .ok (.iload_n 1, 1) := by decide +kernel
theorem dX7_spreads_6 : decode cX7_spreads 6 = .ok (.invokestatic 109, 3) := by decide +kernel
theorem dX7_spreads_9 : decode cX7_spreads 9 = .ok (.ifCond .eq 19, 3) := by decide +kernel
theorem dX7_spreads_12 : decode cX7_spreads 12 = .ok (.aload_n 0, 1) := by decide +kernel
theorem dX7_spreads_13 : decode cX7_spreads 13 = .ok (.iload_n 2, 1) := by decide +kernel
theorem dX7_spreads_14 : decode cX7_spreads 14 = .ok (.invokevirtual 112, 3) := by decide +kernel
theorem dX7_spreads_17 : decode cX7_spreads 17 = .ok (.ifCond .eq 11, 3) := by decide +kernel
theorem dX7_spreads_20 : decode cX7_spreads 20 = .ok (.aload_n 0, 1) := by decide +kernel
theorem dX7_spreads_21 : decode cX7_spreads 21 = .ok (.iload_n 3, 1) := by decide +kernel
theorem dX7_spreads_22 : decode cX7_spreads 22 = .ok (.invokevirtual 112, 3) := by decide +kernel
theorem dX7_spreads_25 : decode cX7_spreads 25 = .ok (.ifCond .ne 8, 3) := by decide +kernel
theorem dX7_spreads_28 : decode cX7_spreads 28 = .ok (.ldc 71, 2) := by decide +kernel
theorem dX7_spreads_30 : decode cX7_spreads 30 = .ok (.goto 10, 3) := by decide +kernel
theorem dX7_spreads_33 : decode cX7_spreads 33 = .ok (.aload_n 0, 1) := by decide +kernel
theorem dX7_spreads_34 : decode cX7_spreads 34 = .ok (.iload_n 1, 1) := by decide +kernel
theorem dX7_spreads_35 : decode cX7_spreads 35 = .ok (.iload_n 2, 1) := by decide +kernel
theorem dX7_spreads_36 : decode cX7_spreads 36 = .ok (.iload_n 3, 1) := by decide +kernel
theorem dX7_spreads_37 : decode cX7_spreads 37 = .ok (.invokevirtual 115, 3) := by decide +kernel
theorem dX7_spreads_40 : decode cX7_spreads 40 = .ok (.ireturn, 1) := by decide +kernel
set_option maxRecDepth 20000 in
theorem ggX7_feed_X7_in : GoodIn wsX7_feed wsX7_in := goodIn_r _ [11] (by decide +kernel) (by decide +kernel)
set_option maxRecDepth 20000 in
theorem gX7_feed_X7_in : GoodIn wsX7_feed (va_wsS RX7 61 yX7_in wsX7_in) := goodIn_app (goodIn_of _ (by decide +kernel)) ggX7_feed_X7_in
theorem dX7_feed_0 : decode cX7_feed 0 = .ok (.aload_n 0, 1) := by decide +kernel
theorem dX7_feed_1 : decode cX7_feed 1 = .ok (.iconst 0, 1) := by decide +kernel
theorem dX7_feed_2 : decode cX7_feed 2 = .ok (.putfield 51, 3) := by decide +kernel
theorem dX7_feed_5 : decode cX7_feed 5 = .ok (.iload_n 3, 1) := by decide +kernel
theorem dX7_feed_6 : decode cX7_feed 6 = .ok (.i2l, 1) := by decide +kernel
theorem dX7_feed_7 : decode cX7_feed 7 = .ok (.lconst 1, 1) := by decide +kernel
theorem dX7_feed_8 : decode cX7_feed 8 = .ok (.ldc2_w 119, 3) := by decide +kernel
theorem dX7_feed_11 : decode cX7_feed 11 = .ok (.invokestatic 61, 3) := by decide +kernel
theorem dX7_feed_14 : decode cX7_feed 14 = .ok (.ifCond .ne 6, 3) := by decide +kernel
theorem dX7_feed_17 : decode cX7_feed 17 = .ok (.ldc 71, 2) := by decide +kernel
theorem dX7_feed_19 : decode cX7_feed 19 = .ok (.ireturn, 1) := by decide +kernel
theorem dX7_feed_20 : decode cX7_feed 20 = .ok (.aload_n 0, 1) := by decide +kernel
theorem dX7_feed_21 : decode cX7_feed 21 = .ok (.getfield 121, 3) := by decide +kernel
theorem dX7_feed_24 : decode cX7_feed 24 = .ok (.iload_n 3, 1) := by decide +kernel
theorem dX7_feed_25 : decode cX7_feed 25 = .ok (.iadd, 1) := by decide +kernel
theorem dX7_feed_26 : decode cX7_feed 26 = .ok (.sipush 300, 3) := by decide +kernel
theorem dX7_feed_29 : decode cX7_feed 29 = .ok (.if_icmp .le 6, 3) := by decide +kernel
theorem dX7_feed_32 : decode cX7_feed 32 = .ok (.ldc 79, 2) := by decide +kernel
theorem dX7_feed_34 : decode cX7_feed 34 = .ok (.ireturn, 1) := by decide +kernel
theorem dX7_feed_35 : decode cX7_feed 35 = .ok (.iload_n 3, 1) := by decide +kernel
theorem dX7_feed_36 : decode cX7_feed 36 = .ok (.iconst 1, 1) := by decide +kernel
theorem dX7_feed_37 : decode cX7_feed 37 = .ok (.isub, 1) := by decide +kernel
theorem dX7_feed_38 : decode cX7_feed 38 = .ok (.istore 4, 2) := by decide +kernel
theorem dX7_feed_40 : decode cX7_feed 40 = .ok (.iload 4, 2) := by decide +kernel
theorem dX7_feed_42 : decode cX7_feed 42 = .ok (.ifCond .lt 40, 3) := by decide +kernel
theorem dX7_feed_45 : decode cX7_feed 45 = .ok (.aload_n 0, 1) := by decide +kernel
theorem dX7_feed_46 : decode cX7_feed 46 = .ok (.getfield 28, 3) := by decide +kernel
theorem dX7_feed_49 : decode cX7_feed 49 = .ok (.aload_n 0, 1) := by decide +kernel
theorem dX7_feed_50 : decode cX7_feed 50 = .ok (.getfield 121, 3) := by decide +kernel
theorem dX7_feed_53 : decode cX7_feed 53 = .ok (.lload_n 1, 1) := by decide +kernel
theorem dX7_feed_54 : decode cX7_feed 54 = .ok (.bipush 8, 2) := by decide +kernel
theorem dX7_feed_56 : decode cX7_feed 56 = .ok (.iload 4, 2) := by decide +kernel
theorem dX7_feed_58 : decode cX7_feed 58 = .ok (.imul, 1) := by decide +kernel
theorem dX7_feed_59 : decode cX7_feed 59 = .ok (.lshr, 1) := by decide +kernel
theorem dX7_feed_60 : decode cX7_feed 60 = .ok (.ldc2_w 124, 3) := by decide +kernel
theorem dX7_feed_63 : decode cX7_feed 63 = .ok (.land, 1) := by decide +kernel
theorem dX7_feed_64 : decode cX7_feed 64 = .ok (.l2i, 1) := by decide +kernel
theorem dX7_feed_65 : decode cX7_feed 65 = .ok (.iastore, 1) := by decide +kernel
theorem dX7_feed_66 : decode cX7_feed 66 = .ok (.aload_n 0, 1) := by decide +kernel
theorem dX7_feed_67 : decode cX7_feed 67 = .ok (.dup, 1) := by decide +kernel
theorem dX7_feed_68 : decode cX7_feed 68 = .ok (.getfield 121, 3) := by decide +kernel
theorem dX7_feed_71 : decode cX7_feed 71 = .ok (.iconst 1, 1) := by decide +kernel
theorem dX7_feed_72 : decode cX7_feed 72 = .ok (.iadd, 1) := by decide +kernel
theorem dX7_feed_73 : decode cX7_feed 73 = .ok (.putfield 121, 3) := by decide +kernel
theorem dX7_feed_76 : decode cX7_feed 76 = .ok (.iinc 4 (-1), 3) := by decide +kernel
theorem dX7_feed_79 : decode cX7_feed 79 = .ok (.goto (-39), 3) := by decide +kernel
theorem dX7_feed_82 : decode cX7_feed 82 = .ok (.aload_n 0, 1) := by decide +kernel
theorem dX7_feed_83 : decode cX7_feed 83 = .ok (.getfield 121, 3) := by decide +kernel
theorem dX7_feed_86 : decode cX7_feed 86 = .ok (.ireturn, 1) := by decide +kernel
theorem dX7_byteAt_0 : decode cX7_byteAt 0 = .ok (.iload_n 1, 1) := by decide +kernel
theorem dX7_byteAt_1 : decode cX7_byteAt 1 = .ok (.aload_n 0, 1) := by decide +kernel
theorem dX7_byteAt_2 : decode cX7_byteAt 2 = .ok (.getfield 126, 3) := by decide +kernel
theorem dX7_byteAt_5 : decode cX7_byteAt 5 = .ok (.if_icmp .ge 12, 3) := by decide +kernel
theorem dX7_byteAt_8 : decode cX7_byteAt 8 = .ok (.aload_n 0, 1) := by decide +kernel
theorem dX7_byteAt_9 : decode cX7_byteAt 9 = .ok (.getfield 28, 3) := by decide +kernel
theorem dX7_byteAt_12 : decode cX7_byteAt 12 = .ok (.iload_n 1, 1) := by decide +kernel
theorem dX7_byteAt_13 : decode cX7_byteAt 13 = .ok (.iaload, 1) := by decide +kernel
theorem dX7_byteAt_14 : decode cX7_byteAt 14 = .ok (.goto 5, 3) := by decide +kernel
theorem dX7_byteAt_17 : decode cX7_byteAt 17 = .ok (.ldc 86, 2) := by decide +kernel
theorem dX7_byteAt_19 : decode cX7_byteAt 19 = .ok (.ireturn, 1) := by decide +kernel
theorem dX7_isLetter_0 : decode cX7_isLetter 0 = .ok (.iload_n 0, 1) := by decide +kernel
theorem dX7_isLetter_1 : decode cX7_isLetter 1 = .ok (.bipush 97, 2) := by decide +kernel
theorem dX7_isLetter_3 : decode cX7_isLetter 3 = .ok (.if_icmp .lt 13, 3) := by decide +kernel
theorem dX7_isLetter_6 : decode cX7_isLetter 6 = .ok (.iload_n 0, 1) := by decide +kernel
theorem dX7_isLetter_7 : decode cX7_isLetter 7 = .ok (.bipush 122, 2) := by decide +kernel
theorem dX7_isLetter_9 : decode cX7_isLetter 9 = .ok (.if_icmp .gt 7, 3) := by decide +kernel
theorem dX7_isLetter_12 : decode cX7_isLetter 12 = .ok (.iconst 1, 1) := by decide +kernel
theorem dX7_isLetter_13 : decode cX7_isLetter 13 = .ok (.goto 4, 3) := by decide +kernel
theorem dX7_isLetter_16 : decode cX7_isLetter 16 = .ok (.iconst 0, 1) := by decide +kernel
theorem dX7_isLetter_17 : decode cX7_isLetter 17 = .ok (.ireturn, 1) := by decide +kernel
theorem dX7_isFigure_0 : decode cX7_isFigure 0 = .ok (.iload_n 0, 1) := by decide +kernel
theorem dX7_isFigure_1 : decode cX7_isFigure 1 = .ok (.bipush 48, 2) := by decide +kernel
theorem dX7_isFigure_3 : decode cX7_isFigure 3 = .ok (.if_icmp .lt 13, 3) := by decide +kernel
theorem dX7_isFigure_6 : decode cX7_isFigure 6 = .ok (.iload_n 0, 1) := by decide +kernel
theorem dX7_isFigure_7 : decode cX7_isFigure 7 = .ok (.bipush 57, 2) := by decide +kernel
theorem dX7_isFigure_9 : decode cX7_isFigure 9 = .ok (.if_icmp .gt 7, 3) := by decide +kernel
theorem dX7_isFigure_12 : decode cX7_isFigure 12 = .ok (.iconst 1, 1) := by decide +kernel
theorem dX7_isFigure_13 : decode cX7_isFigure 13 = .ok (.goto 4, 3) := by decide +kernel
theorem dX7_isFigure_16 : decode cX7_isFigure 16 = .ok (.iconst 0, 1) := by decide +kernel
theorem dX7_isFigure_17 : decode cX7_isFigure 17 = .ok (.ireturn, 1) := by decide +kernel
set_option maxRecDepth 20000 in
theorem ggX7_step_X7_byteAt : GoodIn wsX7_step wsX7_byteAt := goodIn_r _ [10, 11, 12, 3, 19, 20, 21, 22, 23, 24, 25, 26, 27, 28, 29, 30, 31, 32, 33, 34, 35, 36, 37, 38, 39, 40, 41, 42, 43, 44, 45, 46] (by decide +kernel) (by decide +kernel)
set_option maxRecDepth 20000 in
theorem gX7_step_X7_byteAt : GoodIn wsX7_step (wsV RX7 132 RX7 yX7_byteAt wsX7_byteAt) := goodIn_app (goodIn_of _ (by decide +kernel)) ggX7_step_X7_byteAt
set_option maxRecDepth 20000 in
theorem ggX7_step_X7_isLetter : GoodIn wsX7_step wsX7_isLetter := goodIn_r _ [15] (by decide +kernel) (by decide +kernel)
set_option maxRecDepth 20000 in
theorem gX7_step_X7_isLetter : GoodIn wsX7_step (va_wsS RX7 141 yX7_isLetter wsX7_isLetter) := goodIn_app (goodIn_of _ (by decide +kernel)) ggX7_step_X7_isLetter
set_option maxRecDepth 20000 in
theorem ggX7_step_X7_isFigure : GoodIn wsX7_step wsX7_isFigure := goodIn_r _ [18] (by decide +kernel) (by decide +kernel)
set_option maxRecDepth 20000 in
theorem gX7_step_X7_isFigure : GoodIn wsX7_step (va_wsS RX7 144 yX7_isFigure wsX7_isFigure) := goodIn_app (goodIn_of _ (by decide +kernel)) ggX7_step_X7_isFigure
theorem dX7_step_0 : decode cX7_step 0 = .ok (.aload_n 0, 1) := by decide +kernel
theorem dX7_step_1 : decode cX7_step 1 = .ok (.aload_n 0, 1) := by decide +kernel
theorem dX7_step_2 : decode cX7_step 2 = .ok (.getfield 129, 3) := by decide +kernel
theorem dX7_step_5 : decode cX7_step 5 = .ok (.invokevirtual 132, 3) := by decide +kernel
theorem dX7_step_8 : decode cX7_step 8 = .ok (.bipush 32, 2) := by decide +kernel
theorem dX7_step_10 : decode cX7_step 10 = .ok (.if_icmp .eq 16, 3) := by decide +kernel
theorem dX7_step_13 : decode cX7_step 13 = .ok (.aload_n 0, 1) := by decide +kernel
theorem dX7_step_14 : decode cX7_step 14 = .ok (.aload_n 0, 1) := by decide +kernel
theorem dX7_step_15 : decode cX7_step 15 = .ok (.getfield 129, 3) := by decide +kernel
theorem dX7_step_18 : decode cX7_step 18 = .ok (.invokevirtual 132, 3) := by decide +kernel
theorem dX7_step_21 : decode cX7_step 21 = .ok (.bipush 10, 2) := by decide +kernel
theorem dX7_step_23 : decode cX7_step 23 = .ok (.if_icmp .ne 16, 3) := by decide +kernel
theorem dX7_step_26 : decode cX7_step 26 = .ok (.aload_n 0, 1) := by decide +kernel
theorem dX7_step_27 : decode cX7_step 27 = .ok (.dup, 1) := by decide +kernel
theorem dX7_step_28 : decode cX7_step 28 = .ok (.getfield 129, 3) := by decide +kernel
theorem dX7_step_31 : decode cX7_step 31 = .ok (.iconst 1, 1) := by decide +kernel
theorem dX7_step_32 : decode cX7_step 32 = .ok (.iadd, 1) := by decide +kernel
theorem dX7_step_33 : decode cX7_step 33 = .ok (.putfield 129, 3) := by decide +kernel
theorem dX7_step_36 : decode cX7_step 36 = .ok (.goto (-36), 3) := by decide +kernel
theorem dX7_step_39 : decode cX7_step 39 = .ok (.aload_n 0, 1) := by decide +kernel
theorem dX7_step_40 : decode cX7_step 40 = .ok (.aload_n 0, 1) := by decide +kernel
theorem dX7_step_41 : decode cX7_step 41 = .ok (.getfield 129, 3) := by decide +kernel
theorem dX7_step_44 : decode cX7_step 44 = .ok (.putfield 135, 3) := by decide +kernel
theorem dX7_step_47 : decode cX7_step 47 = .ok (.aload_n 0, 1) := by decide +kernel
theorem dX7_step_48 : decode cX7_step 48 = .ok (.aload_n 0, 1) := by decide +kernel
theorem dX7_step_49 : decode cX7_step 49 = .ok (.getfield 129, 3) := by decide +kernel
theorem dX7_step_52 : decode cX7_step 52 = .ok (.invokevirtual 132, 3) := by decide +kernel
theorem dX7_step_55 : decode cX7_step 55 = .ok (.istore_n 1, 1) := by decide +kernel
theorem dX7_step_56 : decode cX7_step 56 = .ok (.iload_n 1, 1) := by decide +kernel
theorem dX7_step_57 : decode cX7_step 57 = .ok (.ldc 86, 2) := by decide +kernel
theorem dX7_step_59 : decode cX7_step 59 = .ok (.if_icmp .ne 11, 3) := by decide +kernel
end
section
theorem dX7_step_62 : decode cX7_step 62 = .ok (.aload_n 0, 1) := by decide +kernel
theorem dX7_step_63 : decode cX7_step 63 = .ok (.iconst 1, 1) := by decide +kernel
theorem dX7_step_64 : decode cX7_step 64 = .ok (.putfield 138, 3) := by decide +kernel
theorem dX7_step_67 : decode cX7_step 67 = .ok (.goto 147, 3) := by decide +kernel
theorem dX7_step_70 : decode cX7_step 70 = .ok (.iload_n 1, 1) := by decide +kernel
theorem dX7_step_71 : decode cX7_step 71 = .ok (.invokestatic 141, 3) := by decide +kernel
theorem dX7_step_74 : decode cX7_step 74 = .ok (.ifCond .eq 56, 3) := by decide +kernel
theorem dX7_step_77 : decode cX7_step 77 = .ok (.aload_n 0, 1) := by decide +kernel
theorem dX7_step_78 : decode cX7_step 78 = .ok (.aload_n 0, 1) := by decide +kernel
theorem dX7_step_79 : decode cX7_step 79 = .ok (.getfield 129, 3) := by decide +kernel
theorem dX7_step_82 : decode cX7_step 82 = .ok (.invokevirtual 132, 3) := by decide +kernel
theorem dX7_step_85 : decode cX7_step 85 = .ok (.invokestatic 141, 3) := by decide +kernel
theorem dX7_step_88 : decode cX7_step 88 = .ok (.ifCond .eq 16, 3) := by decide +kernel
theorem dX7_step_91 : decode cX7_step 91 = .ok (.aload_n 0, 1) := by decide +kernel
theorem dX7_step_92 : decode cX7_step 92 = .ok (.dup, 1) := by decide +kernel
theorem dX7_step_93 : decode cX7_step 93 = .ok (.getfield 129, 3) := by decide +kernel
theorem dX7_step_96 : decode cX7_step 96 = .ok (.iconst 1, 1) := by decide +kernel
theorem dX7_step_97 : decode cX7_step 97 = .ok (.iadd, 1) := by decide +kernel
theorem dX7_step_98 : decode cX7_step 98 = .ok (.putfield 129, 3) := by decide +kernel
theorem dX7_step_101 : decode cX7_step 101 = .ok (.goto (-24), 3) := by decide +kernel
theorem dX7_step_104 : decode cX7_step 104 = .ok (.aload_n 0, 1) := by decide +kernel
theorem dX7_step_105 : decode cX7_step 105 = .ok (.aload_n 0, 1) := by decide +kernel
theorem dX7_step_106 : decode cX7_step 106 = .ok (.getfield 129, 3) := by decide +kernel
theorem dX7_step_109 : decode cX7_step 109 = .ok (.aload_n 0, 1) := by decide +kernel
theorem dX7_step_110 : decode cX7_step 110 = .ok (.getfield 135, 3) := by decide +kernel
theorem dX7_step_113 : decode cX7_step 113 = .ok (.isub, 1) := by decide +kernel
theorem dX7_step_114 : decode cX7_step 114 = .ok (.bipush 6, 2) := by decide +kernel
theorem dX7_step_116 : decode cX7_step 116 = .ok (.if_icmp .le 7, 3) := by decide +kernel
theorem dX7_step_119 : decode cX7_step 119 = .ok (.iconst 0, 1) := by decide +kernel
theorem dX7_step_120 : decode cX7_step 120 = .ok (.goto 4, 3) := by decide +kernel
theorem dX7_step_123 : decode cX7_step 123 = .ok (.iconst 2, 1) := by decide +kernel
theorem dX7_step_124 : decode cX7_step 124 = .ok (.putfield 138, 3) := by decide +kernel
theorem dX7_step_127 : decode cX7_step 127 = .ok (.goto 87, 3) := by decide +kernel
theorem dX7_step_130 : decode cX7_step 130 = .ok (.iload_n 1, 1) := by decide +kernel
theorem dX7_step_131 : decode cX7_step 131 = .ok (.invokestatic 144, 3) := by decide +kernel
theorem dX7_step_134 : decode cX7_step 134 = .ok (.ifCond .eq 55, 3) := by decide +kernel
theorem dX7_step_137 : decode cX7_step 137 = .ok (.aload_n 0, 1) := by decide +kernel
theorem dX7_step_138 : decode cX7_step 138 = .ok (.aload_n 0, 1) := by decide +kernel
theorem dX7_step_139 : decode cX7_step 139 = .ok (.getfield 129, 3) := by decide +kernel
theorem dX7_step_142 : decode cX7_step 142 = .ok (.invokevirtual 132, 3) := by decide +kernel
theorem dX7_step_145 : decode cX7_step 145 = .ok (.invokestatic 144, 3) := by decide +kernel
theorem dX7_step_148 : decode cX7_step 148 = .ok (.ifCond .eq 16, 3) := by decide +kernel
theorem dX7_step_151 : decode cX7_step 151 = .ok (.aload_n 0, 1) := by decide +kernel
theorem dX7_step_152 : decode cX7_step 152 = .ok (.dup, 1) := by decide +kernel
theorem dX7_step_153 : decode cX7_step 153 = .ok (.getfield 129, 3) := by decide +kernel
theorem dX7_step_156 : decode cX7_step 156 = .ok (.iconst 1, 1) := by decide +kernel
theorem dX7_step_157 : decode cX7_step 157 = .ok (.iadd, 1) := by decide +kernel
theorem dX7_step_158 : decode cX7_step 158 = .ok (.putfield 129, 3) := by decide +kernel
theorem dX7_step_161 : decode cX7_step 161 = .ok (.goto (-24), 3) := by decide +kernel
theorem dX7_step_164 : decode cX7_step 164 = .ok (.aload_n 0, 1) := by decide +kernel
theorem dX7_step_165 : decode cX7_step 165 = .ok (.aload_n 0, 1) := by decide +kernel
theorem dX7_step_166 : decode cX7_step 166 = .ok (.getfield 129, 3) := by decide +kernel
theorem dX7_step_169 : decode cX7_step 169 = .ok (.aload_n 0, 1) := by decide +kernel
theorem dX7_step_170 : decode cX7_step 170 = .ok (.getfield 135, 3) := by decide +kernel
theorem dX7_step_173 : decode cX7_step 173 = .ok (.isub, 1) := by decide +kernel
theorem dX7_step_174 : decode cX7_step 174 = .ok (.iconst 2, 1) := by decide +kernel
theorem dX7_step_175 : decode cX7_step 175 = .ok (.if_icmp .le 7, 3) := by decide +kernel
theorem dX7_step_178 : decode cX7_step 178 = .ok (.iconst 0, 1) := by decide +kernel
theorem dX7_step_179 : decode cX7_step 179 = .ok (.goto 4, 3) := by decide +kernel
theorem dX7_step_182 : decode cX7_step 182 = .ok (.iconst 3, 1) := by decide +kernel
theorem dX7_step_183 : decode cX7_step 183 = .ok (.putfield 138, 3) := by decide +kernel
theorem dX7_step_186 : decode cX7_step 186 = .ok (.goto 28, 3) := by decide +kernel
theorem dX7_step_189 : decode cX7_step 189 = .ok (.aload_n 0, 1) := by decide +kernel
theorem dX7_step_190 : decode cX7_step 190 = .ok (.dup, 1) := by decide +kernel
theorem dX7_step_191 : decode cX7_step 191 = .ok (.getfield 129, 3) := by decide +kernel
theorem dX7_step_194 : decode cX7_step 194 = .ok (.iconst 1, 1) := by decide +kernel
theorem dX7_step_195 : decode cX7_step 195 = .ok (.iadd, 1) := by decide +kernel
theorem dX7_step_196 : decode cX7_step 196 = .ok (.putfield 129, 3) := by decide +kernel
theorem dX7_step_199 : decode cX7_step 199 = .ok (.aload_n 0, 1) := by decide +kernel
theorem dX7_step_200 : decode cX7_step 200 = .ok (.iload_n 1, 1) := by decide +kernel
theorem dX7_step_201 : decode cX7_step 201 = .ok (.bipush 59, 2) := by decide +kernel
theorem dX7_step_203 : decode cX7_step 203 = .ok (.if_icmp .ne 7, 3) := by decide +kernel
theorem dX7_step_206 : decode cX7_step 206 = .ok (.iconst 4, 1) := by decide +kernel
theorem dX7_step_207 : decode cX7_step 207 = .ok (.goto 4, 3) := by decide +kernel
theorem dX7_step_210 : decode cX7_step 210 = .ok (.iconst 0, 1) := by decide +kernel
theorem dX7_step_211 : decode cX7_step 211 = .ok (.putfield 138, 3) := by decide +kernel
theorem dX7_step_214 : decode cX7_step 214 = .ok (.aload_n 0, 1) := by decide +kernel
theorem dX7_step_215 : decode cX7_step 215 = .ok (.aload_n 0, 1) := by decide +kernel
theorem dX7_step_216 : decode cX7_step 216 = .ok (.getfield 129, 3) := by decide +kernel
theorem dX7_step_219 : decode cX7_step 219 = .ok (.putfield 147, 3) := by decide +kernel
theorem dX7_step_222 : decode cX7_step 222 = .ok (.return_, 1) := by decide +kernel
theorem dX7_bad_0 : decode cX7_bad 0 = .ok (.aload_n 0, 1) := by decide +kernel
theorem dX7_bad_1 : decode cX7_bad 1 = .ok (.getfield 150, 3) := by decide +kernel
theorem dX7_bad_4 : decode cX7_bad 4 = .ok (.ifCond .ne 16, 3) := by decide +kernel
theorem dX7_bad_7 : decode cX7_bad 7 = .ok (.aload_n 0, 1) := by decide +kernel
theorem dX7_bad_8 : decode cX7_bad 8 = .ok (.iload_n 1, 1) := by decide +kernel
theorem dX7_bad_9 : decode cX7_bad 9 = .ok (.putfield 150, 3) := by decide +kernel
theorem dX7_bad_12 : decode cX7_bad 12 = .ok (.aload_n 0, 1) := by decide +kernel
theorem dX7_bad_13 : decode cX7_bad 13 = .ok (.aload_n 0, 1) := by decide +kernel
theorem dX7_bad_14 : decode cX7_bad 14 = .ok (.getfield 135, 3) := by decide +kernel
theorem dX7_bad_17 : decode cX7_bad 17 = .ok (.putfield 153, 3) := by decide +kernel
theorem dX7_bad_20 : decode cX7_bad 20 = .ok (.return_, 1) := by decide +kernel
set_option maxRecDepth 20000 in
theorem ggX7_need_X7_bad : GoodIn wsX7_need wsX7_bad := goodIn_r _ [6, 1, 7, 8, 29, 30, 31, 32, 33, 34, 35, 36, 37, 38, 39, 40, 41, 42, 43, 44, 45, 46, 47, 48, 49, 50, 51, 52, 53, 54, 55, 56] (by decide +kernel) (by decide +kernel)
set_option maxRecDepth 20000 in
theorem gX7_need_X7_bad : GoodIn wsX7_need (wsV RX7 156 RX7 yX7_bad wsX7_bad) := goodIn_app (goodIn_of _ (by decide +kernel)) ggX7_need_X7_bad
set_option maxRecDepth 20000 in
theorem ggX7_need_X7_step : GoodIn wsX7_need wsX7_step := goodIn_r _ [12, 13, 7, 14, 15, 16, 17, 18, 19, 5, 20, 21, 22, 23, 24, 25, 26, 27, 28, 29, 30, 31, 32, 33, 34, 35, 36, 37, 38, 39, 40, 41, 42, 43, 44, 45, 46, 47, 48, 49, 50, 51, 52, 53, 54, 55, 56] (by decide +kernel) (by decide +kernel)
set_option maxRecDepth 20000 in
theorem gX7_need_X7_step : GoodIn wsX7_need (wsV RX7 160 RX7 yX7_step wsX7_step) := goodIn_app (goodIn_of _ (by decide +kernel)) ggX7_need_X7_step
theorem dX7_need_0 : decode cX7_need 0 = .ok (.iload_n 1, 1) := by decide +kernel
theorem dX7_need_1 : decode cX7_need 1 = .ok (.ifCond .ne 8, 3) := by decide +kernel
theorem dX7_need_4 : decode cX7_need 4 = .ok (.aload_n 0, 1) := by decide +kernel
theorem dX7_need_5 : decode cX7_need 5 = .ok (.iconst 1, 1) := by decide +kernel
theorem dX7_need_6 : decode cX7_need 6 = .ok (.invokevirtual 156, 3) := by decide +kernel
theorem dX7_need_9 : decode cX7_need 9 = .ok (.aload_n 0, 1) := by decide +kernel
theorem dX7_need_10 : decode cX7_need 10 = .ok (.getfield 150, 3) := by decide +kernel
theorem dX7_need_13 : decode cX7_need 13 = .ok (.ifCond .ne 7, 3) := by decide +kernel
theorem dX7_need_16 : decode cX7_need 16 = .ok (.aload_n 0, 1) := by decide +kernel
theorem dX7_need_17 : decode cX7_need 17 = .ok (.invokevirtual 160, 3) := by decide +kernel
theorem dX7_need_20 : decode cX7_need 20 = .ok (.return_, 1) := by decide +kernel
theorem dX7_word_0 : decode cX7_word 0 = .ok (.lconst 0, 1) := by decide +kernel
theorem dX7_word_1 : decode cX7_word 1 = .ok (.lstore_n 1, 1) := by decide +kernel
theorem dX7_word_2 : decode cX7_word 2 = .ok (.aload_n 0, 1) := by decide +kernel
theorem dX7_word_3 : decode cX7_word 3 = .ok (.getfield 135, 3) := by decide +kernel
theorem dX7_word_6 : decode cX7_word 6 = .ok (.istore_n 3, 1) := by decide +kernel
theorem dX7_word_7 : decode cX7_word 7 = .ok (.iload_n 3, 1) := by decide +kernel
theorem dX7_word_8 : decode cX7_word 8 = .ok (.aload_n 0, 1) := by decide +kernel
theorem dX7_word_9 : decode cX7_word 9 = .ok (.getfield 147, 3) := by decide +kernel
theorem dX7_word_12 : decode cX7_word 12 = .ok (.if_icmp .ge 30, 3) := by decide +kernel
theorem dX7_word_15 : decode cX7_word 15 = .ok (.aload_n 0, 1) := by decide +kernel
theorem dX7_word_16 : decode cX7_word 16 = .ok (.getfield 138, 3) := by decide +kernel
theorem dX7_word_19 : decode cX7_word 19 = .ok (.iconst 2, 1) := by decide +kernel
theorem dX7_word_20 : decode cX7_word 20 = .ok (.if_icmp .ne 22, 3) := by decide +kernel
theorem dX7_word_23 : decode cX7_word 23 = .ok (.lload_n 1, 1) := by decide +kernel
theorem dX7_word_24 : decode cX7_word 24 = .ok (.bipush 8, 2) := by decide +kernel
theorem dX7_word_26 : decode cX7_word 26 = .ok (.lshl, 1) := by decide +kernel
theorem dX7_word_27 : decode cX7_word 27 = .ok (.aload_n 0, 1) := by decide +kernel
theorem dX7_word_28 : decode cX7_word 28 = .ok (.getfield 28, 3) := by decide +kernel
theorem dX7_word_31 : decode cX7_word 31 = .ok (.iload_n 3, 1) := by decide +kernel
theorem dX7_word_32 : decode cX7_word 32 = .ok (.iaload, 1) := by decide +kernel
theorem dX7_word_33 : decode cX7_word 33 = .ok (.i2l, 1) := by decide +kernel
theorem dX7_word_34 : decode cX7_word 34 = .ok (.lor, 1) := by decide +kernel
theorem dX7_word_35 : decode cX7_word 35 = .ok (.lstore_n 1, 1) := by decide +kernel
theorem dX7_word_36 : decode cX7_word 36 = .ok (.iinc 3 1, 3) := by decide +kernel
theorem dX7_word_39 : decode cX7_word 39 = .ok (.goto (-32), 3) := by decide +kernel
theorem dX7_word_42 : decode cX7_word 42 = .ok (.lload_n 1, 1) := by decide +kernel
theorem dX7_word_43 : decode cX7_word 43 = .ok (.lreturn, 1) := by decide +kernel
set_option maxRecDepth 20000 in
theorem ggX7_readRound_X7_word : GoodIn wsX7_readRound wsX7_word := goodIn_r _ [16, 8, 9, 7, 10, 43, 44, 45, 46, 47, 48, 49, 50, 51, 52, 53, 54, 55, 56, 57, 58, 59, 60, 61, 62, 63, 64, 65, 66, 67, 68, 69, 70] (by decide +kernel) (by decide +kernel)
set_option maxRecDepth 20000 in
theorem gX7_readRound_X7_word : GoodIn wsX7_readRound (wsV RX7 163 RX7 yX7_word wsX7_word) := goodIn_app (goodIn_of _ (by decide +kernel)) ggX7_readRound_X7_word
set_option maxRecDepth 20000 in
theorem ggX7_readRound_X7_bad : GoodIn wsX7_readRound wsX7_bad := goodIn_r _ [20, 6, 8, 21, 43, 44, 45, 46, 47, 48, 49, 50, 51, 52, 53, 54, 55, 56, 57, 58, 59, 60, 61, 62, 63, 64, 65, 66, 67, 68, 69, 70] (by decide +kernel) (by decide +kernel)
set_option maxRecDepth 20000 in
theorem gX7_readRound_X7_bad : GoodIn wsX7_readRound (wsV RX7 156 RX7 yX7_bad wsX7_bad) := goodIn_app (goodIn_of _ (by decide +kernel)) ggX7_readRound_X7_bad
set_option maxRecDepth 20000 in
theorem ggX7_readRound_X7_need : GoodIn wsX7_readRound wsX7_need := goodIn_r _ [25, 6, 17, 18, 19, 15, 20, 8, 21, 26, 27, 28, 29, 30, 31, 7, 9, 32, 33, 34, 35, 36, 10, 37, 38, 39, 40, 41, 42, 43, 44, 45, 46, 47, 48, 49, 50, 51, 52, 53, 54, 55, 56, 57, 58, 59, 60, 61, 62, 63, 64, 65, 66, 67, 68, 69, 70] (by decide +kernel) (by decide +kernel)
set_option maxRecDepth 20000 in
theorem gX7_readRound_X7_need : GoodIn wsX7_readRound (wsV RX7 176 RX7 yX7_need wsX7_need) := goodIn_app (goodIn_of _ (by decide +kernel)) ggX7_readRound_X7_need
set_option maxRecDepth 20000 in
theorem ggX7_readRound_X7_step : GoodIn wsX7_readRound wsX7_step := goodIn_r _ [29, 30, 8, 31, 7, 9, 32, 33, 34, 15, 35, 36, 10, 37, 38, 39, 40, 41, 42, 43, 44, 45, 46, 47, 48, 49, 50, 51, 52, 53, 54, 55, 56, 57, 58, 59, 60, 61, 62, 63, 64, 65, 66, 67, 68, 69, 70] (by decide +kernel) (by decide +kernel)
set_option maxRecDepth 20000 in
theorem gX7_readRound_X7_step : GoodIn wsX7_readRound (wsV RX7 160 RX7 yX7_step wsX7_step) := goodIn_app (goodIn_of _ (by decide +kernel)) ggX7_readRound_X7_step
theorem dX7_readRound_0 : decode cX7_readRound 0 = .ok (.aload_n 0, 1) := by decide +kernel
theorem dX7_readRound_1 : decode cX7_readRound 1 = .ok (.invokevirtual 163, 3) := by decide +kernel
theorem dX7_readRound_4 : decode cX7_readRound 4 = .ok (.lstore_n 1, 1) := by decide +kernel
theorem dX7_readRound_5 : decode cX7_readRound 5 = .ok (.lload_n 1, 1) := by decide +kernel
theorem dX7_readRound_6 : decode cX7_readRound 6 = .ok (.ldc2_w 167, 3) := by decide +kernel
theorem dX7_readRound_9 : decode cX7_readRound 9 = .ok (.lcmp, 1) := by decide +kernel
theorem dX7_readRound_10 : decode cX7_readRound 10 = .ok (.ifCond .eq 19, 3) := by decide +kernel
theorem dX7_readRound_13 : decode cX7_readRound 13 = .ok (.lload_n 1, 1) := by decide +kernel
theorem dX7_readRound_14 : decode cX7_readRound 14 = .ok (.ldc2_w 169, 3) := by decide +kernel
theorem dX7_readRound_17 : decode cX7_readRound 17 = .ok (.lcmp, 1) := by decide +kernel
theorem dX7_readRound_18 : decode cX7_readRound 18 = .ok (.ifCond .eq 11, 3) := by decide +kernel
theorem dX7_readRound_21 : decode cX7_readRound 21 = .ok (.lload_n 1, 1) := by decide +kernel
theorem dX7_readRound_22 : decode cX7_readRound 22 = .ok (.ldc2_w 171, 3) := by decide +kernel
theorem dX7_readRound_25 : decode cX7_readRound 25 = .ok (.lcmp, 1) := by decide +kernel
theorem dX7_readRound_26 : decode cX7_readRound 26 = .ok (.ifCond .ne 7, 3) := by decide +kernel
theorem dX7_readRound_29 : decode cX7_readRound 29 = .ok (.iconst 1, 1) := by decide +kernel
theorem dX7_readRound_30 : decode cX7_readRound 30 = .ok (.goto 4, 3) := by decide +kernel
theorem dX7_readRound_33 : decode cX7_readRound 33 = .ok (.iconst 0, 1) := by decide +kernel
theorem dX7_readRound_34 : decode cX7_readRound 34 = .ok (.istore_n 3, 1) := by decide +kernel
theorem dX7_readRound_35 : decode cX7_readRound 35 = .ok (.lload_n 1, 1) := by decide +kernel
theorem dX7_readRound_36 : decode cX7_readRound 36 = .ok (.ldc2_w 171, 3) := by decide +kernel
theorem dX7_readRound_39 : decode cX7_readRound 39 = .ok (.lcmp, 1) := by decide +kernel
theorem dX7_readRound_40 : decode cX7_readRound 40 = .ok (.ifCond .ne 15, 3) := by decide +kernel
theorem dX7_readRound_43 : decode cX7_readRound 43 = .ok (.aload_n 0, 1) := by decide +kernel
theorem dX7_readRound_44 : decode cX7_readRound 44 = .ok (.getfield 173, 3) := by decide +kernel
theorem dX7_readRound_47 : decode cX7_readRound 47 = .ok (.ifCond .ne 8, 3) := by decide +kernel
theorem dX7_readRound_50 : decode cX7_readRound 50 = .ok (.aload_n 0, 1) := by decide +kernel
theorem dX7_readRound_51 : decode cX7_readRound 51 = .ok (.iconst 2, 1) := by decide +kernel
theorem dX7_readRound_52 : decode cX7_readRound 52 = .ok (.invokevirtual 156, 3) := by decide +kernel
theorem dX7_readRound_55 : decode cX7_readRound 55 = .ok (.iload_n 3, 1) := by decide +kernel
theorem dX7_readRound_56 : decode cX7_readRound 56 = .ok (.ifCond .eq 17, 3) := by decide +kernel
theorem dX7_readRound_59 : decode cX7_readRound 59 = .ok (.aload_n 0, 1) := by decide +kernel
theorem dX7_readRound_60 : decode cX7_readRound 60 = .ok (.getfield 173, 3) := by decide +kernel
theorem dX7_readRound_63 : decode cX7_readRound 63 = .ok (.bipush 20, 2) := by decide +kernel
theorem dX7_readRound_65 : decode cX7_readRound 65 = .ok (.if_icmp .ne 8, 3) := by decide +kernel
theorem dX7_readRound_68 : decode cX7_readRound 68 = .ok (.aload_n 0, 1) := by decide +kernel
theorem dX7_readRound_69 : decode cX7_readRound 69 = .ok (.iconst 3, 1) := by decide +kernel
theorem dX7_readRound_70 : decode cX7_readRound 70 = .ok (.invokevirtual 156, 3) := by decide +kernel
theorem dX7_readRound_73 : decode cX7_readRound 73 = .ok (.aload_n 0, 1) := by decide +kernel
theorem dX7_readRound_74 : decode cX7_readRound 74 = .ok (.iload_n 3, 1) := by decide +kernel
theorem dX7_readRound_75 : decode cX7_readRound 75 = .ok (.invokevirtual 176, 3) := by decide +kernel
theorem dX7_readRound_78 : decode cX7_readRound 78 = .ok (.lload_n 1, 1) := by decide +kernel
theorem dX7_readRound_79 : decode cX7_readRound 79 = .ok (.ldc2_w 169, 3) := by decide +kernel
theorem dX7_readRound_82 : decode cX7_readRound 82 = .ok (.lcmp, 1) := by decide +kernel
theorem dX7_readRound_83 : decode cX7_readRound 83 = .ok (.ifCond .ne 7, 3) := by decide +kernel
theorem dX7_readRound_86 : decode cX7_readRound 86 = .ok (.iconst (-1), 1) := by decide +kernel
theorem dX7_readRound_87 : decode cX7_readRound 87 = .ok (.goto 33, 3) := by decide +kernel
theorem dX7_readRound_90 : decode cX7_readRound 90 = .ok (.lload_n 1, 1) := by decide +kernel
theorem dX7_readRound_91 : decode cX7_readRound 91 = .ok (.ldc2_w 171, 3) := by decide +kernel
theorem dX7_readRound_94 : decode cX7_readRound 94 = .ok (.lcmp, 1) := by decide +kernel
theorem dX7_readRound_95 : decode cX7_readRound 95 = .ok (.ifCond .ne 24, 3) := by decide +kernel
theorem dX7_readRound_98 : decode cX7_readRound 98 = .ok (.aload_n 0, 1) := by decide +kernel
theorem dX7_readRound_99 : decode cX7_readRound 99 = .ok (.getfield 173, 3) := by decide +kernel
theorem dX7_readRound_102 : decode cX7_readRound 102 = .ok (.ifCond .le 17, 3) := by decide +kernel
theorem dX7_readRound_105 : decode cX7_readRound 105 = .ok (.aload_n 0, 1) := by decide +kernel
theorem dX7_readRound_106 : decode cX7_readRound 106 = .ok (.getfield 25, 3) := by decide +kernel
theorem dX7_readRound_109 : decode cX7_readRound 109 = .ok (.aload_n 0, 1) := by decide +kernel
theorem dX7_readRound_110 : decode cX7_readRound 110 = .ok (.getfield 173, 3) := by decide +kernel
theorem dX7_readRound_113 : decode cX7_readRound 113 = .ok (.iconst 1, 1) := by decide +kernel
theorem dX7_readRound_114 : decode cX7_readRound 114 = .ok (.isub, 1) := by decide +kernel
theorem dX7_readRound_115 : decode cX7_readRound 115 = .ok (.iaload, 1) := by decide +kernel
theorem dX7_readRound_116 : decode cX7_readRound 116 = .ok (.goto 4, 3) := by decide +kernel
theorem dX7_readRound_119 : decode cX7_readRound 119 = .ok (.iconst 0, 1) := by decide +kernel
theorem dX7_readRound_120 : decode cX7_readRound 120 = .ok (.istore 4, 2) := by decide +kernel
theorem dX7_readRound_122 : decode cX7_readRound 122 = .ok (.aload_n 0, 1) := by decide +kernel
theorem dX7_readRound_123 : decode cX7_readRound 123 = .ok (.getfield 150, 3) := by decide +kernel
theorem dX7_readRound_126 : decode cX7_readRound 126 = .ok (.ifCond .ne 105, 3) := by decide +kernel
theorem dX7_readRound_129 : decode cX7_readRound 129 = .ok (.lload_n 1, 1) := by decide +kernel
theorem dX7_readRound_130 : decode cX7_readRound 130 = .ok (.ldc2_w 167, 3) := by decide +kernel
theorem dX7_readRound_133 : decode cX7_readRound 133 = .ok (.lcmp, 1) := by decide +kernel
theorem dX7_readRound_134 : decode cX7_readRound 134 = .ok (.ifCond .ne 97, 3) := by decide +kernel
theorem dX7_readRound_137 : decode cX7_readRound 137 = .ok (.aload_n 0, 1) := by decide +kernel
theorem dX7_readRound_138 : decode cX7_readRound 138 = .ok (.getfield 138, 3) := by decide +kernel
theorem dX7_readRound_141 : decode cX7_readRound 141 = .ok (.iconst 3, 1) := by decide +kernel
theorem dX7_readRound_142 : decode cX7_readRound 142 = .ok (.if_icmp .ne 89, 3) := by decide +kernel
theorem dX7_readRound_145 : decode cX7_readRound 145 = .ok (.iconst 0, 1) := by decide +kernel
theorem dX7_readRound_146 : decode cX7_readRound 146 = .ok (.istore 5, 2) := by decide +kernel
theorem dX7_readRound_148 : decode cX7_readRound 148 = .ok (.aload_n 0, 1) := by decide +kernel
theorem dX7_readRound_149 : decode cX7_readRound 149 = .ok (.getfield 135, 3) := by decide +kernel
theorem dX7_readRound_152 : decode cX7_readRound 152 = .ok (.istore 6, 2) := by decide +kernel
theorem dX7_readRound_154 : decode cX7_readRound 154 = .ok (.iload 6, 2) := by decide +kernel
theorem dX7_readRound_156 : decode cX7_readRound 156 = .ok (.aload_n 0, 1) := by decide +kernel
theorem dX7_readRound_157 : decode cX7_readRound 157 = .ok (.getfield 147, 3) := by decide +kernel
theorem dX7_readRound_160 : decode cX7_readRound 160 = .ok (.if_icmp .ge 27, 3) := by decide +kernel
theorem dX7_readRound_163 : decode cX7_readRound 163 = .ok (.bipush 10, 2) := by decide +kernel
theorem dX7_readRound_165 : decode cX7_readRound 165 = .ok (.iload 5, 2) := by decide +kernel
theorem dX7_readRound_167 : decode cX7_readRound 167 = .ok (.imul, 1) := by decide +kernel
theorem dX7_readRound_168 : decode cX7_readRound 168 = .ok (.aload_n 0, 1) := by decide +kernel
theorem dX7_readRound_169 : decode cX7_readRound 169 = .ok (.getfield 28, 3) := by decide +kernel
theorem dX7_readRound_172 : decode cX7_readRound 172 = .ok (.iload 6, 2) := by decide +kernel
theorem dX7_readRound_174 : decode cX7_readRound 174 = .ok (.iaload, 1) := by decide +kernel
theorem dX7_readRound_175 : decode cX7_readRound 175 = .ok (.iadd, 1) := by decide +kernel
theorem dX7_readRound_176 : decode cX7_readRound 176 = .ok (.bipush 48, 2) := by decide +kernel
theorem dX7_readRound_178 : decode cX7_readRound 178 = .ok (.isub, 1) := by decide +kernel
theorem dX7_readRound_179 : decode cX7_readRound 179 = .ok (.istore 5, 2) := by decide +kernel
theorem dX7_readRound_181 : decode cX7_readRound 181 = .ok (.iinc 6 1, 3) := by decide +kernel
theorem dX7_readRound_184 : decode cX7_readRound 184 = .ok (.goto (-30), 3) := by decide +kernel
theorem dX7_readRound_187 : decode cX7_readRound 187 = .ok (.iload 5, 2) := by decide +kernel
theorem dX7_readRound_189 : decode cX7_readRound 189 = .ok (.aload_n 0, 1) := by decide +kernel
theorem dX7_readRound_190 : decode cX7_readRound 190 = .ok (.getfield 76, 3) := by decide +kernel
theorem dX7_readRound_193 : decode cX7_readRound 193 = .ok (.if_icmp .ge 14, 3) := by decide +kernel
theorem dX7_readRound_196 : decode cX7_readRound 196 = .ok (.iload 4, 2) := by decide +kernel
theorem dX7_readRound_198 : decode cX7_readRound 198 = .ok (.iload 5, 2) := by decide +kernel
theorem dX7_readRound_200 : decode cX7_readRound 200 = .ok (.ishr, 1) := by decide +kernel
theorem dX7_readRound_201 : decode cX7_readRound 201 = .ok (.iconst 1, 1) := by decide +kernel
theorem dX7_readRound_202 : decode cX7_readRound 202 = .ok (.iand, 1) := by decide +kernel
theorem dX7_readRound_203 : decode cX7_readRound 203 = .ok (.iconst 1, 1) := by decide +kernel
theorem dX7_readRound_204 : decode cX7_readRound 204 = .ok (.if_icmp .ne 11, 3) := by decide +kernel
theorem dX7_readRound_207 : decode cX7_readRound 207 = .ok (.aload_n 0, 1) := by decide +kernel
theorem dX7_readRound_208 : decode cX7_readRound 208 = .ok (.iconst 2, 1) := by decide +kernel
theorem dX7_readRound_209 : decode cX7_readRound 209 = .ok (.invokevirtual 156, 3) := by decide +kernel
theorem dX7_readRound_212 : decode cX7_readRound 212 = .ok (.goto 16, 3) := by decide +kernel
theorem dX7_readRound_215 : decode cX7_readRound 215 = .ok (.iload 4, 2) := by decide +kernel
theorem dX7_readRound_217 : decode cX7_readRound 217 = .ok (.iconst 1, 1) := by decide +kernel
theorem dX7_readRound_218 : decode cX7_readRound 218 = .ok (.iload 5, 2) := by decide +kernel
theorem dX7_readRound_220 : decode cX7_readRound 220 = .ok (.ishl, 1) := by decide +kernel
theorem dX7_readRound_221 : decode cX7_readRound 221 = .ok (.ior, 1) := by decide +kernel
theorem dX7_readRound_222 : decode cX7_readRound 222 = .ok (.istore 4, 2) := by decide +kernel
theorem dX7_readRound_224 : decode cX7_readRound 224 = .ok (.aload_n 0, 1) := by decide +kernel
theorem dX7_readRound_225 : decode cX7_readRound 225 = .ok (.invokevirtual 160, 3) := by decide +kernel
theorem dX7_readRound_228 : decode cX7_readRound 228 = .ok (.goto (-106), 3) := by decide +kernel
theorem dX7_readRound_231 : decode cX7_readRound 231 = .ok (.aload_n 0, 1) := by decide +kernel
theorem dX7_readRound_232 : decode cX7_readRound 232 = .ok (.getfield 150, 3) := by decide +kernel
theorem dX7_readRound_235 : decode cX7_readRound 235 = .ok (.ifCond .ne 20, 3) := by decide +kernel
theorem dX7_readRound_238 : decode cX7_readRound 238 = .ok (.aload_n 0, 1) := by decide +kernel
theorem dX7_readRound_239 : decode cX7_readRound 239 = .ok (.aload_n 0, 1) := by decide +kernel
theorem dX7_readRound_240 : decode cX7_readRound 240 = .ok (.getfield 138, 3) := by decide +kernel
theorem dX7_readRound_243 : decode cX7_readRound 243 = .ok (.iconst 4, 1) := by decide +kernel
theorem dX7_readRound_244 : decode cX7_readRound 244 = .ok (.if_icmp .ne 7, 3) := by decide +kernel
theorem dX7_readRound_247 : decode cX7_readRound 247 = .ok (.iconst 1, 1) := by decide +kernel
theorem dX7_readRound_248 : decode cX7_readRound 248 = .ok (.goto 4, 3) := by decide +kernel
theorem dX7_readRound_251 : decode cX7_readRound 251 = .ok (.iconst 0, 1) := by decide +kernel
theorem dX7_readRound_252 : decode cX7_readRound 252 = .ok (.invokevirtual 176, 3) := by decide +kernel
theorem dX7_readRound_255 : decode cX7_readRound 255 = .ok (.aload_n 0, 1) := by decide +kernel
theorem dX7_readRound_256 : decode cX7_readRound 256 = .ok (.getfield 150, 3) := by decide +kernel
theorem dX7_readRound_259 : decode cX7_readRound 259 = .ok (.ifCond .ne 24, 3) := by decide +kernel
theorem dX7_readRound_262 : decode cX7_readRound 262 = .ok (.aload_n 0, 1) := by decide +kernel
theorem dX7_readRound_263 : decode cX7_readRound 263 = .ok (.getfield 25, 3) := by decide +kernel
theorem dX7_readRound_266 : decode cX7_readRound 266 = .ok (.aload_n 0, 1) := by decide +kernel
theorem dX7_readRound_267 : decode cX7_readRound 267 = .ok (.getfield 173, 3) := by decide +kernel
theorem dX7_readRound_270 : decode cX7_readRound 270 = .ok (.iload 4, 2) := by decide +kernel
theorem dX7_readRound_272 : decode cX7_readRound 272 = .ok (.iastore, 1) := by decide +kernel
theorem dX7_readRound_273 : decode cX7_readRound 273 = .ok (.aload_n 0, 1) := by decide +kernel
theorem dX7_readRound_274 : decode cX7_readRound 274 = .ok (.dup, 1) := by decide +kernel
theorem dX7_readRound_275 : decode cX7_readRound 275 = .ok (.getfield 173, 3) := by decide +kernel
theorem dX7_readRound_278 : decode cX7_readRound 278 = .ok (.iconst 1, 1) := by decide +kernel
theorem dX7_readRound_279 : decode cX7_readRound 279 = .ok (.iadd, 1) := by decide +kernel
theorem dX7_readRound_280 : decode cX7_readRound 280 = .ok (.putfield 173, 3) := by decide +kernel
theorem dX7_readRound_283 : decode cX7_readRound 283 = .ok (.return_, 1) := by decide +kernel
set_option maxRecDepth 20000 in
theorem ggX7_schedule_X7_step : GoodIn wsX7_schedule wsX7_step := goodIn_r _ [18, 4, 19, 20, 7, 21, 22, 23, 24, 17, 25, 3, 26, 27, 28, 29, 30, 31, 32, 53, 54, 55, 56, 57, 58, 59, 60, 61, 62, 63, 64, 65, 66, 67, 68, 69, 70, 71, 72, 73, 74, 75, 76, 77, 78, 79, 80] (by decide +kernel) (by decide +kernel)
set_option maxRecDepth 20000 in
theorem gX7_schedule_X7_step : GoodIn wsX7_schedule (wsV RX7 160 RX7 yX7_step wsX7_step) := goodIn_app (goodIn_of _ (by decide +kernel)) ggX7_schedule_X7_step
set_option maxRecDepth 20000 in
theorem ggX7_schedule_X7_readRound : GoodIn wsX7_schedule wsX7_readRound := goodIn_r _ [36, 37, 38, 39, 6, 13, 5, 7, 19, 21, 26, 40, 41, 42, 43, 17, 44, 45, 46, 47, 48, 10, 49, 50, 51, 52, 14, 15, 16, 18, 4, 20, 22, 23, 24, 25, 3, 27, 28, 29, 30, 31, 32, 53, 54, 55, 56, 57, 58, 59, 60, 61, 62, 63, 64, 65, 66, 67, 68, 69, 70, 71, 72, 73, 74, 75, 76, 77, 78, 79, 80] (by decide +kernel) (by decide +kernel)
set_option maxRecDepth 20000 in
theorem gX7_schedule_X7_readRound : GoodIn wsX7_schedule (wsV RX7 180 RX7 yX7_readRound wsX7_readRound) := goodIn_app (goodIn_of _ (by decide +kernel)) ggX7_schedule_X7_readRound
theorem dX7_schedule_0 : decode cX7_schedule 0 = .ok (.aload_n 0, 1) := by decide +kernel
theorem dX7_schedule_1 : decode cX7_schedule 1 = .ok (.iconst 0, 1) := by decide +kernel
theorem dX7_schedule_2 : decode cX7_schedule 2 = .ok (.putfield 51, 3) := by decide +kernel
theorem dX7_schedule_5 : decode cX7_schedule 5 = .ok (.aload_n 0, 1) := by decide +kernel
theorem dX7_schedule_6 : decode cX7_schedule 6 = .ok (.aload_n 0, 1) := by decide +kernel
theorem dX7_schedule_7 : decode cX7_schedule 7 = .ok (.getfield 121, 3) := by decide +kernel
theorem dX7_schedule_10 : decode cX7_schedule 10 = .ok (.putfield 126, 3) := by decide +kernel
theorem dX7_schedule_13 : decode cX7_schedule 13 = .ok (.aload_n 0, 1) := by decide +kernel
theorem dX7_schedule_14 : decode cX7_schedule 14 = .ok (.iconst 0, 1) := by decide +kernel
theorem dX7_schedule_15 : decode cX7_schedule 15 = .ok (.putfield 121, 3) := by decide +kernel
theorem dX7_schedule_18 : decode cX7_schedule 18 = .ok (.aload_n 0, 1) := by decide +kernel
theorem dX7_schedule_19 : decode cX7_schedule 19 = .ok (.iconst 0, 1) := by decide +kernel
theorem dX7_schedule_20 : decode cX7_schedule 20 = .ok (.putfield 129, 3) := by decide +kernel
theorem dX7_schedule_23 : decode cX7_schedule 23 = .ok (.aload_n 0, 1) := by decide +kernel
theorem dX7_schedule_24 : decode cX7_schedule 24 = .ok (.iconst 0, 1) := by decide +kernel
theorem dX7_schedule_25 : decode cX7_schedule 25 = .ok (.putfield 150, 3) := by decide +kernel
theorem dX7_schedule_28 : decode cX7_schedule 28 = .ok (.aload_n 0, 1) := by decide +kernel
theorem dX7_schedule_29 : decode cX7_schedule 29 = .ok (.iconst 0, 1) := by decide +kernel
theorem dX7_schedule_30 : decode cX7_schedule 30 = .ok (.putfield 173, 3) := by decide +kernel
theorem dX7_schedule_33 : decode cX7_schedule 33 = .ok (.aload_n 0, 1) := by decide +kernel
theorem dX7_schedule_34 : decode cX7_schedule 34 = .ok (.invokevirtual 160, 3) := by decide +kernel
theorem dX7_schedule_37 : decode cX7_schedule 37 = .ok (.aload_n 0, 1) := by decide +kernel
theorem dX7_schedule_38 : decode cX7_schedule 38 = .ok (.getfield 150, 3) := by decide +kernel
theorem dX7_schedule_41 : decode cX7_schedule 41 = .ok (.ifCond .ne 18, 3) := by decide +kernel
theorem dX7_schedule_44 : decode cX7_schedule 44 = .ok (.aload_n 0, 1) := by decide +kernel
theorem dX7_schedule_45 : decode cX7_schedule 45 = .ok (.getfield 138, 3) := by decide +kernel
theorem dX7_schedule_48 : decode cX7_schedule 48 = .ok (.iconst 1, 1) := by decide +kernel
theorem dX7_schedule_49 : decode cX7_schedule 49 = .ok (.if_icmp .eq 10, 3) := by decide +kernel
theorem dX7_schedule_52 : decode cX7_schedule 52 = .ok (.aload_n 0, 1) := by decide +kernel
theorem dX7_schedule_53 : decode cX7_schedule 53 = .ok (.invokevirtual 180, 3) := by decide +kernel
theorem dX7_schedule_56 : decode cX7_schedule 56 = .ok (.goto (-19), 3) := by decide +kernel
theorem dX7_schedule_59 : decode cX7_schedule 59 = .ok (.aload_n 0, 1) := by decide +kernel
theorem dX7_schedule_60 : decode cX7_schedule 60 = .ok (.getfield 150, 3) := by decide +kernel
theorem dX7_schedule_63 : decode cX7_schedule 63 = .ok (.ifCond .le 19, 3) := by decide +kernel
theorem dX7_schedule_66 : decode cX7_schedule 66 = .ok (.aload_n 0, 1) := by decide +kernel
theorem dX7_schedule_67 : decode cX7_schedule 67 = .ok (.aload_n 0, 1) := by decide +kernel
theorem dX7_schedule_68 : decode cX7_schedule 68 = .ok (.getfield 150, 3) := by decide +kernel
theorem dX7_schedule_71 : decode cX7_schedule 71 = .ok (.putfield 183, 3) := by decide +kernel
theorem dX7_schedule_74 : decode cX7_schedule 74 = .ok (.ldc 186, 2) := by decide +kernel
theorem dX7_schedule_76 : decode cX7_schedule 76 = .ok (.aload_n 0, 1) := by decide +kernel
theorem dX7_schedule_77 : decode cX7_schedule 77 = .ok (.getfield 153, 3) := by decide +kernel
theorem dX7_schedule_80 : decode cX7_schedule 80 = .ok (.isub, 1) := by decide +kernel
theorem dX7_schedule_81 : decode cX7_schedule 81 = .ok (.ireturn, 1) := by decide +kernel
theorem dX7_schedule_82 : decode cX7_schedule 82 = .ok (.aload_n 0, 1) := by decide +kernel
theorem dX7_schedule_83 : decode cX7_schedule 83 = .ok (.aload_n 0, 1) := by decide +kernel
theorem dX7_schedule_84 : decode cX7_schedule 84 = .ok (.getfield 173, 3) := by decide +kernel
theorem dX7_schedule_87 : decode cX7_schedule 87 = .ok (.putfield 187, 3) := by decide +kernel
theorem dX7_schedule_90 : decode cX7_schedule 90 = .ok (.iconst 0, 1) := by decide +kernel
theorem dX7_schedule_91 : decode cX7_schedule 91 = .ok (.istore_n 1, 1) := by decide +kernel
theorem dX7_schedule_92 : decode cX7_schedule 92 = .ok (.iload_n 1, 1) := by decide +kernel
theorem dX7_schedule_93 : decode cX7_schedule 93 = .ok (.aload_n 0, 1) := by decide +kernel
theorem dX7_schedule_94 : decode cX7_schedule 94 = .ok (.getfield 173, 3) := by decide +kernel
theorem dX7_schedule_97 : decode cX7_schedule 97 = .ok (.if_icmp .ge 21, 3) := by decide +kernel
theorem dX7_schedule_100 : decode cX7_schedule 100 = .ok (.aload_n 0, 1) := by decide +kernel
theorem dX7_schedule_101 : decode cX7_schedule 101 = .ok (.getfield 22, 3) := by decide +kernel
theorem dX7_schedule_104 : decode cX7_schedule 104 = .ok (.iload_n 1, 1) := by decide +kernel
theorem dX7_schedule_105 : decode cX7_schedule 105 = .ok (.aload_n 0, 1) := by decide +kernel
theorem dX7_schedule_106 : decode cX7_schedule 106 = .ok (.getfield 25, 3) := by decide +kernel
theorem dX7_schedule_109 : decode cX7_schedule 109 = .ok (.iload_n 1, 1) := by decide +kernel
theorem dX7_schedule_110 : decode cX7_schedule 110 = .ok (.iaload, 1) := by decide +kernel
theorem dX7_schedule_111 : decode cX7_schedule 111 = .ok (.iastore, 1) := by decide +kernel
theorem dX7_schedule_112 : decode cX7_schedule 112 = .ok (.iinc 1 1, 3) := by decide +kernel
theorem dX7_schedule_115 : decode cX7_schedule 115 = .ok (.goto (-23), 3) := by decide +kernel
theorem dX7_schedule_118 : decode cX7_schedule 118 = .ok (.aload_n 0, 1) := by decide +kernel
theorem dX7_schedule_119 : decode cX7_schedule 119 = .ok (.getfield 187, 3) := by decide +kernel
theorem dX7_schedule_122 : decode cX7_schedule 122 = .ok (.ireturn, 1) := by decide +kernel
theorem dX7_fault_0 : decode cX7_fault 0 = .ok (.aload_n 0, 1) := by decide +kernel
theorem dX7_fault_1 : decode cX7_fault 1 = .ok (.iconst 0, 1) := by decide +kernel
theorem dX7_fault_2 : decode cX7_fault 2 = .ok (.putfield 51, 3) := by decide +kernel
theorem dX7_fault_5 : decode cX7_fault 5 = .ok (.aload_n 0, 1) := by decide +kernel
theorem dX7_fault_6 : decode cX7_fault 6 = .ok (.getfield 183, 3) := by decide +kernel
theorem dX7_fault_9 : decode cX7_fault 9 = .ok (.ireturn, 1) := by decide +kernel
set_option maxRecDepth 20000 in
theorem ggX7_soundsIn_X7_all : GoodIn wsX7_soundsIn wsX7_all := goodIn_r _ [7, 8, 9, 10, 11, 12, 13, 14, 15, 16, 17, 18, 19, 20, 21, 22, 23, 24, 25, 26, 27, 28, 29, 30, 31, 32, 33, 34, 35, 36] (by decide +kernel) (by decide +kernel)
set_option maxRecDepth 20000 in
theorem gX7_soundsIn_X7_all : GoodIn wsX7_soundsIn (wsV RX7 102 RX7 yX7_all wsX7_all) := goodIn_app (goodIn_of _ (by decide +kernel)) ggX7_soundsIn_X7_all
theorem dX7_soundsIn_0 : decode cX7_soundsIn 0 = .ok (.aload_n 0, 1) := by decide +kernel
theorem dX7_soundsIn_1 : decode cX7_soundsIn 1 = .ok (.getfield 22, 3) := by decide +kernel
theorem dX7_soundsIn_4 : decode cX7_soundsIn 4 = .ok (.iload_n 1, 1) := by decide +kernel
theorem dX7_soundsIn_5 : decode cX7_soundsIn 5 = .ok (.aload_n 0, 1) := by decide +kernel
theorem dX7_soundsIn_6 : decode cX7_soundsIn 6 = .ok (.getfield 187, 3) := by decide +kernel
theorem dX7_soundsIn_9 : decode cX7_soundsIn 9 = .ok (.irem, 1) := by decide +kernel
theorem dX7_soundsIn_10 : decode cX7_soundsIn 10 = .ok (.iaload, 1) := by decide +kernel
theorem dX7_soundsIn_11 : decode cX7_soundsIn 11 = .ok (.iconst (-1), 1) := by decide +kernel
theorem dX7_soundsIn_12 : decode cX7_soundsIn 12 = .ok (.if_icmp .ne 10, 3) := by decide +kernel
theorem dX7_soundsIn_15 : decode cX7_soundsIn 15 = .ok (.aload_n 0, 1) := by decide +kernel
theorem dX7_soundsIn_16 : decode cX7_soundsIn 16 = .ok (.invokevirtual 102, 3) := by decide +kernel
theorem dX7_soundsIn_19 : decode cX7_soundsIn 19 = .ok (.goto 14, 3) := by decide +kernel
theorem dX7_soundsIn_22 : decode cX7_soundsIn 22 = .ok (.aload_n 0, 1) := by decide +kernel
theorem dX7_soundsIn_23 : decode cX7_soundsIn 23 = .ok (.getfield 22, 3) := by decide +kernel
theorem dX7_soundsIn_26 : decode cX7_soundsIn 26 = .ok (.iload_n 1, 1) := by decide +kernel
theorem dX7_soundsIn_27 : decode cX7_soundsIn 27 = .ok (.aload_n 0, 1) := by decide +kernel
theorem dX7_soundsIn_28 : decode cX7_soundsIn 28 = .ok (.getfield 187, 3) := by decide +kernel
theorem dX7_soundsIn_31 : decode cX7_soundsIn 31 = .ok (.irem, 1) := by decide +kernel
theorem dX7_soundsIn_32 : decode cX7_soundsIn 32 = .ok (.iaload, 1) := by decide +kernel
theorem dX7_soundsIn_33 : decode cX7_soundsIn 33 = .ok (.ireturn, 1) := by decide +kernel
set_option maxRecDepth 20000 in
theorem ggX7_round_X7_in : GoodIn wsX7_round wsX7_in := goodIn_r _ [7] (by decide +kernel) (by decide +kernel)
set_option maxRecDepth 20000 in
theorem gX7_round_X7_in : GoodIn wsX7_round (va_wsS RX7 61 yX7_in wsX7_in) := goodIn_app (goodIn_of _ (by decide +kernel)) ggX7_round_X7_in
set_option maxRecDepth 20000 in
theorem ggX7_round_X7_soundsIn : GoodIn wsX7_round wsX7_soundsIn := goodIn_r _ [11, 12, 2, 13, 14, 15, 6, 16, 17, 18, 19, 20, 21, 22, 23, 24, 25, 26, 27, 28, 29, 30, 31, 32, 33, 34, 35, 36, 37, 38, 39, 40, 41, 42, 43, 44, 45] (by decide +kernel) (by decide +kernel)
set_option maxRecDepth 20000 in
theorem gX7_round_X7_soundsIn : GoodIn wsX7_round (wsV RX7 190 RX7 yX7_soundsIn wsX7_soundsIn) := goodIn_app (goodIn_of _ (by decide +kernel)) ggX7_round_X7_soundsIn
theorem dX7_round_0 : decode cX7_round 0 = .ok (.aload_n 0, 1) := by decide +kernel
theorem dX7_round_1 : decode cX7_round 1 = .ok (.iconst 0, 1) := by decide +kernel
theorem dX7_round_2 : decode cX7_round 2 = .ok (.putfield 51, 3) := by decide +kernel
theorem dX7_round_5 : decode cX7_round 5 = .ok (.iload_n 1, 1) := by decide +kernel
theorem dX7_round_6 : decode cX7_round 6 = .ok (.i2l, 1) := by decide +kernel
theorem dX7_round_7 : decode cX7_round 7 = .ok (.lconst 0, 1) := by decide +kernel
theorem dX7_round_8 : decode cX7_round 8 = .ok (.aload_n 0, 1) := by decide +kernel
theorem dX7_round_9 : decode cX7_round 9 = .ok (.getfield 187, 3) := by decide +kernel
theorem dX7_round_12 : decode cX7_round 12 = .ok (.iconst 1, 1) := by decide +kernel
theorem dX7_round_13 : decode cX7_round 13 = .ok (.isub, 1) := by decide +kernel
theorem dX7_round_14 : decode cX7_round 14 = .ok (.i2l, 1) := by decide +kernel
theorem dX7_round_15 : decode cX7_round 15 = .ok (.invokestatic 61, 3) := by decide +kernel
theorem dX7_round_18 : decode cX7_round 18 = .ok (.ifCond .eq 11, 3) := by decide +kernel
theorem dX7_round_21 : decode cX7_round 21 = .ok (.aload_n 0, 1) := by decide +kernel
theorem dX7_round_22 : decode cX7_round 22 = .ok (.iload_n 1, 1) := by decide +kernel
theorem dX7_round_23 : decode cX7_round 23 = .ok (.invokevirtual 190, 3) := by decide +kernel
theorem dX7_round_26 : decode cX7_round 26 = .ok (.goto 5, 3) := by decide +kernel
theorem dX7_round_29 : decode cX7_round 29 = .ok (.ldc 86, 2) := by decide +kernel
theorem dX7_round_31 : decode cX7_round 31 = .ok (.ireturn, 1) := by decide +kernel
set_option maxRecDepth 20000 in
theorem ggX7_run_X7_isHearing : GoodIn wsX7_run wsX7_isHearing := goodIn_r _ [9, 10, 11, 8, 12] (by decide +kernel) (by decide +kernel)
set_option maxRecDepth 20000 in
theorem gX7_run_X7_isHearing : GoodIn wsX7_run (va_wsS RX7 109 yX7_isHearing wsX7_isHearing) := goodIn_app (goodIn_of _ (by decide +kernel)) ggX7_run_X7_isHearing
set_option maxRecDepth 20000 in
theorem ggX7_run_X7_isPost : GoodIn wsX7_run wsX7_isPost := goodIn_r _ [16, 17, 10, 11, 8, 12, 39, 40, 41, 42, 43, 44, 45, 46, 47, 48, 49, 50, 51, 52, 53, 54, 55, 56, 57, 58, 59, 60, 61, 62, 63, 64, 65, 66] (by decide +kernel) (by decide +kernel)
set_option maxRecDepth 20000 in
theorem gX7_run_X7_isPost : GoodIn wsX7_run (wsV RX7 80 RX7 yX7_isPost wsX7_isPost) := goodIn_app (goodIn_of _ (by decide +kernel)) ggX7_run_X7_isPost
set_option maxRecDepth 20000 in
theorem ggX7_run_X7_in : GoodIn wsX7_run wsX7_in := goodIn_r _ [12] (by decide +kernel) (by decide +kernel)
set_option maxRecDepth 20000 in
theorem gX7_run_X7_in : GoodIn wsX7_run (va_wsS RX7 61 yX7_in wsX7_in) := goodIn_app (goodIn_of _ (by decide +kernel)) ggX7_run_X7_in
set_option maxRecDepth 20000 in
theorem ggX7_run_X7_soundsIn : GoodIn wsX7_run wsX7_soundsIn := goodIn_r _ [21, 22, 4, 23, 24, 25, 8, 26, 17, 39, 40, 41, 42, 43, 44, 45, 46, 47, 48, 49, 50, 51, 52, 53, 54, 55, 56, 57, 58, 59, 60, 61, 62, 63, 64, 65, 66] (by decide +kernel) (by decide +kernel)
set_option maxRecDepth 20000 in
theorem gX7_run_X7_soundsIn : GoodIn wsX7_run (wsV RX7 190 RX7 yX7_soundsIn wsX7_soundsIn) := goodIn_app (goodIn_of _ (by decide +kernel)) ggX7_run_X7_soundsIn
set_option maxRecDepth 20000 in
theorem ggX7_run_X7_spread : GoodIn wsX7_run wsX7_spread := goodIn_r _ [30, 31, 32, 33, 8, 34, 17, 35, 36, 37, 38, 39, 40, 41, 42, 43, 44, 45, 46, 47, 48, 49, 50, 51, 52, 53, 54, 55, 56, 57, 58, 59, 60, 61, 62, 63, 64, 65, 66] (by decide +kernel) (by decide +kernel)
set_option maxRecDepth 20000 in
theorem gX7_run_X7_spread : GoodIn wsX7_run (wsV RX7 115 RX7 yX7_spread wsX7_spread) := goodIn_app (goodIn_of _ (by decide +kernel)) ggX7_run_X7_spread
theorem dX7_run_0 : decode cX7_run 0 = .ok (.aload_n 0, 1) := by decide +kernel
theorem dX7_run_1 : decode cX7_run 1 = .ok (.iconst 0, 1) := by decide +kernel
theorem dX7_run_2 : decode cX7_run 2 = .ok (.putfield 51, 3) := by decide +kernel
theorem dX7_run_5 : decode cX7_run 5 = .ok (.iload_n 1, 1) := by decide +kernel
theorem dX7_run_6 : decode cX7_run 6 = .ok (.invokestatic 109, 3) := by decide +kernel
theorem dX7_run_9 : decode cX7_run 9 = .ok (.ifCond .eq 23, 3) := by decide +kernel
theorem dX7_run_12 : decode cX7_run 12 = .ok (.aload_n 0, 1) := by decide +kernel
theorem dX7_run_13 : decode cX7_run 13 = .ok (.iload_n 2, 1) := by decide +kernel
theorem dX7_run_14 : decode cX7_run 14 = .ok (.invokevirtual 80, 3) := by decide +kernel
theorem dX7_run_17 : decode cX7_run 17 = .ok (.ifCond .eq 15, 3) := by decide +kernel
theorem dX7_run_20 : decode cX7_run 20 = .ok (.iload_n 3, 1) := by decide +kernel
theorem dX7_run_21 : decode cX7_run 21 = .ok (.i2l, 1) := by decide +kernel
theorem dX7_run_22 : decode cX7_run 22 = .ok (.lconst 0, 1) := by decide +kernel
theorem dX7_run_23 : decode cX7_run 23 = .ok (.ldc2_w 193, 3) := by decide +kernel
theorem dX7_run_26 : decode cX7_run 26 = .ok (.invokestatic 61, 3) := by decide +kernel
theorem dX7_run_29 : decode cX7_run 29 = .ok (.ifCond .ne 6, 3) := by decide +kernel
theorem dX7_run_32 : decode cX7_run 32 = .ok (.ldc 71, 2) := by decide +kernel
theorem dX7_run_34 : decode cX7_run 34 = .ok (.ireturn, 1) := by decide +kernel
theorem dX7_run_35 : decode cX7_run 35 = .ok (.aload_n 0, 1) := by decide +kernel
theorem dX7_run_36 : decode cX7_run 36 = .ok (.getfield 187, 3) := by decide +kernel
theorem dX7_run_39 : decode cX7_run 39 = .ok (.ifCond .ne 6, 3) := by decide +kernel
theorem dX7_run_42 : decode cX7_run 42 = .ok (.ldc 195, 2) := by decide +kernel
theorem dX7_run_44 : decode cX7_run 44 = .ok (.ireturn, 1) := by decide +kernel
theorem dX7_run_45 : decode cX7_run 45 = .ok (.iconst 1, 1) := by decide +kernel
theorem dX7_run_46 : decode cX7_run 46 = .ok (.iload_n 2, 1) := by decide +kernel
theorem dX7_run_47 : decode cX7_run 47 = .ok (.ishl, 1) := by decide +kernel
theorem dX7_run_48 : decode cX7_run 48 = .ok (.istore 4, 2) := by decide +kernel
theorem dX7_run_50 : decode cX7_run 50 = .ok (.iconst 0, 1) := by decide +kernel
theorem dX7_run_51 : decode cX7_run 51 = .ok (.istore 5, 2) := by decide +kernel
theorem dX7_run_53 : decode cX7_run 53 = .ok (.iload 5, 2) := by decide +kernel
theorem dX7_run_55 : decode cX7_run 55 = .ok (.iload_n 3, 1) := by decide +kernel
theorem dX7_run_56 : decode cX7_run 56 = .ok (.if_icmp .ge 24, 3) := by decide +kernel
theorem dX7_run_59 : decode cX7_run 59 = .ok (.aload_n 0, 1) := by decide +kernel
theorem dX7_run_60 : decode cX7_run 60 = .ok (.iload_n 1, 1) := by decide +kernel
theorem dX7_run_61 : decode cX7_run 61 = .ok (.iload 4, 2) := by decide +kernel
theorem dX7_run_63 : decode cX7_run 63 = .ok (.aload_n 0, 1) := by decide +kernel
theorem dX7_run_64 : decode cX7_run 64 = .ok (.iload 5, 2) := by decide +kernel
theorem dX7_run_66 : decode cX7_run 66 = .ok (.invokevirtual 190, 3) := by decide +kernel
theorem dX7_run_69 : decode cX7_run 69 = .ok (.invokevirtual 115, 3) := by decide +kernel
theorem dX7_run_72 : decode cX7_run 72 = .ok (.istore 4, 2) := by decide +kernel
theorem dX7_run_74 : decode cX7_run 74 = .ok (.iinc 5 1, 3) := by decide +kernel
theorem dX7_run_77 : decode cX7_run 77 = .ok (.goto (-24), 3) := by decide +kernel
theorem dX7_run_80 : decode cX7_run 80 = .ok (.iload 4, 2) := by decide +kernel
theorem dX7_run_82 : decode cX7_run 82 = .ok (.ireturn, 1) := by decide +kernel
set_option maxRecDepth 20000 in
theorem ggX7_findFewest_X7_all : GoodIn wsX7_findFewest wsX7_all := goodIn_r _ [7, 8, 21, 22, 23, 24, 25, 26, 27, 28, 29, 30, 31, 32, 33, 34, 35, 36, 37, 38, 39, 40, 41, 42, 43, 44, 45, 46, 47, 48] (by decide +kernel) (by decide +kernel)
set_option maxRecDepth 20000 in
theorem gX7_findFewest_X7_all : GoodIn wsX7_findFewest (wsV RX7 102 RX7 yX7_all wsX7_all) := goodIn_app (goodIn_of _ (by decide +kernel)) ggX7_findFewest_X7_all
set_option maxRecDepth 20000 in
theorem ggX7_findFewest_X7_spread : GoodIn wsX7_findFewest wsX7_spread := goodIn_r _ [12, 13, 14, 15, 6, 16, 8, 17, 18, 19, 20, 21, 22, 23, 24, 25, 26, 27, 28, 29, 30, 31, 32, 33, 34, 35, 36, 37, 38, 39, 40, 41, 42, 43, 44, 45, 46, 47, 48] (by decide +kernel) (by decide +kernel)
set_option maxRecDepth 20000 in
theorem gX7_findFewest_X7_spread : GoodIn wsX7_findFewest (wsV RX7 115 RX7 yX7_spread wsX7_spread) := goodIn_app (goodIn_of _ (by decide +kernel)) ggX7_findFewest_X7_spread
theorem dX7_findFewest_0 : decode cX7_findFewest 0 = .ok (.iconst 0, 1) := by decide +kernel
theorem dX7_findFewest_1 : decode cX7_findFewest 1 = .ok (.istore_n 3, 1) := by decide +kernel
theorem dX7_findFewest_2 : decode cX7_findFewest 2 = .ok (.iload_n 3, 1) := by decide +kernel
theorem dX7_findFewest_3 : decode cX7_findFewest 3 = .ok (.sipush 256, 3) := by decide +kernel
theorem dX7_findFewest_6 : decode cX7_findFewest 6 = .ok (.if_icmp .ge 26, 3) := by decide +kernel
theorem dX7_findFewest_9 : decode cX7_findFewest 9 = .ok (.aload_n 0, 1) := by decide +kernel
theorem dX7_findFewest_10 : decode cX7_findFewest 10 = .ok (.getfield 31, 3) := by decide +kernel
theorem dX7_findFewest_13 : decode cX7_findFewest 13 = .ok (.iload_n 3, 1) := by decide +kernel
theorem dX7_findFewest_14 : decode cX7_findFewest 14 = .ok (.iload_n 3, 1) := by decide +kernel
theorem dX7_findFewest_15 : decode cX7_findFewest 15 = .ok (.iload_n 2, 1) := by decide +kernel
theorem dX7_findFewest_16 : decode cX7_findFewest 16 = .ok (.if_icmp .ne 7, 3) := by decide +kernel
theorem dX7_findFewest_19 : decode cX7_findFewest 19 = .ok (.iconst 0, 1) := by decide +kernel
theorem dX7_findFewest_20 : decode cX7_findFewest 20 = .ok (.goto 5, 3) := by decide +kernel
theorem dX7_findFewest_23 : decode cX7_findFewest 23 = .ok (.ldc 86, 2) := by decide +kernel
theorem dX7_findFewest_25 : decode cX7_findFewest 25 = .ok (.iastore, 1) := by decide +kernel
theorem dX7_findFewest_26 : decode cX7_findFewest 26 = .ok (.iinc 3 1, 3) := by decide +kernel
theorem dX7_findFewest_29 : decode cX7_findFewest 29 = .ok (.goto (-27), 3) := by decide +kernel
theorem dX7_findFewest_32 : decode cX7_findFewest 32 = .ok (.iconst 1, 1) := by decide +kernel
theorem dX7_findFewest_33 : decode cX7_findFewest 33 = .ok (.istore_n 3, 1) := by decide +kernel
theorem dX7_findFewest_34 : decode cX7_findFewest 34 = .ok (.iload_n 3, 1) := by decide +kernel
theorem dX7_findFewest_35 : decode cX7_findFewest 35 = .ok (.ifCond .eq 112, 3) := by decide +kernel
theorem dX7_findFewest_38 : decode cX7_findFewest 38 = .ok (.iconst 0, 1) := by decide +kernel
theorem dX7_findFewest_39 : decode cX7_findFewest 39 = .ok (.istore_n 3, 1) := by decide +kernel
theorem dX7_findFewest_40 : decode cX7_findFewest 40 = .ok (.iconst 0, 1) := by decide +kernel
theorem dX7_findFewest_41 : decode cX7_findFewest 41 = .ok (.istore 4, 2) := by decide +kernel
theorem dX7_findFewest_43 : decode cX7_findFewest 43 = .ok (.iload 4, 2) := by decide +kernel
theorem dX7_findFewest_45 : decode cX7_findFewest 45 = .ok (.aload_n 0, 1) := by decide +kernel
theorem dX7_findFewest_46 : decode cX7_findFewest 46 = .ok (.invokevirtual 102, 3) := by decide +kernel
theorem dX7_findFewest_49 : decode cX7_findFewest 49 = .ok (.if_icmp .gt 95, 3) := by decide +kernel
theorem dX7_findFewest_52 : decode cX7_findFewest 52 = .ok (.iconst 0, 1) := by decide +kernel
theorem dX7_findFewest_53 : decode cX7_findFewest 53 = .ok (.istore 5, 2) := by decide +kernel
theorem dX7_findFewest_55 : decode cX7_findFewest 55 = .ok (.iload 5, 2) := by decide +kernel
theorem dX7_findFewest_57 : decode cX7_findFewest 57 = .ok (.aload_n 0, 1) := by decide +kernel
theorem dX7_findFewest_58 : decode cX7_findFewest 58 = .ok (.invokevirtual 102, 3) := by decide +kernel
theorem dX7_findFewest_61 : decode cX7_findFewest 61 = .ok (.if_icmp .gt 77, 3) := by decide +kernel
theorem dX7_findFewest_64 : decode cX7_findFewest 64 = .ok (.iload 4, 2) := by decide +kernel
theorem dX7_findFewest_66 : decode cX7_findFewest 66 = .ok (.iload_n 2, 1) := by decide +kernel
theorem dX7_findFewest_67 : decode cX7_findFewest 67 = .ok (.if_icmp .eq 71, 3) := by decide +kernel
theorem dX7_findFewest_70 : decode cX7_findFewest 70 = .ok (.aload_n 0, 1) := by decide +kernel
theorem dX7_findFewest_71 : decode cX7_findFewest 71 = .ok (.getfield 31, 3) := by decide +kernel
theorem dX7_findFewest_74 : decode cX7_findFewest 74 = .ok (.aload_n 0, 1) := by decide +kernel
theorem dX7_findFewest_75 : decode cX7_findFewest 75 = .ok (.iload_n 1, 1) := by decide +kernel
theorem dX7_findFewest_76 : decode cX7_findFewest 76 = .ok (.iload 4, 2) := by decide +kernel
theorem dX7_findFewest_78 : decode cX7_findFewest 78 = .ok (.iload 5, 2) := by decide +kernel
theorem dX7_findFewest_80 : decode cX7_findFewest 80 = .ok (.invokevirtual 115, 3) := by decide +kernel
theorem dX7_findFewest_83 : decode cX7_findFewest 83 = .ok (.iaload, 1) := by decide +kernel
theorem dX7_findFewest_84 : decode cX7_findFewest 84 = .ok (.istore 6, 2) := by decide +kernel
theorem dX7_findFewest_86 : decode cX7_findFewest 86 = .ok (.iload 6, 2) := by decide +kernel
theorem dX7_findFewest_88 : decode cX7_findFewest 88 = .ok (.ldc 86, 2) := by decide +kernel
theorem dX7_findFewest_90 : decode cX7_findFewest 90 = .ok (.if_icmp .eq 42, 3) := by decide +kernel
theorem dX7_findFewest_93 : decode cX7_findFewest 93 = .ok (.aload_n 0, 1) := by decide +kernel
theorem dX7_findFewest_94 : decode cX7_findFewest 94 = .ok (.getfield 31, 3) := by decide +kernel
theorem dX7_findFewest_97 : decode cX7_findFewest 97 = .ok (.iload 4, 2) := by decide +kernel
theorem dX7_findFewest_99 : decode cX7_findFewest 99 = .ok (.iaload, 1) := by decide +kernel
theorem dX7_findFewest_100 : decode cX7_findFewest 100 = .ok (.ldc 86, 2) := by decide +kernel
theorem dX7_findFewest_102 : decode cX7_findFewest 102 = .ok (.if_icmp .eq 17, 3) := by decide +kernel
theorem dX7_findFewest_105 : decode cX7_findFewest 105 = .ok (.iload 6, 2) := by decide +kernel
theorem dX7_findFewest_107 : decode cX7_findFewest 107 = .ok (.iconst 1, 1) := by decide +kernel
theorem dX7_findFewest_108 : decode cX7_findFewest 108 = .ok (.iadd, 1) := by decide +kernel
theorem dX7_findFewest_109 : decode cX7_findFewest 109 = .ok (.aload_n 0, 1) := by decide +kernel
theorem dX7_findFewest_110 : decode cX7_findFewest 110 = .ok (.getfield 31, 3) := by decide +kernel
theorem dX7_findFewest_113 : decode cX7_findFewest 113 = .ok (.iload 4, 2) := by decide +kernel
theorem dX7_findFewest_115 : decode cX7_findFewest 115 = .ok (.iaload, 1) := by decide +kernel
theorem dX7_findFewest_116 : decode cX7_findFewest 116 = .ok (.if_icmp .ge 16, 3) := by decide +kernel
theorem dX7_findFewest_119 : decode cX7_findFewest 119 = .ok (.aload_n 0, 1) := by decide +kernel
theorem dX7_findFewest_120 : decode cX7_findFewest 120 = .ok (.getfield 31, 3) := by decide +kernel
theorem dX7_findFewest_123 : decode cX7_findFewest 123 = .ok (.iload 4, 2) := by decide +kernel
theorem dX7_findFewest_125 : decode cX7_findFewest 125 = .ok (.iload 6, 2) := by decide +kernel
theorem dX7_findFewest_127 : decode cX7_findFewest 127 = .ok (.iconst 1, 1) := by decide +kernel
theorem dX7_findFewest_128 : decode cX7_findFewest 128 = .ok (.iadd, 1) := by decide +kernel
theorem dX7_findFewest_129 : decode cX7_findFewest 129 = .ok (.iastore, 1) := by decide +kernel
theorem dX7_findFewest_130 : decode cX7_findFewest 130 = .ok (.iconst 1, 1) := by decide +kernel
theorem dX7_findFewest_131 : decode cX7_findFewest 131 = .ok (.istore_n 3, 1) := by decide +kernel
theorem dX7_findFewest_132 : decode cX7_findFewest 132 = .ok (.iinc 5 1, 3) := by decide +kernel
theorem dX7_findFewest_135 : decode cX7_findFewest 135 = .ok (.goto (-80), 3) := by decide +kernel
theorem dX7_findFewest_138 : decode cX7_findFewest 138 = .ok (.iinc 4 1, 3) := by decide +kernel
theorem dX7_findFewest_141 : decode cX7_findFewest 141 = .ok (.goto (-98), 3) := by decide +kernel
theorem dX7_findFewest_144 : decode cX7_findFewest 144 = .ok (.goto (-110), 3) := by decide +kernel
theorem dX7_findFewest_147 : decode cX7_findFewest 147 = .ok (.return_, 1) := by decide +kernel
set_option maxRecDepth 20000 in
theorem ggX7_least_X7_isHearing : GoodIn wsX7_least wsX7_isHearing := goodIn_r _ [7, 8, 9, 6, 10] (by decide +kernel) (by decide +kernel)
set_option maxRecDepth 20000 in
theorem gX7_least_X7_isHearing : GoodIn wsX7_least (va_wsS RX7 109 yX7_isHearing wsX7_isHearing) := goodIn_app (goodIn_of _ (by decide +kernel)) ggX7_least_X7_isHearing
set_option maxRecDepth 20000 in
theorem ggX7_least_X7_isSet : GoodIn wsX7_least wsX7_isSet := goodIn_r _ [14, 15, 16, 17, 6, 18, 19, 8, 9, 10, 45, 46, 47, 48, 49, 50, 51, 52, 53, 54, 55, 56, 57, 58, 59, 60, 61, 62, 63, 64, 65, 66, 67, 68, 69, 70, 71, 72] (by decide +kernel) (by decide +kernel)
set_option maxRecDepth 20000 in
theorem gX7_least_X7_isSet : GoodIn wsX7_least (wsV RX7 112 RX7 yX7_isSet wsX7_isSet) := goodIn_app (goodIn_of _ (by decide +kernel)) ggX7_least_X7_isSet
set_option maxRecDepth 20000 in
theorem ggX7_least_X7_in : GoodIn wsX7_least wsX7_in := goodIn_r _ [10] (by decide +kernel) (by decide +kernel)
set_option maxRecDepth 20000 in
theorem gX7_least_X7_in : GoodIn wsX7_least (va_wsS RX7 61 yX7_in wsX7_in) := goodIn_app (goodIn_of _ (by decide +kernel)) ggX7_least_X7_in
set_option maxRecDepth 20000 in
theorem ggX7_least_X7_reach : GoodIn wsX7_least wsX7_reach := goodIn_r _ [23, 24, 25, 26, 6, 27, 19, 28, 45, 46, 47, 48, 49, 50, 51, 52, 53, 54, 55, 56, 57, 58, 59, 60, 61, 62, 63, 64, 65, 66, 67, 68, 69, 70, 71, 72] (by decide +kernel) (by decide +kernel)
set_option maxRecDepth 20000 in
theorem gX7_least_X7_reach : GoodIn wsX7_least (wsV RX7 99 RX7 yX7_reach wsX7_reach) := goodIn_app (goodIn_of _ (by decide +kernel)) ggX7_least_X7_reach
set_option maxRecDepth 20000 in
theorem ggX7_least_X7_findFewest : GoodIn wsX7_least wsX7_findFewest := goodIn_r _ [32, 3, 33, 15, 16, 17, 6, 18, 19, 34, 35, 36, 37, 38, 39, 40, 41, 28, 42, 43, 44, 45, 46, 47, 48, 49, 50, 51, 52, 53, 54, 55, 56, 57, 58, 59, 60, 61, 62, 63, 64, 65, 66, 67, 68, 69, 70, 71, 72] (by decide +kernel) (by decide +kernel)
set_option maxRecDepth 20000 in
theorem gX7_least_X7_findFewest : GoodIn wsX7_least (wsV RX7 196 RX7 yX7_findFewest wsX7_findFewest) := goodIn_app (goodIn_of _ (by decide +kernel)) ggX7_least_X7_findFewest
set_option maxRecDepth 20000 in
theorem ggX7_least_X7_spread : GoodIn wsX7_least wsX7_spread := goodIn_r _ [37, 38, 39, 40, 6, 41, 19, 28, 42, 43, 44, 45, 46, 47, 48, 49, 50, 51, 52, 53, 54, 55, 56, 57, 58, 59, 60, 61, 62, 63, 64, 65, 66, 67, 68, 69, 70, 71, 72] (by decide +kernel) (by decide +kernel)
set_option maxRecDepth 20000 in
theorem gX7_least_X7_spread : GoodIn wsX7_least (wsV RX7 115 RX7 yX7_spread wsX7_spread) := goodIn_app (goodIn_of _ (by decide +kernel)) ggX7_least_X7_spread
theorem dX7_least_0 : decode cX7_least 0 = .ok (.aload_n 0, 1) := by decide +kernel
theorem dX7_least_1 : decode cX7_least 1 = .ok (.iconst 0, 1) := by decide +kernel
theorem dX7_least_2 : decode cX7_least 2 = .ok (.putfield 51, 3) := by decide +kernel
theorem dX7_least_5 : decode cX7_least 5 = .ok (.iload_n 1, 1) := by decide +kernel
theorem dX7_least_6 : decode cX7_least 6 = .ok (.invokestatic 109, 3) := by decide +kernel
theorem dX7_least_9 : decode cX7_least 9 = .ok (.ifCond .eq 25, 3) := by decide +kernel
theorem dX7_least_12 : decode cX7_least 12 = .ok (.aload_n 0, 1) := by decide +kernel
theorem dX7_least_13 : decode cX7_least 13 = .ok (.iload_n 2, 1) := by decide +kernel
theorem dX7_least_14 : decode cX7_least 14 = .ok (.invokevirtual 112, 3) := by decide +kernel
theorem dX7_least_17 : decode cX7_least 17 = .ok (.ifCond .eq 17, 3) := by decide +kernel
theorem dX7_least_20 : decode cX7_least 20 = .ok (.iload_n 2, 1) := by decide +kernel
theorem dX7_least_21 : decode cX7_least 21 = .ok (.ifCond .eq 13, 3) := by decide +kernel
theorem dX7_least_24 : decode cX7_least 24 = .ok (.iload_n 3, 1) := by decide +kernel
theorem dX7_least_25 : decode cX7_least 25 = .ok (.i2l, 1) := by decide +kernel
theorem dX7_least_26 : decode cX7_least 26 = .ok (.lconst 0, 1) := by decide +kernel
theorem dX7_least_27 : decode cX7_least 27 = .ok (.lconst 1, 1) := by decide +kernel
theorem dX7_least_28 : decode cX7_least 28 = .ok (.invokestatic 61, 3) := by decide +kernel
theorem dX7_least_31 : decode cX7_least 31 = .ok (.ifCond .ne 6, 3) := by decide +kernel
theorem dX7_least_34 : decode cX7_least 34 = .ok (.ldc 71, 2) := by decide +kernel
theorem dX7_least_36 : decode cX7_least 36 = .ok (.ireturn, 1) := by decide +kernel
theorem dX7_least_37 : decode cX7_least 37 = .ok (.aload_n 0, 1) := by decide +kernel
theorem dX7_least_38 : decode cX7_least 38 = .ok (.iload_n 1, 1) := by decide +kernel
theorem dX7_least_39 : decode cX7_least 39 = .ok (.aload_n 0, 1) := by decide +kernel
theorem dX7_least_40 : decode cX7_least 40 = .ok (.iload_n 2, 1) := by decide +kernel
theorem dX7_least_41 : decode cX7_least 41 = .ok (.invokevirtual 99, 3) := by decide +kernel
theorem dX7_least_44 : decode cX7_least 44 = .ok (.invokevirtual 196, 3) := by decide +kernel
theorem dX7_least_47 : decode cX7_least 47 = .ok (.iload_n 3, 1) := by decide +kernel
theorem dX7_least_48 : decode cX7_least 48 = .ok (.ifCond .eq 12, 3) := by decide +kernel
theorem dX7_least_51 : decode cX7_least 51 = .ok (.aload_n 0, 1) := by decide +kernel
theorem dX7_least_52 : decode cX7_least 52 = .ok (.getfield 31, 3) := by decide +kernel
theorem dX7_least_55 : decode cX7_least 55 = .ok (.iload_n 2, 1) := by decide +kernel
theorem dX7_least_56 : decode cX7_least 56 = .ok (.iaload, 1) := by decide +kernel
theorem dX7_least_57 : decode cX7_least 57 = .ok (.ifCond .ne 18, 3) := by decide +kernel
theorem dX7_least_60 : decode cX7_least 60 = .ok (.iload_n 3, 1) := by decide +kernel
theorem dX7_least_61 : decode cX7_least 61 = .ok (.ifCond .ne 12, 3) := by decide +kernel
theorem dX7_least_64 : decode cX7_least 64 = .ok (.aload_n 0, 1) := by decide +kernel
theorem dX7_least_65 : decode cX7_least 65 = .ok (.getfield 31, 3) := by decide +kernel
theorem dX7_least_68 : decode cX7_least 68 = .ok (.iload_n 2, 1) := by decide +kernel
theorem dX7_least_69 : decode cX7_least 69 = .ok (.iaload, 1) := by decide +kernel
theorem dX7_least_70 : decode cX7_least 70 = .ok (.goto 4, 3) := by decide +kernel
theorem dX7_least_73 : decode cX7_least 73 = .ok (.iconst 0, 1) := by decide +kernel
theorem dX7_least_74 : decode cX7_least 74 = .ok (.ireturn, 1) := by decide +kernel
theorem dX7_least_75 : decode cX7_least 75 = .ok (.iconst 0, 1) := by decide +kernel
theorem dX7_least_76 : decode cX7_least 76 = .ok (.istore 4, 2) := by decide +kernel
theorem dX7_least_78 : decode cX7_least 78 = .ok (.aload_n 0, 1) := by decide +kernel
theorem dX7_least_79 : decode cX7_least 79 = .ok (.getfield 31, 3) := by decide +kernel
theorem dX7_least_82 : decode cX7_least 82 = .ok (.aload_n 0, 1) := by decide +kernel
theorem dX7_least_83 : decode cX7_least 83 = .ok (.iload_n 1, 1) := by decide +kernel
theorem dX7_least_84 : decode cX7_least 84 = .ok (.iload_n 2, 1) := by decide +kernel
theorem dX7_least_85 : decode cX7_least 85 = .ok (.iload 4, 2) := by decide +kernel
theorem dX7_least_87 : decode cX7_least 87 = .ok (.invokevirtual 115, 3) := by decide +kernel
theorem dX7_least_90 : decode cX7_least 90 = .ok (.iaload, 1) := by decide +kernel
theorem dX7_least_91 : decode cX7_least 91 = .ok (.aload_n 0, 1) := by decide +kernel
theorem dX7_least_92 : decode cX7_least 92 = .ok (.getfield 31, 3) := by decide +kernel
theorem dX7_least_95 : decode cX7_least 95 = .ok (.iload_n 2, 1) := by decide +kernel
theorem dX7_least_96 : decode cX7_least 96 = .ok (.iaload, 1) := by decide +kernel
theorem dX7_least_97 : decode cX7_least 97 = .ok (.iconst 1, 1) := by decide +kernel
theorem dX7_least_98 : decode cX7_least 98 = .ok (.isub, 1) := by decide +kernel
theorem dX7_least_99 : decode cX7_least 99 = .ok (.if_icmp .eq 9, 3) := by decide +kernel
theorem dX7_least_102 : decode cX7_least 102 = .ok (.iinc 4 1, 3) := by decide +kernel
theorem dX7_least_105 : decode cX7_least 105 = .ok (.goto (-27), 3) := by decide +kernel
theorem dX7_least_108 : decode cX7_least 108 = .ok (.iload 4, 2) := by decide +kernel
theorem dX7_least_110 : decode cX7_least 110 = .ok (.ireturn, 1) := by decide +kernel
set_option maxRecDepth 20000 in
theorem ggX7_jammed_X7_isHearing : GoodIn wsX7_jammed wsX7_isHearing := goodIn_r _ [12, 13, 14, 11, 15] (by decide +kernel) (by decide +kernel)
set_option maxRecDepth 20000 in
theorem gX7_jammed_X7_isHearing : GoodIn wsX7_jammed (va_wsS RX7 109 yX7_isHearing wsX7_isHearing) := goodIn_app (goodIn_of _ (by decide +kernel)) ggX7_jammed_X7_isHearing
set_option maxRecDepth 20000 in
theorem ggX7_jammed_X7_isPost : GoodIn wsX7_jammed wsX7_isPost := goodIn_r _ [19, 20, 13, 14, 11, 15, 50, 51, 52, 53, 54, 55, 56, 57, 58, 59, 60, 61, 62, 63, 64, 65, 66, 67, 68, 69, 70, 71, 72, 73, 74, 75, 76, 77] (by decide +kernel) (by decide +kernel)
set_option maxRecDepth 20000 in
theorem gX7_jammed_X7_isPost : GoodIn wsX7_jammed (wsV RX7 80 RX7 yX7_isPost wsX7_isPost) := goodIn_app (goodIn_of _ (by decide +kernel)) ggX7_jammed_X7_isPost
set_option maxRecDepth 20000 in
theorem ggX7_jammed_X7_in : GoodIn wsX7_jammed wsX7_in := goodIn_r _ [15] (by decide +kernel) (by decide +kernel)
set_option maxRecDepth 20000 in
theorem gX7_jammed_X7_in : GoodIn wsX7_jammed (va_wsS RX7 61 yX7_in wsX7_in) := goodIn_app (goodIn_of _ (by decide +kernel)) ggX7_jammed_X7_in
set_option maxRecDepth 20000 in
theorem ggX7_jammed_X7_reach : GoodIn wsX7_jammed wsX7_reach := goodIn_r _ [24, 25, 26, 27, 11, 28, 20, 29, 50, 51, 52, 53, 54, 55, 56, 57, 58, 59, 60, 61, 62, 63, 64, 65, 66, 67, 68, 69, 70, 71, 72, 73, 74, 75, 76, 77] (by decide +kernel) (by decide +kernel)
set_option maxRecDepth 20000 in
theorem gX7_jammed_X7_reach : GoodIn wsX7_jammed (wsV RX7 99 RX7 yX7_reach wsX7_reach) := goodIn_app (goodIn_of _ (by decide +kernel)) ggX7_jammed_X7_reach
set_option maxRecDepth 20000 in
theorem ggX7_jammed_X7_soundsIn : GoodIn wsX7_jammed wsX7_soundsIn := goodIn_r _ [33, 34, 4, 35, 36, 37, 11, 38, 20, 50, 51, 52, 53, 54, 55, 56, 57, 58, 59, 60, 61, 62, 63, 64, 65, 66, 67, 68, 69, 70, 71, 72, 73, 74, 75, 76, 77] (by decide +kernel) (by decide +kernel)
set_option maxRecDepth 20000 in
theorem gX7_jammed_X7_soundsIn : GoodIn wsX7_jammed (wsV RX7 190 RX7 yX7_soundsIn wsX7_soundsIn) := goodIn_app (goodIn_of _ (by decide +kernel)) ggX7_jammed_X7_soundsIn
set_option maxRecDepth 20000 in
theorem ggX7_jammed_X7_spread : GoodIn wsX7_jammed wsX7_spread := goodIn_r _ [42, 43, 44, 45, 11, 46, 20, 29, 47, 48, 49, 50, 51, 52, 53, 54, 55, 56, 57, 58, 59, 60, 61, 62, 63, 64, 65, 66, 67, 68, 69, 70, 71, 72, 73, 74, 75, 76, 77] (by decide +kernel) (by decide +kernel)
set_option maxRecDepth 20000 in
theorem gX7_jammed_X7_spread : GoodIn wsX7_jammed (wsV RX7 115 RX7 yX7_spread wsX7_spread) := goodIn_app (goodIn_of _ (by decide +kernel)) ggX7_jammed_X7_spread
theorem dX7_jammed_0 : decode cX7_jammed 0 = .ok (.aload_n 0, 1) := by decide +kernel
theorem dX7_jammed_1 : decode cX7_jammed 1 = .ok (.iconst 0, 1) := by decide +kernel
theorem dX7_jammed_2 : decode cX7_jammed 2 = .ok (.putfield 51, 3) := by decide +kernel
theorem dX7_jammed_5 : decode cX7_jammed 5 = .ok (.iload_n 1, 1) := by decide +kernel
theorem dX7_jammed_6 : decode cX7_jammed 6 = .ok (.invokestatic 109, 3) := by decide +kernel
theorem dX7_jammed_9 : decode cX7_jammed 9 = .ok (.ifCond .eq 23, 3) := by decide +kernel
theorem dX7_jammed_12 : decode cX7_jammed 12 = .ok (.aload_n 0, 1) := by decide +kernel
theorem dX7_jammed_13 : decode cX7_jammed 13 = .ok (.iload_n 2, 1) := by decide +kernel
theorem dX7_jammed_14 : decode cX7_jammed 14 = .ok (.invokevirtual 80, 3) := by decide +kernel
theorem dX7_jammed_17 : decode cX7_jammed 17 = .ok (.ifCond .eq 15, 3) := by decide +kernel
theorem dX7_jammed_20 : decode cX7_jammed 20 = .ok (.iload_n 3, 1) := by decide +kernel
theorem dX7_jammed_21 : decode cX7_jammed 21 = .ok (.i2l, 1) := by decide +kernel
theorem dX7_jammed_22 : decode cX7_jammed 22 = .ok (.lconst 0, 1) := by decide +kernel
theorem dX7_jammed_23 : decode cX7_jammed 23 = .ok (.ldc2_w 200, 3) := by decide +kernel
theorem dX7_jammed_26 : decode cX7_jammed 26 = .ok (.invokestatic 61, 3) := by decide +kernel
theorem dX7_jammed_29 : decode cX7_jammed 29 = .ok (.ifCond .ne 6, 3) := by decide +kernel
theorem dX7_jammed_32 : decode cX7_jammed 32 = .ok (.ldc 71, 2) := by decide +kernel
theorem dX7_jammed_34 : decode cX7_jammed 34 = .ok (.ireturn, 1) := by decide +kernel
theorem dX7_jammed_35 : decode cX7_jammed 35 = .ok (.aload_n 0, 1) := by decide +kernel
theorem dX7_jammed_36 : decode cX7_jammed 36 = .ok (.getfield 187, 3) := by decide +kernel
theorem dX7_jammed_39 : decode cX7_jammed 39 = .ok (.ifCond .ne 6, 3) := by decide +kernel
theorem dX7_jammed_42 : decode cX7_jammed 42 = .ok (.ldc 195, 2) := by decide +kernel
theorem dX7_jammed_44 : decode cX7_jammed 44 = .ok (.ireturn, 1) := by decide +kernel
theorem dX7_jammed_45 : decode cX7_jammed 45 = .ok (.aload_n 0, 1) := by decide +kernel
theorem dX7_jammed_46 : decode cX7_jammed 46 = .ok (.iconst 1, 1) := by decide +kernel
theorem dX7_jammed_47 : decode cX7_jammed 47 = .ok (.iload_n 2, 1) := by decide +kernel
theorem dX7_jammed_48 : decode cX7_jammed 48 = .ok (.ishl, 1) := by decide +kernel
theorem dX7_jammed_49 : decode cX7_jammed 49 = .ok (.invokevirtual 99, 3) := by decide +kernel
theorem dX7_jammed_52 : decode cX7_jammed 52 = .ok (.istore 4, 2) := by decide +kernel
theorem dX7_jammed_54 : decode cX7_jammed 54 = .ok (.iconst 0, 1) := by decide +kernel
theorem dX7_jammed_55 : decode cX7_jammed 55 = .ok (.istore 5, 2) := by decide +kernel
theorem dX7_jammed_57 : decode cX7_jammed 57 = .ok (.iload 5, 2) := by decide +kernel
theorem dX7_jammed_59 : decode cX7_jammed 59 = .ok (.sipush 1536, 3) := by decide +kernel
theorem dX7_jammed_62 : decode cX7_jammed 62 = .ok (.if_icmp .ge 29, 3) := by decide +kernel
theorem dX7_jammed_65 : decode cX7_jammed 65 = .ok (.aload_n 0, 1) := by decide +kernel
theorem dX7_jammed_66 : decode cX7_jammed 66 = .ok (.getfield 34, 3) := by decide +kernel
theorem dX7_jammed_69 : decode cX7_jammed 69 = .ok (.iload 5, 2) := by decide +kernel
theorem dX7_jammed_71 : decode cX7_jammed 71 = .ok (.iload 5, 2) := by decide +kernel
theorem dX7_jammed_73 : decode cX7_jammed 73 = .ok (.iconst 1, 1) := by decide +kernel
theorem dX7_jammed_74 : decode cX7_jammed 74 = .ok (.iload_n 2, 1) := by decide +kernel
theorem dX7_jammed_75 : decode cX7_jammed 75 = .ok (.ishl, 1) := by decide +kernel
theorem dX7_jammed_76 : decode cX7_jammed 76 = .ok (.if_icmp .ne 7, 3) := by decide +kernel
theorem dX7_jammed_79 : decode cX7_jammed 79 = .ok (.iconst 1, 1) := by decide +kernel
theorem dX7_jammed_80 : decode cX7_jammed 80 = .ok (.goto 4, 3) := by decide +kernel
theorem dX7_jammed_83 : decode cX7_jammed 83 = .ok (.iconst 0, 1) := by decide +kernel
theorem dX7_jammed_84 : decode cX7_jammed 84 = .ok (.bastore, 1) := by decide +kernel
theorem dX7_jammed_85 : decode cX7_jammed 85 = .ok (.iinc 5 1, 3) := by decide +kernel
theorem dX7_jammed_88 : decode cX7_jammed 88 = .ok (.goto (-31), 3) := by decide +kernel
theorem dX7_jammed_91 : decode cX7_jammed 91 = .ok (.iconst 0, 1) := by decide +kernel
theorem dX7_jammed_92 : decode cX7_jammed 92 = .ok (.istore 5, 2) := by decide +kernel
theorem dX7_jammed_94 : decode cX7_jammed 94 = .ok (.iload 5, 2) := by decide +kernel
theorem dX7_jammed_96 : decode cX7_jammed 96 = .ok (.bipush 60, 2) := by decide +kernel
theorem dX7_jammed_98 : decode cX7_jammed 98 = .ok (.if_icmp .gt 192, 3) := by decide +kernel
theorem dX7_jammed_101 : decode cX7_jammed 101 = .ok (.iconst 1, 1) := by decide +kernel
theorem dX7_jammed_102 : decode cX7_jammed 102 = .ok (.istore 6, 2) := by decide +kernel
theorem dX7_jammed_104 : decode cX7_jammed 104 = .ok (.iconst 0, 1) := by decide +kernel
theorem dX7_jammed_105 : decode cX7_jammed 105 = .ok (.istore 7, 2) := by decide +kernel
theorem dX7_jammed_107 : decode cX7_jammed 107 = .ok (.iload 7, 2) := by decide +kernel
theorem dX7_jammed_109 : decode cX7_jammed 109 = .ok (.sipush 1536, 3) := by decide +kernel
theorem dX7_jammed_112 : decode cX7_jammed 112 = .ok (.if_icmp .ge 50, 3) := by decide +kernel
theorem dX7_jammed_115 : decode cX7_jammed 115 = .ok (.iload 6, 2) := by decide +kernel
theorem dX7_jammed_117 : decode cX7_jammed 117 = .ok (.ifCond .eq 28, 3) := by decide +kernel
theorem dX7_jammed_120 : decode cX7_jammed 120 = .ok (.aload_n 0, 1) := by decide +kernel
theorem dX7_jammed_121 : decode cX7_jammed 121 = .ok (.getfield 34, 3) := by decide +kernel
theorem dX7_jammed_124 : decode cX7_jammed 124 = .ok (.iload 7, 2) := by decide +kernel
theorem dX7_jammed_126 : decode cX7_jammed 126 = .ok (.baload, 1) := by decide +kernel
theorem dX7_jammed_127 : decode cX7_jammed 127 = .ok (.ifCond .eq 14, 3) := by decide +kernel
theorem dX7_jammed_130 : decode cX7_jammed 130 = .ok (.iload 7, 2) := by decide +kernel
theorem dX7_jammed_132 : decode cX7_jammed 132 = .ok (.sipush 256, 3) := by decide +kernel
theorem dX7_jammed_135 : decode cX7_jammed 135 = .ok (.irem, 1) := by decide +kernel
theorem dX7_jammed_136 : decode cX7_jammed 136 = .ok (.iload 4, 2) := by decide +kernel
theorem dX7_jammed_138 : decode cX7_jammed 138 = .ok (.if_icmp .ne 7, 3) := by decide +kernel
theorem dX7_jammed_141 : decode cX7_jammed 141 = .ok (.iconst 1, 1) := by decide +kernel
theorem dX7_jammed_142 : decode cX7_jammed 142 = .ok (.goto 4, 3) := by decide +kernel
theorem dX7_jammed_145 : decode cX7_jammed 145 = .ok (.iconst 0, 1) := by decide +kernel
theorem dX7_jammed_146 : decode cX7_jammed 146 = .ok (.istore 6, 2) := by decide +kernel
theorem dX7_jammed_148 : decode cX7_jammed 148 = .ok (.aload_n 0, 1) := by decide +kernel
theorem dX7_jammed_149 : decode cX7_jammed 149 = .ok (.getfield 38, 3) := by decide +kernel
theorem dX7_jammed_152 : decode cX7_jammed 152 = .ok (.iload 7, 2) := by decide +kernel
theorem dX7_jammed_154 : decode cX7_jammed 154 = .ok (.iconst 0, 1) := by decide +kernel
theorem dX7_jammed_155 : decode cX7_jammed 155 = .ok (.bastore, 1) := by decide +kernel
theorem dX7_jammed_156 : decode cX7_jammed 156 = .ok (.iinc 7 1, 3) := by decide +kernel
theorem dX7_jammed_159 : decode cX7_jammed 159 = .ok (.goto (-52), 3) := by decide +kernel
theorem dX7_jammed_162 : decode cX7_jammed 162 = .ok (.iload 6, 2) := by decide +kernel
theorem dX7_jammed_164 : decode cX7_jammed 164 = .ok (.ifCond .eq 6, 3) := by decide +kernel
theorem dX7_jammed_167 : decode cX7_jammed 167 = .ok (.iload 5, 2) := by decide +kernel
theorem dX7_jammed_169 : decode cX7_jammed 169 = .ok (.ireturn, 1) := by decide +kernel
theorem dX7_jammed_170 : decode cX7_jammed 170 = .ok (.iconst 0, 1) := by decide +kernel
theorem dX7_jammed_171 : decode cX7_jammed 171 = .ok (.istore 7, 2) := by decide +kernel
theorem dX7_jammed_173 : decode cX7_jammed 173 = .ok (.iload 7, 2) := by decide +kernel
theorem dX7_jammed_175 : decode cX7_jammed 175 = .ok (.sipush 1536, 3) := by decide +kernel
theorem dX7_jammed_178 : decode cX7_jammed 178 = .ok (.if_icmp .ge 75, 3) := by decide +kernel
theorem dX7_jammed_181 : decode cX7_jammed 181 = .ok (.aload_n 0, 1) := by decide +kernel
theorem dX7_jammed_182 : decode cX7_jammed 182 = .ok (.getfield 34, 3) := by decide +kernel
theorem dX7_jammed_185 : decode cX7_jammed 185 = .ok (.iload 7, 2) := by decide +kernel
theorem dX7_jammed_187 : decode cX7_jammed 187 = .ok (.baload, 1) := by decide +kernel
theorem dX7_jammed_188 : decode cX7_jammed 188 = .ok (.ifCond .eq 59, 3) := by decide +kernel
theorem dX7_jammed_191 : decode cX7_jammed 191 = .ok (.aload_n 0, 1) := by decide +kernel
theorem dX7_jammed_192 : decode cX7_jammed 192 = .ok (.getfield 38, 3) := by decide +kernel
theorem dX7_jammed_195 : decode cX7_jammed 195 = .ok (.sipush 256, 3) := by decide +kernel
theorem dX7_jammed_198 : decode cX7_jammed 198 = .ok (.iload 7, 2) := by decide +kernel
theorem dX7_jammed_200 : decode cX7_jammed 200 = .ok (.sipush 256, 3) := by decide +kernel
theorem dX7_jammed_203 : decode cX7_jammed 203 = .ok (.idiv, 1) := by decide +kernel
theorem dX7_jammed_204 : decode cX7_jammed 204 = .ok (.imul, 1) := by decide +kernel
theorem dX7_jammed_205 : decode cX7_jammed 205 = .ok (.aload_n 0, 1) := by decide +kernel
theorem dX7_jammed_206 : decode cX7_jammed 206 = .ok (.iload_n 1, 1) := by decide +kernel
theorem dX7_jammed_207 : decode cX7_jammed 207 = .ok (.iload 7, 2) := by decide +kernel
theorem dX7_jammed_209 : decode cX7_jammed 209 = .ok (.sipush 256, 3) := by decide +kernel
theorem dX7_jammed_212 : decode cX7_jammed 212 = .ok (.irem, 1) := by decide +kernel
theorem dX7_jammed_213 : decode cX7_jammed 213 = .ok (.aload_n 0, 1) := by decide +kernel
theorem dX7_jammed_214 : decode cX7_jammed 214 = .ok (.iload 5, 2) := by decide +kernel
theorem dX7_jammed_216 : decode cX7_jammed 216 = .ok (.invokevirtual 190, 3) := by decide +kernel
theorem dX7_jammed_219 : decode cX7_jammed 219 = .ok (.invokevirtual 115, 3) := by decide +kernel
theorem dX7_jammed_222 : decode cX7_jammed 222 = .ok (.iadd, 1) := by decide +kernel
theorem dX7_jammed_223 : decode cX7_jammed 223 = .ok (.iconst 1, 1) := by decide +kernel
theorem dX7_jammed_224 : decode cX7_jammed 224 = .ok (.bastore, 1) := by decide +kernel
theorem dX7_jammed_225 : decode cX7_jammed 225 = .ok (.iload 7, 2) := by decide +kernel
theorem dX7_jammed_227 : decode cX7_jammed 227 = .ok (.sipush 256, 3) := by decide +kernel
theorem dX7_jammed_230 : decode cX7_jammed 230 = .ok (.idiv, 1) := by decide +kernel
theorem dX7_jammed_231 : decode cX7_jammed 231 = .ok (.iload_n 3, 1) := by decide +kernel
theorem dX7_jammed_232 : decode cX7_jammed 232 = .ok (.if_icmp .ge 15, 3) := by decide +kernel
theorem dX7_jammed_235 : decode cX7_jammed 235 = .ok (.aload_n 0, 1) := by decide +kernel
theorem dX7_jammed_236 : decode cX7_jammed 236 = .ok (.getfield 38, 3) := by decide +kernel
theorem dX7_jammed_239 : decode cX7_jammed 239 = .ok (.iload 7, 2) := by decide +kernel
theorem dX7_jammed_241 : decode cX7_jammed 241 = .ok (.sipush 256, 3) := by decide +kernel
theorem dX7_jammed_244 : decode cX7_jammed 244 = .ok (.iadd, 1) := by decide +kernel
theorem dX7_jammed_245 : decode cX7_jammed 245 = .ok (.iconst 1, 1) := by decide +kernel
theorem dX7_jammed_246 : decode cX7_jammed 246 = .ok (.bastore, 1) := by decide +kernel
theorem dX7_jammed_247 : decode cX7_jammed 247 = .ok (.iinc 7 1, 3) := by decide +kernel
theorem dX7_jammed_250 : decode cX7_jammed 250 = .ok (.goto (-77), 3) := by decide +kernel
theorem dX7_jammed_253 : decode cX7_jammed 253 = .ok (.iconst 0, 1) := by decide +kernel
theorem dX7_jammed_254 : decode cX7_jammed 254 = .ok (.istore 7, 2) := by decide +kernel
theorem dX7_jammed_256 : decode cX7_jammed 256 = .ok (.iload 7, 2) := by decide +kernel
theorem dX7_jammed_258 : decode cX7_jammed 258 = .ok (.sipush 1536, 3) := by decide +kernel
theorem dX7_jammed_261 : decode cX7_jammed 261 = .ok (.if_icmp .ge 23, 3) := by decide +kernel
theorem dX7_jammed_264 : decode cX7_jammed 264 = .ok (.aload_n 0, 1) := by decide +kernel
theorem dX7_jammed_265 : decode cX7_jammed 265 = .ok (.getfield 34, 3) := by decide +kernel
theorem dX7_jammed_268 : decode cX7_jammed 268 = .ok (.iload 7, 2) := by decide +kernel
theorem dX7_jammed_270 : decode cX7_jammed 270 = .ok (.aload_n 0, 1) := by decide +kernel
theorem dX7_jammed_271 : decode cX7_jammed 271 = .ok (.getfield 38, 3) := by decide +kernel
theorem dX7_jammed_274 : decode cX7_jammed 274 = .ok (.iload 7, 2) := by decide +kernel
theorem dX7_jammed_276 : decode cX7_jammed 276 = .ok (.baload, 1) := by decide +kernel
theorem dX7_jammed_277 : decode cX7_jammed 277 = .ok (.bastore, 1) := by decide +kernel
theorem dX7_jammed_278 : decode cX7_jammed 278 = .ok (.iinc 7 1, 3) := by decide +kernel
theorem dX7_jammed_281 : decode cX7_jammed 281 = .ok (.goto (-25), 3) := by decide +kernel
theorem dX7_jammed_284 : decode cX7_jammed 284 = .ok (.iinc 5 1, 3) := by decide +kernel
theorem dX7_jammed_287 : decode cX7_jammed 287 = .ok (.goto (-193), 3) := by decide +kernel
theorem dX7_jammed_290 : decode cX7_jammed 290 = .ok (.ldc 86, 2) := by decide +kernel
theorem dX7_jammed_292 : decode cX7_jammed 292 = .ok (.ireturn, 1) := by decide +kernel
set_option maxRecDepth 20000 in
theorem ggX7_draws_X7_isHearing : GoodIn wsX7_draws wsX7_isHearing := goodIn_r _ [9, 10, 11, 8, 12] (by decide +kernel) (by decide +kernel)
set_option maxRecDepth 20000 in
theorem gX7_draws_X7_isHearing : GoodIn wsX7_draws (va_wsS RX7 109 yX7_isHearing wsX7_isHearing) := goodIn_app (goodIn_of _ (by decide +kernel)) ggX7_draws_X7_isHearing
set_option maxRecDepth 20000 in
theorem ggX7_draws_X7_isPost : GoodIn wsX7_draws wsX7_isPost := goodIn_r _ [16, 17, 10, 11, 8, 12, 42, 43, 44, 45, 46, 47, 48, 49, 50, 51, 52, 53, 54, 55, 56, 57, 58, 59, 60, 61, 62, 63, 64, 65, 66, 67, 68, 69] (by decide +kernel) (by decide +kernel)
set_option maxRecDepth 20000 in
theorem gX7_draws_X7_isPost : GoodIn wsX7_draws (wsV RX7 80 RX7 yX7_isPost wsX7_isPost) := goodIn_app (goodIn_of _ (by decide +kernel)) ggX7_draws_X7_isPost
set_option maxRecDepth 20000 in
theorem ggX7_draws_X7_in : GoodIn wsX7_draws wsX7_in := goodIn_r _ [12] (by decide +kernel) (by decide +kernel)
set_option maxRecDepth 20000 in
theorem gX7_draws_X7_in : GoodIn wsX7_draws (va_wsS RX7 61 yX7_in wsX7_in) := goodIn_app (goodIn_of _ (by decide +kernel)) ggX7_draws_X7_in
set_option maxRecDepth 20000 in
theorem ggX7_draws_X7_all : GoodIn wsX7_draws wsX7_all := goodIn_r _ [21, 17, 42, 43, 44, 45, 46, 47, 48, 49, 50, 51, 52, 53, 54, 55, 56, 57, 58, 59, 60, 61, 62, 63, 64, 65, 66, 67, 68, 69] (by decide +kernel) (by decide +kernel)
set_option maxRecDepth 20000 in
theorem gX7_draws_X7_all : GoodIn wsX7_draws (wsV RX7 102 RX7 yX7_all wsX7_all) := goodIn_app (goodIn_of _ (by decide +kernel)) ggX7_draws_X7_all
set_option maxRecDepth 20000 in
theorem ggX7_draws_X7_spread : GoodIn wsX7_draws wsX7_spread := goodIn_r _ [25, 26, 27, 28, 8, 29, 17, 30, 31, 32, 33, 42, 43, 44, 45, 46, 47, 48, 49, 50, 51, 52, 53, 54, 55, 56, 57, 58, 59, 60, 61, 62, 63, 64, 65, 66, 67, 68, 69] (by decide +kernel) (by decide +kernel)
set_option maxRecDepth 20000 in
theorem gX7_draws_X7_spread : GoodIn wsX7_draws (wsV RX7 115 RX7 yX7_spread wsX7_spread) := goodIn_app (goodIn_of _ (by decide +kernel)) ggX7_draws_X7_spread
set_option maxRecDepth 20000 in
theorem ggX7_draws_X7_reach : GoodIn wsX7_draws wsX7_reach := goodIn_r _ [37, 38, 39, 40, 8, 41, 17, 30, 42, 43, 44, 45, 46, 47, 48, 49, 50, 51, 52, 53, 54, 55, 56, 57, 58, 59, 60, 61, 62, 63, 64, 65, 66, 67, 68, 69] (by decide +kernel) (by decide +kernel)
set_option maxRecDepth 20000 in
theorem gX7_draws_X7_reach : GoodIn wsX7_draws (wsV RX7 99 RX7 yX7_reach wsX7_reach) := goodIn_app (goodIn_of _ (by decide +kernel)) ggX7_draws_X7_reach
theorem dX7_draws_0 : decode cX7_draws 0 = .ok (.aload_n 0, 1) := by decide +kernel
theorem dX7_draws_1 : decode cX7_draws 1 = .ok (.iconst 0, 1) := by decide +kernel
theorem dX7_draws_2 : decode cX7_draws 2 = .ok (.putfield 51, 3) := by decide +kernel
theorem dX7_draws_5 : decode cX7_draws 5 = .ok (.iload_n 1, 1) := by decide +kernel
theorem dX7_draws_6 : decode cX7_draws 6 = .ok (.invokestatic 109, 3) := by decide +kernel
theorem dX7_draws_9 : decode cX7_draws 9 = .ok (.ifCond .eq 23, 3) := by decide +kernel
theorem dX7_draws_12 : decode cX7_draws 12 = .ok (.aload_n 0, 1) := by decide +kernel
theorem dX7_draws_13 : decode cX7_draws 13 = .ok (.iload_n 2, 1) := by decide +kernel
theorem dX7_draws_14 : decode cX7_draws 14 = .ok (.invokevirtual 80, 3) := by decide +kernel
theorem dX7_draws_17 : decode cX7_draws 17 = .ok (.ifCond .eq 15, 3) := by decide +kernel
theorem dX7_draws_20 : decode cX7_draws 20 = .ok (.iload_n 3, 1) := by decide +kernel
theorem dX7_draws_21 : decode cX7_draws 21 = .ok (.i2l, 1) := by decide +kernel
theorem dX7_draws_22 : decode cX7_draws 22 = .ok (.lconst 0, 1) := by decide +kernel
theorem dX7_draws_23 : decode cX7_draws 23 = .ok (.ldc2_w 59, 3) := by decide +kernel
theorem dX7_draws_26 : decode cX7_draws 26 = .ok (.invokestatic 61, 3) := by decide +kernel
theorem dX7_draws_29 : decode cX7_draws 29 = .ok (.ifCond .ne 7, 3) := by decide +kernel
theorem dX7_draws_32 : decode cX7_draws 32 = .ok (.ldc2_w 202, 3) := by decide +kernel
theorem dX7_draws_35 : decode cX7_draws 35 = .ok (.lreturn, 1) := by decide +kernel
theorem dX7_draws_36 : decode cX7_draws 36 = .ok (.iconst 0, 1) := by decide +kernel
theorem dX7_draws_37 : decode cX7_draws 37 = .ok (.istore 4, 2) := by decide +kernel
theorem dX7_draws_39 : decode cX7_draws 39 = .ok (.iload 4, 2) := by decide +kernel
theorem dX7_draws_41 : decode cX7_draws 41 = .ok (.sipush 256, 3) := by decide +kernel
theorem dX7_draws_44 : decode cX7_draws 44 = .ok (.if_icmp .ge 29, 3) := by decide +kernel
theorem dX7_draws_47 : decode cX7_draws 47 = .ok (.aload_n 0, 1) := by decide +kernel
theorem dX7_draws_48 : decode cX7_draws 48 = .ok (.getfield 41, 3) := by decide +kernel
theorem dX7_draws_51 : decode cX7_draws 51 = .ok (.iload 4, 2) := by decide +kernel
theorem dX7_draws_53 : decode cX7_draws 53 = .ok (.iload 4, 2) := by decide +kernel
theorem dX7_draws_55 : decode cX7_draws 55 = .ok (.iconst 1, 1) := by decide +kernel
theorem dX7_draws_56 : decode cX7_draws 56 = .ok (.iload_n 2, 1) := by decide +kernel
theorem dX7_draws_57 : decode cX7_draws 57 = .ok (.ishl, 1) := by decide +kernel
theorem dX7_draws_58 : decode cX7_draws 58 = .ok (.if_icmp .ne 7, 3) := by decide +kernel
theorem dX7_draws_61 : decode cX7_draws 61 = .ok (.lconst 1, 1) := by decide +kernel
theorem dX7_draws_62 : decode cX7_draws 62 = .ok (.goto 4, 3) := by decide +kernel
theorem dX7_draws_65 : decode cX7_draws 65 = .ok (.lconst 0, 1) := by decide +kernel
theorem dX7_draws_66 : decode cX7_draws 66 = .ok (.lastore, 1) := by decide +kernel
theorem dX7_draws_67 : decode cX7_draws 67 = .ok (.iinc 4 1, 3) := by decide +kernel
theorem dX7_draws_70 : decode cX7_draws 70 = .ok (.goto (-31), 3) := by decide +kernel
theorem dX7_draws_73 : decode cX7_draws 73 = .ok (.iconst 0, 1) := by decide +kernel
theorem dX7_draws_74 : decode cX7_draws 74 = .ok (.istore 4, 2) := by decide +kernel
theorem dX7_draws_76 : decode cX7_draws 76 = .ok (.iload 4, 2) := by decide +kernel
theorem dX7_draws_78 : decode cX7_draws 78 = .ok (.iload_n 3, 1) := by decide +kernel
theorem dX7_draws_79 : decode cX7_draws 79 = .ok (.if_icmp .ge 137, 3) := by decide +kernel
theorem dX7_draws_82 : decode cX7_draws 82 = .ok (.iconst 0, 1) := by decide +kernel
theorem dX7_draws_83 : decode cX7_draws 83 = .ok (.istore 5, 2) := by decide +kernel
theorem dX7_draws_85 : decode cX7_draws 85 = .ok (.iload 5, 2) := by decide +kernel
theorem dX7_draws_87 : decode cX7_draws 87 = .ok (.sipush 256, 3) := by decide +kernel
theorem dX7_draws_90 : decode cX7_draws 90 = .ok (.if_icmp .ge 17, 3) := by decide +kernel
theorem dX7_draws_93 : decode cX7_draws 93 = .ok (.aload_n 0, 1) := by decide +kernel
theorem dX7_draws_94 : decode cX7_draws 94 = .ok (.getfield 45, 3) := by decide +kernel
theorem dX7_draws_97 : decode cX7_draws 97 = .ok (.iload 5, 2) := by decide +kernel
theorem dX7_draws_99 : decode cX7_draws 99 = .ok (.lconst 0, 1) := by decide +kernel
theorem dX7_draws_100 : decode cX7_draws 100 = .ok (.lastore, 1) := by decide +kernel
theorem dX7_draws_101 : decode cX7_draws 101 = .ok (.iinc 5 1, 3) := by decide +kernel
theorem dX7_draws_104 : decode cX7_draws 104 = .ok (.goto (-19), 3) := by decide +kernel
theorem dX7_draws_107 : decode cX7_draws 107 = .ok (.iconst 0, 1) := by decide +kernel
theorem dX7_draws_108 : decode cX7_draws 108 = .ok (.istore 5, 2) := by decide +kernel
theorem dX7_draws_110 : decode cX7_draws 110 = .ok (.iload 5, 2) := by decide +kernel
theorem dX7_draws_112 : decode cX7_draws 112 = .ok (.aload_n 0, 1) := by decide +kernel
theorem dX7_draws_113 : decode cX7_draws 113 = .ok (.invokevirtual 102, 3) := by decide +kernel
theorem dX7_draws_116 : decode cX7_draws 116 = .ok (.if_icmp .gt 63, 3) := by decide +kernel
theorem dX7_draws_119 : decode cX7_draws 119 = .ok (.iconst 0, 1) := by decide +kernel
theorem dX7_draws_120 : decode cX7_draws 120 = .ok (.istore 6, 2) := by decide +kernel
theorem dX7_draws_122 : decode cX7_draws 122 = .ok (.iload 6, 2) := by decide +kernel
theorem dX7_draws_124 : decode cX7_draws 124 = .ok (.aload_n 0, 1) := by decide +kernel
theorem dX7_draws_125 : decode cX7_draws 125 = .ok (.invokevirtual 102, 3) := by decide +kernel
theorem dX7_draws_128 : decode cX7_draws 128 = .ok (.if_icmp .gt 45, 3) := by decide +kernel
theorem dX7_draws_131 : decode cX7_draws 131 = .ok (.aload_n 0, 1) := by decide +kernel
theorem dX7_draws_132 : decode cX7_draws 132 = .ok (.getfield 41, 3) := by decide +kernel
theorem dX7_draws_135 : decode cX7_draws 135 = .ok (.iload 5, 2) := by decide +kernel
theorem dX7_draws_137 : decode cX7_draws 137 = .ok (.laload, 1) := by decide +kernel
theorem dX7_draws_138 : decode cX7_draws 138 = .ok (.lconst 0, 1) := by decide +kernel
theorem dX7_draws_139 : decode cX7_draws 139 = .ok (.lcmp, 1) := by decide +kernel
theorem dX7_draws_140 : decode cX7_draws 140 = .ok (.ifCond .le 33, 3) := by decide +kernel
theorem dX7_draws_143 : decode cX7_draws 143 = .ok (.aload_n 0, 1) := by decide +kernel
theorem dX7_draws_144 : decode cX7_draws 144 = .ok (.getfield 45, 3) := by decide +kernel
theorem dX7_draws_147 : decode cX7_draws 147 = .ok (.aload_n 0, 1) := by decide +kernel
theorem dX7_draws_148 : decode cX7_draws 148 = .ok (.iload_n 1, 1) := by decide +kernel
theorem dX7_draws_149 : decode cX7_draws 149 = .ok (.iload 5, 2) := by decide +kernel
theorem dX7_draws_151 : decode cX7_draws 151 = .ok (.iload 6, 2) := by decide +kernel
theorem dX7_draws_153 : decode cX7_draws 153 = .ok (.invokevirtual 115, 3) := by decide +kernel
theorem dX7_draws_156 : decode cX7_draws 156 = .ok (.dup2, 1) := by decide +kernel
theorem dX7_draws_157 : decode cX7_draws 157 = .ok (.laload, 1) := by decide +kernel
theorem dX7_draws_158 : decode cX7_draws 158 = .ok (.aload_n 0, 1) := by decide +kernel
theorem dX7_draws_159 : decode cX7_draws 159 = .ok (.getfield 41, 3) := by decide +kernel
theorem dX7_draws_162 : decode cX7_draws 162 = .ok (.iload 5, 2) := by decide +kernel
theorem dX7_draws_164 : decode cX7_draws 164 = .ok (.laload, 1) := by decide +kernel
theorem dX7_draws_165 : decode cX7_draws 165 = .ok (.ladd, 1) := by decide +kernel
theorem dX7_draws_166 : decode cX7_draws 166 = .ok (.lastore, 1) := by decide +kernel
theorem dX7_draws_167 : decode cX7_draws 167 = .ok (.iinc 6 1, 3) := by decide +kernel
theorem dX7_draws_170 : decode cX7_draws 170 = .ok (.goto (-48), 3) := by decide +kernel
theorem dX7_draws_173 : decode cX7_draws 173 = .ok (.iinc 5 1, 3) := by decide +kernel
theorem dX7_draws_176 : decode cX7_draws 176 = .ok (.goto (-66), 3) := by decide +kernel
theorem dX7_draws_179 : decode cX7_draws 179 = .ok (.iconst 0, 1) := by decide +kernel
theorem dX7_draws_180 : decode cX7_draws 180 = .ok (.istore 5, 2) := by decide +kernel
theorem dX7_draws_182 : decode cX7_draws 182 = .ok (.iload 5, 2) := by decide +kernel
theorem dX7_draws_184 : decode cX7_draws 184 = .ok (.sipush 256, 3) := by decide +kernel
theorem dX7_draws_187 : decode cX7_draws 187 = .ok (.if_icmp .ge 23, 3) := by decide +kernel
theorem dX7_draws_190 : decode cX7_draws 190 = .ok (.aload_n 0, 1) := by decide +kernel
theorem dX7_draws_191 : decode cX7_draws 191 = .ok (.getfield 41, 3) := by decide +kernel
theorem dX7_draws_194 : decode cX7_draws 194 = .ok (.iload 5, 2) := by decide +kernel
theorem dX7_draws_196 : decode cX7_draws 196 = .ok (.aload_n 0, 1) := by decide +kernel
theorem dX7_draws_197 : decode cX7_draws 197 = .ok (.getfield 45, 3) := by decide +kernel
theorem dX7_draws_200 : decode cX7_draws 200 = .ok (.iload 5, 2) := by decide +kernel
theorem dX7_draws_202 : decode cX7_draws 202 = .ok (.laload, 1) := by decide +kernel
theorem dX7_draws_203 : decode cX7_draws 203 = .ok (.lastore, 1) := by decide +kernel
theorem dX7_draws_204 : decode cX7_draws 204 = .ok (.iinc 5 1, 3) := by decide +kernel
theorem dX7_draws_207 : decode cX7_draws 207 = .ok (.goto (-25), 3) := by decide +kernel
theorem dX7_draws_210 : decode cX7_draws 210 = .ok (.iinc 4 1, 3) := by decide +kernel
theorem dX7_draws_213 : decode cX7_draws 213 = .ok (.goto (-137), 3) := by decide +kernel
theorem dX7_draws_216 : decode cX7_draws 216 = .ok (.aload_n 0, 1) := by decide +kernel
theorem dX7_draws_217 : decode cX7_draws 217 = .ok (.getfield 41, 3) := by decide +kernel
theorem dX7_draws_220 : decode cX7_draws 220 = .ok (.aload_n 0, 1) := by decide +kernel
theorem dX7_draws_221 : decode cX7_draws 221 = .ok (.iconst 1, 1) := by decide +kernel
theorem dX7_draws_222 : decode cX7_draws 222 = .ok (.iload_n 2, 1) := by decide +kernel
theorem dX7_draws_223 : decode cX7_draws 223 = .ok (.ishl, 1) := by decide +kernel
theorem dX7_draws_224 : decode cX7_draws 224 = .ok (.invokevirtual 99, 3) := by decide +kernel
theorem dX7_draws_227 : decode cX7_draws 227 = .ok (.laload, 1) := by decide +kernel
theorem dX7_draws_228 : decode cX7_draws 228 = .ok (.lreturn, 1) := by decide +kernel
set_option maxRecDepth 20000 in
theorem ggX7_picks_X7_isSheet : GoodIn wsX7_picks wsX7_isSheet := goodIn_r _ [13, 14, 15, 16, 12, 17] (by decide +kernel) (by decide +kernel)
set_option maxRecDepth 20000 in
theorem gX7_picks_X7_isSheet : GoodIn wsX7_picks (va_wsS RX7 65 yX7_isSheet wsX7_isSheet) := goodIn_app (goodIn_of _ (by decide +kernel)) ggX7_picks_X7_isSheet
set_option maxRecDepth 20000 in
theorem ggX7_picks_X7_in : GoodIn wsX7_picks wsX7_in := goodIn_r _ [17] (by decide +kernel) (by decide +kernel)
set_option maxRecDepth 20000 in
theorem gX7_picks_X7_in : GoodIn wsX7_picks (va_wsS RX7 61 yX7_in wsX7_in) := goodIn_app (goodIn_of _ (by decide +kernel)) ggX7_picks_X7_in
set_option maxRecDepth 20000 in
theorem ggX7_picks_X7_found : GoodIn wsX7_picks wsX7_found := goodIn_r _ [21, 5, 22, 31, 32, 33, 34, 35, 36, 37, 38, 39, 40, 41, 42, 43, 44, 45, 46, 47, 48, 49, 50, 51, 52, 53, 54, 55, 56, 57, 58] (by decide +kernel) (by decide +kernel)
set_option maxRecDepth 20000 in
theorem gX7_picks_X7_found : GoodIn wsX7_picks (wsV RX7 72 RX7 yX7_found wsX7_found) := goodIn_app (goodIn_of _ (by decide +kernel)) ggX7_picks_X7_found
set_option maxRecDepth 20000 in
theorem ggX7_picks_X7_all : GoodIn wsX7_picks wsX7_all := goodIn_r _ [26, 27, 31, 32, 33, 34, 35, 36, 37, 38, 39, 40, 41, 42, 43, 44, 45, 46, 47, 48, 49, 50, 51, 52, 53, 54, 55, 56, 57, 58] (by decide +kernel) (by decide +kernel)
set_option maxRecDepth 20000 in
theorem gX7_picks_X7_all : GoodIn wsX7_picks (wsV RX7 102 RX7 yX7_all wsX7_all) := goodIn_app (goodIn_of _ (by decide +kernel)) ggX7_picks_X7_all
set_option maxRecDepth 20000 in
theorem ggX7_picks_X7_size : GoodIn wsX7_picks wsX7_size := goodIn_r _ [30] (by decide +kernel) (by decide +kernel)
set_option maxRecDepth 20000 in
theorem gX7_picks_X7_size : GoodIn wsX7_picks (va_wsS RX7 93 yX7_size wsX7_size) := goodIn_app (goodIn_of _ (by decide +kernel)) ggX7_picks_X7_size
theorem dX7_picks_0 : decode cX7_picks 0 = .ok (.aload_n 0, 1) := by decide +kernel
theorem dX7_picks_1 : decode cX7_picks 1 = .ok (.iconst 0, 1) := by decide +kernel
theorem dX7_picks_2 : decode cX7_picks 2 = .ok (.putfield 51, 3) := by decide +kernel
theorem dX7_picks_5 : decode cX7_picks 5 = .ok (.iload_n 1, 1) := by decide +kernel
theorem dX7_picks_6 : decode cX7_picks 6 = .ok (.invokestatic 65, 3) := by decide +kernel
theorem dX7_picks_9 : decode cX7_picks 9 = .ok (.ifCond .eq 39, 3) := by decide +kernel
theorem dX7_picks_12 : decode cX7_picks 12 = .ok (.iload_n 3, 1) := by decide +kernel
theorem dX7_picks_13 : decode cX7_picks 13 = .ok (.i2l, 1) := by decide +kernel
theorem dX7_picks_14 : decode cX7_picks 14 = .ok (.lconst 1, 1) := by decide +kernel
theorem dX7_picks_15 : decode cX7_picks 15 = .ok (.ldc2_w 204, 3) := by decide +kernel
theorem dX7_picks_18 : decode cX7_picks 18 = .ok (.invokestatic 61, 3) := by decide +kernel
theorem dX7_picks_21 : decode cX7_picks 21 = .ok (.ifCond .eq 27, 3) := by decide +kernel
theorem dX7_picks_24 : decode cX7_picks 24 = .ok (.iload 4, 2) := by decide +kernel
theorem dX7_picks_26 : decode cX7_picks 26 = .ok (.i2l, 1) := by decide +kernel
theorem dX7_picks_27 : decode cX7_picks 27 = .ok (.lconst 1, 1) := by decide +kernel
theorem dX7_picks_28 : decode cX7_picks 28 = .ok (.ldc2_w 206, 3) := by decide +kernel
theorem dX7_picks_31 : decode cX7_picks 31 = .ok (.invokestatic 61, 3) := by decide +kernel
theorem dX7_picks_34 : decode cX7_picks 34 = .ok (.ifCond .eq 14, 3) := by decide +kernel
theorem dX7_picks_37 : decode cX7_picks 37 = .ok (.iload 5, 2) := by decide +kernel
theorem dX7_picks_39 : decode cX7_picks 39 = .ok (.i2l, 1) := by decide +kernel
theorem dX7_picks_40 : decode cX7_picks 40 = .ok (.lconst 0, 1) := by decide +kernel
theorem dX7_picks_41 : decode cX7_picks 41 = .ok (.lconst 1, 1) := by decide +kernel
theorem dX7_picks_42 : decode cX7_picks 42 = .ok (.invokestatic 61, 3) := by decide +kernel
theorem dX7_picks_45 : decode cX7_picks 45 = .ok (.ifCond .ne 6, 3) := by decide +kernel
theorem dX7_picks_48 : decode cX7_picks 48 = .ok (.ldc 71, 2) := by decide +kernel
theorem dX7_picks_50 : decode cX7_picks 50 = .ok (.ireturn, 1) := by decide +kernel
theorem dX7_picks_51 : decode cX7_picks 51 = .ok (.aload_n 0, 1) := by decide +kernel
theorem dX7_picks_52 : decode cX7_picks 52 = .ok (.iconst 0, 1) := by decide +kernel
theorem dX7_picks_53 : decode cX7_picks 53 = .ok (.putfield 55, 3) := by decide +kernel
theorem dX7_picks_56 : decode cX7_picks 56 = .ok (.aload_n 0, 1) := by decide +kernel
theorem dX7_picks_57 : decode cX7_picks 57 = .ok (.getfield 7, 3) := by decide +kernel
theorem dX7_picks_60 : decode cX7_picks 60 = .ok (.iload_n 1, 1) := by decide +kernel
theorem dX7_picks_61 : decode cX7_picks 61 = .ok (.iaload, 1) := by decide +kernel
theorem dX7_picks_62 : decode cX7_picks 62 = .ok (.ifCond .ge 9, 3) := by decide +kernel
theorem dX7_picks_65 : decode cX7_picks 65 = .ok (.aload_n 0, 1) := by decide +kernel
theorem dX7_picks_66 : decode cX7_picks 66 = .ok (.iconst 1, 1) := by decide +kernel
theorem dX7_picks_67 : decode cX7_picks 67 = .ok (.invokevirtual 72, 3) := by decide +kernel
theorem dX7_picks_70 : decode cX7_picks 70 = .ok (.ireturn, 1) := by decide +kernel
theorem dX7_picks_71 : decode cX7_picks 71 = .ok (.iload_n 2, 1) := by decide +kernel
theorem dX7_picks_72 : decode cX7_picks 72 = .ok (.ifCond .lt 19, 3) := by decide +kernel
theorem dX7_picks_75 : decode cX7_picks 75 = .ok (.iload_n 2, 1) := by decide +kernel
theorem dX7_picks_76 : decode cX7_picks 76 = .ok (.i2l, 1) := by decide +kernel
theorem dX7_picks_77 : decode cX7_picks 77 = .ok (.iload_n 3, 1) := by decide +kernel
theorem dX7_picks_78 : decode cX7_picks 78 = .ok (.i2l, 1) := by decide +kernel
theorem dX7_picks_79 : decode cX7_picks 79 = .ok (.ladd, 1) := by decide +kernel
theorem dX7_picks_80 : decode cX7_picks 80 = .ok (.aload_n 0, 1) := by decide +kernel
theorem dX7_picks_81 : decode cX7_picks 81 = .ok (.getfield 13, 3) := by decide +kernel
theorem dX7_picks_84 : decode cX7_picks 84 = .ok (.iload_n 1, 1) := by decide +kernel
theorem dX7_picks_85 : decode cX7_picks 85 = .ok (.iaload, 1) := by decide +kernel
theorem dX7_picks_86 : decode cX7_picks 86 = .ok (.i2l, 1) := by decide +kernel
theorem dX7_picks_87 : decode cX7_picks 87 = .ok (.lcmp, 1) := by decide +kernel
theorem dX7_picks_88 : decode cX7_picks 88 = .ok (.ifCond .le 9, 3) := by decide +kernel
theorem dX7_picks_91 : decode cX7_picks 91 = .ok (.aload_n 0, 1) := by decide +kernel
theorem dX7_picks_92 : decode cX7_picks 92 = .ok (.iconst 2, 1) := by decide +kernel
theorem dX7_picks_93 : decode cX7_picks 93 = .ok (.invokevirtual 72, 3) := by decide +kernel
theorem dX7_picks_96 : decode cX7_picks 96 = .ok (.ireturn, 1) := by decide +kernel
theorem dX7_picks_97 : decode cX7_picks 97 = .ok (.iconst 1, 1) := by decide +kernel
theorem dX7_picks_98 : decode cX7_picks 98 = .ok (.istore 6, 2) := by decide +kernel
theorem dX7_picks_100 : decode cX7_picks 100 = .ok (.iload 6, 2) := by decide +kernel
theorem dX7_picks_102 : decode cX7_picks 102 = .ok (.aload_n 0, 1) := by decide +kernel
theorem dX7_picks_103 : decode cX7_picks 103 = .ok (.invokevirtual 102, 3) := by decide +kernel
theorem dX7_picks_106 : decode cX7_picks 106 = .ok (.if_icmp .gt 90, 3) := by decide +kernel
theorem dX7_picks_109 : decode cX7_picks 109 = .ok (.iload 6, 2) := by decide +kernel
theorem dX7_picks_111 : decode cX7_picks 111 = .ok (.invokestatic 93, 3) := by decide +kernel
theorem dX7_picks_114 : decode cX7_picks 114 = .ok (.iload 4, 2) := by decide +kernel
theorem dX7_picks_116 : decode cX7_picks 116 = .ok (.if_icmp .gt 74, 3) := by decide +kernel
theorem dX7_picks_119 : decode cX7_picks 119 = .ok (.iconst 0, 1) := by decide +kernel
theorem dX7_picks_120 : decode cX7_picks 120 = .ok (.istore 7, 2) := by decide +kernel
theorem dX7_picks_122 : decode cX7_picks 122 = .ok (.iconst 0, 1) := by decide +kernel
theorem dX7_picks_123 : decode cX7_picks 123 = .ok (.istore 8, 2) := by decide +kernel
theorem dX7_picks_125 : decode cX7_picks 125 = .ok (.iload 8, 2) := by decide +kernel
theorem dX7_picks_127 : decode cX7_picks 127 = .ok (.iload_n 3, 1) := by decide +kernel
theorem dX7_picks_128 : decode cX7_picks 128 = .ok (.if_icmp .ge 45, 3) := by decide +kernel
theorem dX7_picks_131 : decode cX7_picks 131 = .ok (.iload 7, 2) := by decide +kernel
theorem dX7_picks_133 : decode cX7_picks 133 = .ok (.ifCond .ne 27, 3) := by decide +kernel
theorem dX7_picks_136 : decode cX7_picks 136 = .ok (.aload_n 0, 1) := by decide +kernel
theorem dX7_picks_137 : decode cX7_picks 137 = .ok (.getfield 16, 3) := by decide +kernel
theorem dX7_picks_140 : decode cX7_picks 140 = .ok (.bipush 40, 2) := by decide +kernel
theorem dX7_picks_142 : decode cX7_picks 142 = .ok (.iload_n 1, 1) := by decide +kernel
theorem dX7_picks_143 : decode cX7_picks 143 = .ok (.imul, 1) := by decide +kernel
theorem dX7_picks_144 : decode cX7_picks 144 = .ok (.iload_n 2, 1) := by decide +kernel
theorem dX7_picks_145 : decode cX7_picks 145 = .ok (.iadd, 1) := by decide +kernel
theorem dX7_picks_146 : decode cX7_picks 146 = .ok (.iload 8, 2) := by decide +kernel
theorem dX7_picks_148 : decode cX7_picks 148 = .ok (.iadd, 1) := by decide +kernel
theorem dX7_picks_149 : decode cX7_picks 149 = .ok (.iaload, 1) := by decide +kernel
theorem dX7_picks_150 : decode cX7_picks 150 = .ok (.iload 6, 2) := by decide +kernel
theorem dX7_picks_152 : decode cX7_picks 152 = .ok (.iand, 1) := by decide +kernel
theorem dX7_picks_153 : decode cX7_picks 153 = .ok (.invokestatic 93, 3) := by decide +kernel
theorem dX7_picks_156 : decode cX7_picks 156 = .ok (.iconst 1, 1) := by decide +kernel
theorem dX7_picks_157 : decode cX7_picks 157 = .ok (.if_icmp .ne 7, 3) := by decide +kernel
theorem dX7_picks_160 : decode cX7_picks 160 = .ok (.iconst 1, 1) := by decide +kernel
theorem dX7_picks_161 : decode cX7_picks 161 = .ok (.goto 4, 3) := by decide +kernel
theorem dX7_picks_164 : decode cX7_picks 164 = .ok (.iconst 0, 1) := by decide +kernel
theorem dX7_picks_165 : decode cX7_picks 165 = .ok (.istore 7, 2) := by decide +kernel
theorem dX7_picks_167 : decode cX7_picks 167 = .ok (.iinc 8 1, 3) := by decide +kernel
theorem dX7_picks_170 : decode cX7_picks 170 = .ok (.goto (-45), 3) := by decide +kernel
theorem dX7_picks_173 : decode cX7_picks 173 = .ok (.iload 7, 2) := by decide +kernel
theorem dX7_picks_175 : decode cX7_picks 175 = .ok (.ifCond .ne 15, 3) := by decide +kernel
theorem dX7_picks_178 : decode cX7_picks 178 = .ok (.iload 5, 2) := by decide +kernel
theorem dX7_picks_180 : decode cX7_picks 180 = .ok (.ifCond .ne 7, 3) := by decide +kernel
theorem dX7_picks_183 : decode cX7_picks 183 = .ok (.iconst 0, 1) := by decide +kernel
theorem dX7_picks_184 : decode cX7_picks 184 = .ok (.goto 5, 3) := by decide +kernel
theorem dX7_picks_187 : decode cX7_picks 187 = .ok (.iload 6, 2) := by decide +kernel
theorem dX7_picks_189 : decode cX7_picks 189 = .ok (.ireturn, 1) := by decide +kernel
theorem dX7_picks_190 : decode cX7_picks 190 = .ok (.iinc 6 1, 3) := by decide +kernel
theorem dX7_picks_193 : decode cX7_picks 193 = .ok (.goto (-93), 3) := by decide +kernel
theorem dX7_picks_196 : decode cX7_picks 196 = .ok (.iload 5, 2) := by decide +kernel
theorem dX7_picks_198 : decode cX7_picks 198 = .ok (.ifCond .ne 7, 3) := by decide +kernel
theorem dX7_picks_201 : decode cX7_picks 201 = .ok (.iconst 1, 1) := by decide +kernel
theorem dX7_picks_202 : decode cX7_picks 202 = .ok (.goto 5, 3) := by decide +kernel
theorem dX7_picks_205 : decode cX7_picks 205 = .ok (.ldc 86, 2) := by decide +kernel
theorem dX7_picks_207 : decode cX7_picks 207 = .ok (.ireturn, 1) := by decide +kernel
set_option maxRecDepth 20000 in
theorem ggX7_kindOf_X7_size : GoodIn wsX7_kindOf wsX7_size := goodIn_r _ [6] (by decide +kernel) (by decide +kernel)
set_option maxRecDepth 20000 in
theorem gX7_kindOf_X7_size : GoodIn wsX7_kindOf (va_wsS RX7 93 yX7_size wsX7_size) := goodIn_app (goodIn_of _ (by decide +kernel)) ggX7_kindOf_X7_size
theorem dX7_kindOf_0 : decode cX7_kindOf 0 = .ok (.aload_n 0, 1) := by decide +kernel
theorem dX7_kindOf_1 : decode cX7_kindOf 1 = .ok (.getfield 19, 3) := by decide +kernel
theorem dX7_kindOf_4 : decode cX7_kindOf 4 = .ok (.iload_n 1, 1) := by decide +kernel
theorem dX7_kindOf_5 : decode cX7_kindOf 5 = .ok (.iaload, 1) := by decide +kernel
theorem dX7_kindOf_6 : decode cX7_kindOf 6 = .ok (.invokestatic 93, 3) := by decide +kernel
theorem dX7_kindOf_9 : decode cX7_kindOf 9 = .ok (.istore_n 2, 1) := by decide +kernel
theorem dX7_kindOf_10 : decode cX7_kindOf 10 = .ok (.iconst 0, 1) := by decide +kernel
theorem dX7_kindOf_11 : decode cX7_kindOf 11 = .ok (.istore_n 3, 1) := by decide +kernel
theorem dX7_kindOf_12 : decode cX7_kindOf 12 = .ok (.iconst 0, 1) := by decide +kernel
theorem dX7_kindOf_13 : decode cX7_kindOf 13 = .ok (.istore 4, 2) := by decide +kernel
theorem dX7_kindOf_15 : decode cX7_kindOf 15 = .ok (.iload 4, 2) := by decide +kernel
theorem dX7_kindOf_17 : decode cX7_kindOf 17 = .ok (.aload_n 0, 1) := by decide +kernel
theorem dX7_kindOf_18 : decode cX7_kindOf 18 = .ok (.getfield 76, 3) := by decide +kernel
theorem dX7_kindOf_21 : decode cX7_kindOf 21 = .ok (.if_icmp .ge 38, 3) := by decide +kernel
theorem dX7_kindOf_24 : decode cX7_kindOf 24 = .ok (.aload_n 0, 1) := by decide +kernel
theorem dX7_kindOf_25 : decode cX7_kindOf 25 = .ok (.getfield 19, 3) := by decide +kernel
theorem dX7_kindOf_28 : decode cX7_kindOf 28 = .ok (.iload 4, 2) := by decide +kernel
theorem dX7_kindOf_30 : decode cX7_kindOf 30 = .ok (.iaload, 1) := by decide +kernel
theorem dX7_kindOf_31 : decode cX7_kindOf 31 = .ok (.invokestatic 93, 3) := by decide +kernel
theorem dX7_kindOf_34 : decode cX7_kindOf 34 = .ok (.iload_n 3, 1) := by decide +kernel
theorem dX7_kindOf_35 : decode cX7_kindOf 35 = .ok (.if_icmp .le 16, 3) := by decide +kernel
theorem dX7_kindOf_38 : decode cX7_kindOf 38 = .ok (.aload_n 0, 1) := by decide +kernel
theorem dX7_kindOf_39 : decode cX7_kindOf 39 = .ok (.getfield 19, 3) := by decide +kernel
theorem dX7_kindOf_42 : decode cX7_kindOf 42 = .ok (.iload 4, 2) := by decide +kernel
theorem dX7_kindOf_44 : decode cX7_kindOf 44 = .ok (.iaload, 1) := by decide +kernel
theorem dX7_kindOf_45 : decode cX7_kindOf 45 = .ok (.invokestatic 93, 3) := by decide +kernel
theorem dX7_kindOf_48 : decode cX7_kindOf 48 = .ok (.goto 4, 3) := by decide +kernel
theorem dX7_kindOf_51 : decode cX7_kindOf 51 = .ok (.iload_n 3, 1) := by decide +kernel
theorem dX7_kindOf_52 : decode cX7_kindOf 52 = .ok (.istore_n 3, 1) := by decide +kernel
theorem dX7_kindOf_53 : decode cX7_kindOf 53 = .ok (.iinc 4 1, 3) := by decide +kernel
theorem dX7_kindOf_56 : decode cX7_kindOf 56 = .ok (.goto (-41), 3) := by decide +kernel
theorem dX7_kindOf_59 : decode cX7_kindOf 59 = .ok (.iload_n 2, 1) := by decide +kernel
theorem dX7_kindOf_60 : decode cX7_kindOf 60 = .ok (.ifCond .ne 7, 3) := by decide +kernel
theorem dX7_kindOf_63 : decode cX7_kindOf 63 = .ok (.iconst 4, 1) := by decide +kernel
theorem dX7_kindOf_64 : decode cX7_kindOf 64 = .ok (.goto 22, 3) := by decide +kernel
theorem dX7_kindOf_67 : decode cX7_kindOf 67 = .ok (.iload_n 2, 1) := by decide +kernel
theorem dX7_kindOf_68 : decode cX7_kindOf 68 = .ok (.iconst 1, 1) := by decide +kernel
theorem dX7_kindOf_69 : decode cX7_kindOf 69 = .ok (.if_icmp .ne 7, 3) := by decide +kernel
theorem dX7_kindOf_72 : decode cX7_kindOf 72 = .ok (.iconst 2, 1) := by decide +kernel
theorem dX7_kindOf_73 : decode cX7_kindOf 73 = .ok (.goto 13, 3) := by decide +kernel
theorem dX7_kindOf_76 : decode cX7_kindOf 76 = .ok (.iload_n 2, 1) := by decide +kernel
theorem dX7_kindOf_77 : decode cX7_kindOf 77 = .ok (.iload_n 3, 1) := by decide +kernel
theorem dX7_kindOf_78 : decode cX7_kindOf 78 = .ok (.if_icmp .ne 7, 3) := by decide +kernel
theorem dX7_kindOf_81 : decode cX7_kindOf 81 = .ok (.iconst 3, 1) := by decide +kernel
theorem dX7_kindOf_82 : decode cX7_kindOf 82 = .ok (.goto 4, 3) := by decide +kernel
theorem dX7_kindOf_85 : decode cX7_kindOf 85 = .ok (.iconst 1, 1) := by decide +kernel
theorem dX7_kindOf_86 : decode cX7_kindOf 86 = .ok (.ireturn, 1) := by decide +kernel
theorem dX7_isOf_0 : decode cX7_isOf 0 = .ok (.iload_n 1, 1) := by decide +kernel
theorem dX7_isOf_1 : decode cX7_isOf 1 = .ok (.ifCond .eq 23, 3) := by decide +kernel
theorem dX7_isOf_4 : decode cX7_isOf 4 = .ok (.iload_n 0, 1) := by decide +kernel
theorem dX7_isOf_5 : decode cX7_isOf 5 = .ok (.iload_n 1, 1) := by decide +kernel
theorem dX7_isOf_6 : decode cX7_isOf 6 = .ok (.if_icmp .eq 18, 3) := by decide +kernel
theorem dX7_isOf_9 : decode cX7_isOf 9 = .ok (.iload_n 1, 1) := by decide +kernel
theorem dX7_isOf_10 : decode cX7_isOf 10 = .ok (.iconst 1, 1) := by decide +kernel
theorem dX7_isOf_11 : decode cX7_isOf 11 = .ok (.if_icmp .ne 17, 3) := by decide +kernel
theorem dX7_isOf_14 : decode cX7_isOf 14 = .ok (.iload_n 0, 1) := by decide +kernel
theorem dX7_isOf_15 : decode cX7_isOf 15 = .ok (.iconst 2, 1) := by decide +kernel
theorem dX7_isOf_16 : decode cX7_isOf 16 = .ok (.if_icmp .eq 8, 3) := by decide +kernel
theorem dX7_isOf_19 : decode cX7_isOf 19 = .ok (.iload_n 0, 1) := by decide +kernel
theorem dX7_isOf_20 : decode cX7_isOf 20 = .ok (.iconst 3, 1) := by decide +kernel
theorem dX7_isOf_21 : decode cX7_isOf 21 = .ok (.if_icmp .ne 7, 3) := by decide +kernel
theorem dX7_isOf_24 : decode cX7_isOf 24 = .ok (.iconst 1, 1) := by decide +kernel
theorem dX7_isOf_25 : decode cX7_isOf 25 = .ok (.goto 4, 3) := by decide +kernel
theorem dX7_isOf_28 : decode cX7_isOf 28 = .ok (.iconst 0, 1) := by decide +kernel
theorem dX7_isOf_29 : decode cX7_isOf 29 = .ok (.ireturn, 1) := by decide +kernel
set_option maxRecDepth 20000 in
theorem ggX7_kind_X7_isPost : GoodIn wsX7_kind wsX7_isPost := goodIn_r _ [7, 8, 9, 10, 6, 11, 20, 21, 22, 23, 24, 25, 26, 27, 28, 29, 30, 31, 32, 33, 34, 35, 36, 37, 38, 39, 40, 41, 42, 43, 44, 45, 46, 47] (by decide +kernel) (by decide +kernel)
set_option maxRecDepth 20000 in
theorem gX7_kind_X7_isPost : GoodIn wsX7_kind (wsV RX7 80 RX7 yX7_isPost wsX7_isPost) := goodIn_app (goodIn_of _ (by decide +kernel)) ggX7_kind_X7_isPost
set_option maxRecDepth 20000 in
theorem ggX7_kind_X7_kindOf : GoodIn wsX7_kind wsX7_kindOf := goodIn_r _ [15, 16, 8, 17, 18, 6, 19, 20, 21, 22, 23, 24, 25, 26, 27, 28, 29, 30, 31, 32, 33, 34, 35, 36, 37, 38, 39, 40, 41, 42, 43, 44, 45, 46, 47] (by decide +kernel) (by decide +kernel)
set_option maxRecDepth 20000 in
theorem gX7_kind_X7_kindOf : GoodIn wsX7_kind (wsV RX7 208 RX7 yX7_kindOf wsX7_kindOf) := goodIn_app (goodIn_of _ (by decide +kernel)) ggX7_kind_X7_kindOf
theorem dX7_kind_0 : decode cX7_kind 0 = .ok (.aload_n 0, 1) := by decide +kernel
theorem dX7_kind_1 : decode cX7_kind 1 = .ok (.iconst 0, 1) := by decide +kernel
theorem dX7_kind_2 : decode cX7_kind 2 = .ok (.putfield 51, 3) := by decide +kernel
theorem dX7_kind_5 : decode cX7_kind 5 = .ok (.aload_n 0, 1) := by decide +kernel
theorem dX7_kind_6 : decode cX7_kind 6 = .ok (.iload_n 1, 1) := by decide +kernel
theorem dX7_kind_7 : decode cX7_kind 7 = .ok (.invokevirtual 80, 3) := by decide +kernel
theorem dX7_kind_10 : decode cX7_kind 10 = .ok (.ifCond .eq 11, 3) := by decide +kernel
theorem dX7_kind_13 : decode cX7_kind 13 = .ok (.aload_n 0, 1) := by decide +kernel
theorem dX7_kind_14 : decode cX7_kind 14 = .ok (.iload_n 1, 1) := by decide +kernel
theorem dX7_kind_15 : decode cX7_kind 15 = .ok (.invokevirtual 208, 3) := by decide +kernel
theorem dX7_kind_18 : decode cX7_kind 18 = .ok (.goto 5, 3) := by decide +kernel
theorem dX7_kind_21 : decode cX7_kind 21 = .ok (.ldc 71, 2) := by decide +kernel
theorem dX7_kind_23 : decode cX7_kind 23 = .ok (.ireturn, 1) := by decide +kernel
set_option maxRecDepth 20000 in
theorem ggX7_as_X7_isPost : GoodIn wsX7_as wsX7_isPost := goodIn_r _ [10, 11, 12, 13, 9, 14, 30, 31, 32, 33, 34, 35, 36, 37, 38, 39, 40, 41, 42, 43, 44, 45, 46, 47, 48, 49, 50, 51, 52, 53, 54, 55, 56, 57] (by decide +kernel) (by decide +kernel)
set_option maxRecDepth 20000 in
theorem gX7_as_X7_isPost : GoodIn wsX7_as (wsV RX7 80 RX7 yX7_isPost wsX7_isPost) := goodIn_app (goodIn_of _ (by decide +kernel)) ggX7_as_X7_isPost
set_option maxRecDepth 20000 in
theorem ggX7_as_X7_in : GoodIn wsX7_as wsX7_in := goodIn_r _ [14] (by decide +kernel) (by decide +kernel)
set_option maxRecDepth 20000 in
theorem gX7_as_X7_in : GoodIn wsX7_as (va_wsS RX7 61 yX7_in wsX7_in) := goodIn_app (goodIn_of _ (by decide +kernel)) ggX7_as_X7_in
set_option maxRecDepth 20000 in
theorem ggX7_as_X7_kindOf : GoodIn wsX7_as wsX7_kindOf := goodIn_r _ [18, 5, 11, 19, 20, 9, 21, 30, 31, 32, 33, 34, 35, 36, 37, 38, 39, 40, 41, 42, 43, 44, 45, 46, 47, 48, 49, 50, 51, 52, 53, 54, 55, 56, 57] (by decide +kernel) (by decide +kernel)
set_option maxRecDepth 20000 in
theorem gX7_as_X7_kindOf : GoodIn wsX7_as (wsV RX7 208 RX7 yX7_kindOf wsX7_kindOf) := goodIn_app (goodIn_of _ (by decide +kernel)) ggX7_as_X7_kindOf
set_option maxRecDepth 20000 in
theorem ggX7_as_X7_isOf : GoodIn wsX7_as wsX7_isOf := goodIn_r _ [24] (by decide +kernel) (by decide +kernel)
set_option maxRecDepth 20000 in
theorem gX7_as_X7_isOf : GoodIn wsX7_as (va_wsS RX7 211 yX7_isOf wsX7_isOf) := goodIn_app (goodIn_of _ (by decide +kernel)) ggX7_as_X7_isOf
set_option maxRecDepth 20000 in
theorem ggX7_as_X7_size : GoodIn wsX7_as wsX7_size := goodIn_r _ [21] (by decide +kernel) (by decide +kernel)
set_option maxRecDepth 20000 in
theorem gX7_as_X7_size : GoodIn wsX7_as (va_wsS RX7 93 yX7_size wsX7_size) := goodIn_app (goodIn_of _ (by decide +kernel)) ggX7_as_X7_size
set_option maxRecDepth 20000 in
theorem ggX7_as_X7_found : GoodIn wsX7_as wsX7_found := goodIn_r _ [28, 4, 29, 30, 31, 32, 33, 34, 35, 36, 37, 38, 39, 40, 41, 42, 43, 44, 45, 46, 47, 48, 49, 50, 51, 52, 53, 54, 55, 56, 57] (by decide +kernel) (by decide +kernel)
set_option maxRecDepth 20000 in
theorem gX7_as_X7_found : GoodIn wsX7_as (wsV RX7 72 RX7 yX7_found wsX7_found) := goodIn_app (goodIn_of _ (by decide +kernel)) ggX7_as_X7_found
theorem dX7_as_0 : decode cX7_as 0 = .ok (.aload_n 0, 1) := by decide +kernel
theorem dX7_as_1 : decode cX7_as 1 = .ok (.iconst 0, 1) := by decide +kernel
theorem dX7_as_2 : decode cX7_as 2 = .ok (.putfield 51, 3) := by decide +kernel
theorem dX7_as_5 : decode cX7_as 5 = .ok (.aload_n 0, 1) := by decide +kernel
theorem dX7_as_6 : decode cX7_as 6 = .ok (.iload_n 1, 1) := by decide +kernel
theorem dX7_as_7 : decode cX7_as 7 = .ok (.invokevirtual 80, 3) := by decide +kernel
theorem dX7_as_10 : decode cX7_as 10 = .ok (.ifCond .eq 15, 3) := by decide +kernel
theorem dX7_as_13 : decode cX7_as 13 = .ok (.iload_n 2, 1) := by decide +kernel
theorem dX7_as_14 : decode cX7_as 14 = .ok (.i2l, 1) := by decide +kernel
theorem dX7_as_15 : decode cX7_as 15 = .ok (.lconst 0, 1) := by decide +kernel
theorem dX7_as_16 : decode cX7_as 16 = .ok (.ldc2_w 206, 3) := by decide +kernel
theorem dX7_as_19 : decode cX7_as 19 = .ok (.invokestatic 61, 3) := by decide +kernel
theorem dX7_as_22 : decode cX7_as 22 = .ok (.ifCond .ne 6, 3) := by decide +kernel
theorem dX7_as_25 : decode cX7_as 25 = .ok (.ldc 71, 2) := by decide +kernel
theorem dX7_as_27 : decode cX7_as 27 = .ok (.ireturn, 1) := by decide +kernel
theorem dX7_as_28 : decode cX7_as 28 = .ok (.aload_n 0, 1) := by decide +kernel
theorem dX7_as_29 : decode cX7_as 29 = .ok (.iconst 0, 1) := by decide +kernel
theorem dX7_as_30 : decode cX7_as 30 = .ok (.putfield 55, 3) := by decide +kernel
theorem dX7_as_33 : decode cX7_as 33 = .ok (.aload_n 0, 1) := by decide +kernel
theorem dX7_as_34 : decode cX7_as 34 = .ok (.iload_n 1, 1) := by decide +kernel
theorem dX7_as_35 : decode cX7_as 35 = .ok (.invokevirtual 208, 3) := by decide +kernel
theorem dX7_as_38 : decode cX7_as 38 = .ok (.iload_n 2, 1) := by decide +kernel
theorem dX7_as_39 : decode cX7_as 39 = .ok (.invokestatic 211, 3) := by decide +kernel
theorem dX7_as_42 : decode cX7_as 42 = .ok (.ifCond .eq 15, 3) := by decide +kernel
theorem dX7_as_45 : decode cX7_as 45 = .ok (.aload_n 0, 1) := by decide +kernel
theorem dX7_as_46 : decode cX7_as 46 = .ok (.getfield 19, 3) := by decide +kernel
theorem dX7_as_49 : decode cX7_as 49 = .ok (.iload_n 1, 1) := by decide +kernel
theorem dX7_as_50 : decode cX7_as 50 = .ok (.iaload, 1) := by decide +kernel
theorem dX7_as_51 : decode cX7_as 51 = .ok (.invokestatic 93, 3) := by decide +kernel
theorem dX7_as_54 : decode cX7_as 54 = .ok (.goto 8, 3) := by decide +kernel
theorem dX7_as_57 : decode cX7_as 57 = .ok (.aload_n 0, 1) := by decide +kernel
theorem dX7_as_58 : decode cX7_as 58 = .ok (.iconst 3, 1) := by decide +kernel
theorem dX7_as_59 : decode cX7_as 59 = .ok (.invokevirtual 72, 3) := by decide +kernel
theorem dX7_as_62 : decode cX7_as 62 = .ok (.ireturn, 1) := by decide +kernel
theorem dX7_began_0 : decode cX7_began 0 = .ok (.aload_n 0, 1) := by decide +kernel
theorem dX7_began_1 : decode cX7_began 1 = .ok (.getfield 215, 3) := by decide +kernel
theorem dX7_began_4 : decode cX7_began 4 = .ok (.bipush 16, 2) := by decide +kernel
theorem dX7_began_6 : decode cX7_began 6 = .ok (.if_icmp .ge 23, 3) := by decide +kernel
theorem dX7_began_9 : decode cX7_began 9 = .ok (.aload_n 0, 1) := by decide +kernel
theorem dX7_began_10 : decode cX7_began 10 = .ok (.getfield 48, 3) := by decide +kernel
theorem dX7_began_13 : decode cX7_began 13 = .ok (.aload_n 0, 1) := by decide +kernel
theorem dX7_began_14 : decode cX7_began 14 = .ok (.getfield 215, 3) := by decide +kernel
theorem dX7_began_17 : decode cX7_began 17 = .ok (.iload_n 1, 1) := by decide +kernel
theorem dX7_began_18 : decode cX7_began 18 = .ok (.iastore, 1) := by decide +kernel
theorem dX7_began_19 : decode cX7_began 19 = .ok (.aload_n 0, 1) := by decide +kernel
theorem dX7_began_20 : decode cX7_began 20 = .ok (.dup, 1) := by decide +kernel
theorem dX7_began_21 : decode cX7_began 21 = .ok (.getfield 215, 3) := by decide +kernel
theorem dX7_began_24 : decode cX7_began 24 = .ok (.iconst 1, 1) := by decide +kernel
theorem dX7_began_25 : decode cX7_began 25 = .ok (.iadd, 1) := by decide +kernel
theorem dX7_began_26 : decode cX7_began 26 = .ok (.putfield 215, 3) := by decide +kernel
theorem dX7_began_29 : decode cX7_began 29 = .ok (.return_, 1) := by decide +kernel
set_option maxRecDepth 20000 in
theorem ggX7_sized_X7_kindOf : GoodIn wsX7_sized wsX7_kindOf := goodIn_r _ [6, 1, 7, 8, 9, 5, 10, 30, 31, 32, 33, 34, 35, 36, 37, 38, 39, 40, 41, 42, 43, 44, 45, 46, 47, 48, 49, 50, 51, 52, 53, 54, 55, 56, 57] (by decide +kernel) (by decide +kernel)
set_option maxRecDepth 20000 in
theorem gX7_sized_X7_kindOf : GoodIn wsX7_sized (wsV RX7 208 RX7 yX7_kindOf wsX7_kindOf) := goodIn_app (goodIn_of _ (by decide +kernel)) ggX7_sized_X7_kindOf
set_option maxRecDepth 20000 in
theorem ggX7_sized_X7_began : GoodIn wsX7_sized wsX7_began := goodIn_r _ [14, 15, 16, 30, 31, 32, 33, 34, 35, 36, 37, 38, 39, 40, 41, 42, 43, 44, 45, 46, 47, 48, 49, 50, 51, 52, 53, 54, 55, 56, 57] (by decide +kernel) (by decide +kernel)
set_option maxRecDepth 20000 in
theorem gX7_sized_X7_began : GoodIn wsX7_sized (wsV RX7 218 RX7 yX7_began wsX7_began) := goodIn_app (goodIn_of _ (by decide +kernel)) ggX7_sized_X7_began
set_option maxRecDepth 20000 in
theorem ggX7_sized_X7_size : GoodIn wsX7_sized wsX7_size := goodIn_r _ [10] (by decide +kernel) (by decide +kernel)
set_option maxRecDepth 20000 in
theorem gX7_sized_X7_size : GoodIn wsX7_sized (va_wsS RX7 93 yX7_size wsX7_size) := goodIn_app (goodIn_of _ (by decide +kernel)) ggX7_sized_X7_size
set_option maxRecDepth 20000 in
theorem ggX7_sized_X7_widthOf : GoodIn wsX7_sized wsX7_widthOf := goodIn_r _ [20, 7, 21, 22, 23, 5, 24, 25, 26, 27, 28, 29, 1, 30, 31, 32, 33, 34, 35, 36, 37, 38, 39, 40, 41, 42, 43, 44, 45, 46, 47, 48, 49, 50, 51, 52, 53, 54, 55, 56, 57] (by decide +kernel) (by decide +kernel)
set_option maxRecDepth 20000 in
theorem gX7_sized_X7_widthOf : GoodIn wsX7_sized (wsV RX7 96 RX7 yX7_widthOf wsX7_widthOf) := goodIn_app (goodIn_of _ (by decide +kernel)) ggX7_sized_X7_widthOf
theorem dX7_sized_0 : decode cX7_sized 0 = .ok (.aload_n 0, 1) := by decide +kernel
theorem dX7_sized_1 : decode cX7_sized 1 = .ok (.iload_n 1, 1) := by decide +kernel
theorem dX7_sized_2 : decode cX7_sized 2 = .ok (.invokevirtual 208, 3) := by decide +kernel
theorem dX7_sized_5 : decode cX7_sized 5 = .ok (.istore_n 2, 1) := by decide +kernel
theorem dX7_sized_6 : decode cX7_sized 6 = .ok (.iload_n 2, 1) := by decide +kernel
theorem dX7_sized_7 : decode cX7_sized 7 = .ok (.iconst 2, 1) := by decide +kernel
theorem dX7_sized_8 : decode cX7_sized 8 = .ok (.if_icmp .ne 9, 3) := by decide +kernel
theorem dX7_sized_11 : decode cX7_sized 11 = .ok (.aload_n 0, 1) := by decide +kernel
theorem dX7_sized_12 : decode cX7_sized 12 = .ok (.bipush 12, 2) := by decide +kernel
theorem dX7_sized_14 : decode cX7_sized 14 = .ok (.invokevirtual 218, 3) := by decide +kernel
theorem dX7_sized_17 : decode cX7_sized 17 = .ok (.iload_n 2, 1) := by decide +kernel
theorem dX7_sized_18 : decode cX7_sized 18 = .ok (.iconst 3, 1) := by decide +kernel
theorem dX7_sized_19 : decode cX7_sized 19 = .ok (.if_icmp .ne 9, 3) := by decide +kernel
theorem dX7_sized_22 : decode cX7_sized 22 = .ok (.aload_n 0, 1) := by decide +kernel
theorem dX7_sized_23 : decode cX7_sized 23 = .ok (.bipush 13, 2) := by decide +kernel
theorem dX7_sized_25 : decode cX7_sized 25 = .ok (.invokevirtual 218, 3) := by decide +kernel
theorem dX7_sized_28 : decode cX7_sized 28 = .ok (.iload_n 2, 1) := by decide +kernel
theorem dX7_sized_29 : decode cX7_sized 29 = .ok (.iconst 4, 1) := by decide +kernel
theorem dX7_sized_30 : decode cX7_sized 30 = .ok (.if_icmp .eq 9, 3) := by decide +kernel
theorem dX7_sized_33 : decode cX7_sized 33 = .ok (.aload_n 0, 1) := by decide +kernel
theorem dX7_sized_34 : decode cX7_sized 34 = .ok (.bipush 11, 2) := by decide +kernel
theorem dX7_sized_36 : decode cX7_sized 36 = .ok (.invokevirtual 218, 3) := by decide +kernel
theorem dX7_sized_39 : decode cX7_sized 39 = .ok (.aload_n 0, 1) := by decide +kernel
theorem dX7_sized_40 : decode cX7_sized 40 = .ok (.bipush 10, 2) := by decide +kernel
theorem dX7_sized_42 : decode cX7_sized 42 = .ok (.invokevirtual 218, 3) := by decide +kernel
theorem dX7_sized_45 : decode cX7_sized 45 = .ok (.aload_n 0, 1) := by decide +kernel
theorem dX7_sized_46 : decode cX7_sized 46 = .ok (.getfield 19, 3) := by decide +kernel
theorem dX7_sized_49 : decode cX7_sized 49 = .ok (.iload_n 1, 1) := by decide +kernel
theorem dX7_sized_50 : decode cX7_sized 50 = .ok (.iaload, 1) := by decide +kernel
theorem dX7_sized_51 : decode cX7_sized 51 = .ok (.invokestatic 93, 3) := by decide +kernel
theorem dX7_sized_54 : decode cX7_sized 54 = .ok (.iload_n 2, 1) := by decide +kernel
theorem dX7_sized_55 : decode cX7_sized 55 = .ok (.iconst 4, 1) := by decide +kernel
theorem dX7_sized_56 : decode cX7_sized 56 = .ok (.if_icmp .ne 7, 3) := by decide +kernel
theorem dX7_sized_59 : decode cX7_sized 59 = .ok (.iconst 0, 1) := by decide +kernel
theorem dX7_sized_60 : decode cX7_sized 60 = .ok (.goto 8, 3) := by decide +kernel
theorem dX7_sized_63 : decode cX7_sized 63 = .ok (.aload_n 0, 1) := by decide +kernel
theorem dX7_sized_64 : decode cX7_sized 64 = .ok (.iload_n 1, 1) := by decide +kernel
theorem dX7_sized_65 : decode cX7_sized 65 = .ok (.invokevirtual 96, 3) := by decide +kernel
theorem dX7_sized_68 : decode cX7_sized 68 = .ok (.iadd, 1) := by decide +kernel
theorem dX7_sized_69 : decode cX7_sized 69 = .ok (.istore_n 3, 1) := by decide +kernel
theorem dX7_sized_70 : decode cX7_sized 70 = .ok (.iload_n 2, 1) := by decide +kernel
theorem dX7_sized_71 : decode cX7_sized 71 = .ok (.iconst 3, 1) := by decide +kernel
theorem dX7_sized_72 : decode cX7_sized 72 = .ok (.if_icmp .ne 22, 3) := by decide +kernel
theorem dX7_sized_75 : decode cX7_sized 75 = .ok (.aload_n 0, 1) := by decide +kernel
theorem dX7_sized_76 : decode cX7_sized 76 = .ok (.bipush 21, 2) := by decide +kernel
theorem dX7_sized_78 : decode cX7_sized 78 = .ok (.invokevirtual 218, 3) := by decide +kernel
theorem dX7_sized_81 : decode cX7_sized 81 = .ok (.aload_n 0, 1) := by decide +kernel
theorem dX7_sized_82 : decode cX7_sized 82 = .ok (.bipush 20, 2) := by decide +kernel
theorem dX7_sized_84 : decode cX7_sized 84 = .ok (.invokevirtual 218, 3) := by decide +kernel
theorem dX7_sized_87 : decode cX7_sized 87 = .ok (.iload_n 3, 1) := by decide +kernel
theorem dX7_sized_88 : decode cX7_sized 88 = .ok (.iload_n 1, 1) := by decide +kernel
theorem dX7_sized_89 : decode cX7_sized 89 = .ok (.iadd, 1) := by decide +kernel
theorem dX7_sized_90 : decode cX7_sized 90 = .ok (.bipush 100, 2) := by decide +kernel
theorem dX7_sized_92 : decode cX7_sized 92 = .ok (.iadd, 1) := by decide +kernel
theorem dX7_sized_93 : decode cX7_sized 93 = .ok (.ireturn, 1) := by decide +kernel
theorem dX7_sized_94 : decode cX7_sized 94 = .ok (.iload_n 2, 1) := by decide +kernel
theorem dX7_sized_95 : decode cX7_sized 95 = .ok (.iconst 2, 1) := by decide +kernel
theorem dX7_sized_96 : decode cX7_sized 96 = .ok (.if_icmp .ne 9, 3) := by decide +kernel
theorem dX7_sized_99 : decode cX7_sized 99 = .ok (.iconst 2, 1) := by decide +kernel
theorem dX7_sized_100 : decode cX7_sized 100 = .ok (.iload_n 3, 1) := by decide +kernel
theorem dX7_sized_101 : decode cX7_sized 101 = .ok (.imul, 1) := by decide +kernel
theorem dX7_sized_102 : decode cX7_sized 102 = .ok (.goto 4, 3) := by decide +kernel
theorem dX7_sized_105 : decode cX7_sized 105 = .ok (.iload_n 3, 1) := by decide +kernel
theorem dX7_sized_106 : decode cX7_sized 106 = .ok (.ireturn, 1) := by decide +kernel
set_option maxRecDepth 20000 in
theorem ggX7_marked_X7_kindOf : GoodIn wsX7_marked wsX7_kindOf := goodIn_r _ [5, 6, 7, 8, 9, 4, 10, 34, 35, 36, 37, 38, 39, 40, 41, 42, 43, 44, 45, 46, 47, 48, 49, 50, 51, 52, 53, 54, 55, 56, 57, 58, 59, 60, 61] (by decide +kernel) (by decide +kernel)
set_option maxRecDepth 20000 in
theorem gX7_marked_X7_kindOf : GoodIn wsX7_marked (wsV RX7 208 RX7 yX7_kindOf wsX7_kindOf) := goodIn_app (goodIn_of _ (by decide +kernel)) ggX7_marked_X7_kindOf
set_option maxRecDepth 20000 in
theorem ggX7_marked_X7_began : GoodIn wsX7_marked wsX7_began := goodIn_r _ [14, 15, 16, 34, 35, 36, 37, 38, 39, 40, 41, 42, 43, 44, 45, 46, 47, 48, 49, 50, 51, 52, 53, 54, 55, 56, 57, 58, 59, 60, 61] (by decide +kernel) (by decide +kernel)
set_option maxRecDepth 20000 in
theorem gX7_marked_X7_began : GoodIn wsX7_marked (wsV RX7 218 RX7 yX7_began wsX7_began) := goodIn_app (goodIn_of _ (by decide +kernel)) ggX7_marked_X7_began
set_option maxRecDepth 20000 in
theorem ggX7_marked_X7_sized : GoodIn wsX7_marked wsX7_sized := goodIn_r _ [20, 6, 1, 2, 3, 4, 5, 7, 8, 9, 10, 11, 12, 13, 14, 15, 16, 21, 22, 23, 24, 25, 26, 27, 28, 29, 30, 31, 32, 33, 34, 35, 36, 37, 38, 39, 40, 41, 42, 43, 44, 45, 46, 47, 48, 49, 50, 51, 52, 53, 54, 55, 56, 57, 58, 59, 60, 61] (by decide +kernel) (by decide +kernel)
set_option maxRecDepth 20000 in
theorem gX7_marked_X7_sized : GoodIn wsX7_marked (wsV RX7 221 RX7 yX7_sized wsX7_sized) := goodIn_app (goodIn_of _ (by decide +kernel)) ggX7_marked_X7_sized
theorem dX7_marked_0 : decode cX7_marked 0 = .ok (.aload_n 0, 1) := by decide +kernel
theorem dX7_marked_1 : decode cX7_marked 1 = .ok (.iload_n 1, 1) := by decide +kernel
theorem dX7_marked_2 : decode cX7_marked 2 = .ok (.invokevirtual 208, 3) := by decide +kernel
theorem dX7_marked_5 : decode cX7_marked 5 = .ok (.istore_n 2, 1) := by decide +kernel
theorem dX7_marked_6 : decode cX7_marked 6 = .ok (.iload_n 2, 1) := by decide +kernel
theorem dX7_marked_7 : decode cX7_marked 7 = .ok (.iconst 3, 1) := by decide +kernel
theorem dX7_marked_8 : decode cX7_marked 8 = .ok (.if_icmp .ne 9, 3) := by decide +kernel
theorem dX7_marked_11 : decode cX7_marked 11 = .ok (.aload_n 0, 1) := by decide +kernel
theorem dX7_marked_12 : decode cX7_marked 12 = .ok (.bipush 21, 2) := by decide +kernel
theorem dX7_marked_14 : decode cX7_marked 14 = .ok (.invokevirtual 218, 3) := by decide +kernel
theorem dX7_marked_17 : decode cX7_marked 17 = .ok (.iload_n 2, 1) := by decide +kernel
theorem dX7_marked_18 : decode cX7_marked 18 = .ok (.iconst 4, 1) := by decide +kernel
theorem dX7_marked_19 : decode cX7_marked 19 = .ok (.if_icmp .ne 9, 3) := by decide +kernel
theorem dX7_marked_22 : decode cX7_marked 22 = .ok (.aload_n 0, 1) := by decide +kernel
theorem dX7_marked_23 : decode cX7_marked 23 = .ok (.bipush 22, 2) := by decide +kernel
theorem dX7_marked_25 : decode cX7_marked 25 = .ok (.invokevirtual 218, 3) := by decide +kernel
theorem dX7_marked_28 : decode cX7_marked 28 = .ok (.aload_n 0, 1) := by decide +kernel
theorem dX7_marked_29 : decode cX7_marked 29 = .ok (.bipush 20, 2) := by decide +kernel
end
section
theorem dX7_marked_31 : decode cX7_marked 31 = .ok (.invokevirtual 218, 3) := by decide +kernel
theorem dX7_marked_34 : decode cX7_marked 34 = .ok (.iload_n 1, 1) := by decide +kernel
theorem dX7_marked_35 : decode cX7_marked 35 = .ok (.iload_n 2, 1) := by decide +kernel
theorem dX7_marked_36 : decode cX7_marked 36 = .ok (.iconst 3, 1) := by decide +kernel
theorem dX7_marked_37 : decode cX7_marked 37 = .ok (.if_icmp .ne 8, 3) := by decide +kernel
theorem dX7_marked_40 : decode cX7_marked 40 = .ok (.bipush 100, 2) := by decide +kernel
theorem dX7_marked_42 : decode cX7_marked 42 = .ok (.goto 17, 3) := by decide +kernel
theorem dX7_marked_45 : decode cX7_marked 45 = .ok (.iload_n 2, 1) := by decide +kernel
theorem dX7_marked_46 : decode cX7_marked 46 = .ok (.iconst 4, 1) := by decide +kernel
theorem dX7_marked_47 : decode cX7_marked 47 = .ok (.if_icmp .ne 11, 3) := by decide +kernel
theorem dX7_marked_50 : decode cX7_marked 50 = .ok (.aload_n 0, 1) := by decide +kernel
theorem dX7_marked_51 : decode cX7_marked 51 = .ok (.iload_n 1, 1) := by decide +kernel
theorem dX7_marked_52 : decode cX7_marked 52 = .ok (.invokevirtual 221, 3) := by decide +kernel
theorem dX7_marked_55 : decode cX7_marked 55 = .ok (.goto 4, 3) := by decide +kernel
theorem dX7_marked_58 : decode cX7_marked 58 = .ok (.iconst 0, 1) := by decide +kernel
theorem dX7_marked_59 : decode cX7_marked 59 = .ok (.iadd, 1) := by decide +kernel
theorem dX7_marked_60 : decode cX7_marked 60 = .ok (.ireturn, 1) := by decide +kernel
set_option maxRecDepth 20000 in
theorem ggX7_ask_X7_isPost : GoodIn wsX7_ask wsX7_isPost := goodIn_r _ [8, 9, 10, 11, 7, 12, 47, 48, 49, 50, 51, 52, 53, 54, 55, 56, 57, 58, 59, 60, 61, 62, 63, 64, 65, 66, 67, 68, 69, 70, 71, 72, 73, 74] (by decide +kernel) (by decide +kernel)
set_option maxRecDepth 20000 in
theorem gX7_ask_X7_isPost : GoodIn wsX7_ask (wsV RX7 80 RX7 yX7_isPost wsX7_isPost) := goodIn_app (goodIn_of _ (by decide +kernel)) ggX7_ask_X7_isPost
set_option maxRecDepth 20000 in
theorem ggX7_ask_X7_in : GoodIn wsX7_ask wsX7_in := goodIn_r _ [12] (by decide +kernel) (by decide +kernel)
set_option maxRecDepth 20000 in
theorem gX7_ask_X7_in : GoodIn wsX7_ask (va_wsS RX7 61 yX7_in wsX7_in) := goodIn_app (goodIn_of _ (by decide +kernel)) ggX7_ask_X7_in
set_option maxRecDepth 20000 in
theorem ggX7_ask_X7_sized : GoodIn wsX7_ask wsX7_sized := goodIn_r _ [16, 17, 18, 19, 20, 7, 21, 9, 22, 23, 24, 25, 26, 27, 28, 3, 29, 30, 31, 32, 33, 34, 35, 36, 37, 38, 39, 40, 41, 42, 47, 48, 49, 50, 51, 52, 53, 54, 55, 56, 57, 58, 59, 60, 61, 62, 63, 64, 65, 66, 67, 68, 69, 70, 71, 72, 73, 74] (by decide +kernel) (by decide +kernel)
set_option maxRecDepth 20000 in
theorem gX7_ask_X7_sized : GoodIn wsX7_ask (wsV RX7 221 RX7 yX7_sized wsX7_sized) := goodIn_app (goodIn_of _ (by decide +kernel)) ggX7_ask_X7_sized
set_option maxRecDepth 20000 in
theorem ggX7_ask_X7_marked : GoodIn wsX7_ask wsX7_marked := goodIn_r _ [46, 18, 19, 20, 7, 21, 17, 9, 22, 23, 24, 25, 26, 27, 28, 3, 29, 13, 14, 15, 16, 30, 31, 32, 33, 34, 35, 36, 37, 38, 39, 40, 41, 42, 47, 48, 49, 50, 51, 52, 53, 54, 55, 56, 57, 58, 59, 60, 61, 62, 63, 64, 65, 66, 67, 68, 69, 70, 71, 72, 73, 74] (by decide +kernel) (by decide +kernel)
set_option maxRecDepth 20000 in
theorem gX7_ask_X7_marked : GoodIn wsX7_ask (wsV RX7 224 RX7 yX7_marked wsX7_marked) := goodIn_app (goodIn_of _ (by decide +kernel)) ggX7_ask_X7_marked
theorem dX7_ask_0 : decode cX7_ask 0 = .ok (.aload_n 0, 1) := by decide +kernel
theorem dX7_ask_1 : decode cX7_ask 1 = .ok (.iconst 0, 1) := by decide +kernel
theorem dX7_ask_2 : decode cX7_ask 2 = .ok (.putfield 51, 3) := by decide +kernel
theorem dX7_ask_5 : decode cX7_ask 5 = .ok (.aload_n 0, 1) := by decide +kernel
theorem dX7_ask_6 : decode cX7_ask 6 = .ok (.iload_n 1, 1) := by decide +kernel
theorem dX7_ask_7 : decode cX7_ask 7 = .ok (.invokevirtual 80, 3) := by decide +kernel
theorem dX7_ask_10 : decode cX7_ask 10 = .ok (.ifCond .eq 13, 3) := by decide +kernel
theorem dX7_ask_13 : decode cX7_ask 13 = .ok (.iload_n 2, 1) := by decide +kernel
theorem dX7_ask_14 : decode cX7_ask 14 = .ok (.i2l, 1) := by decide +kernel
theorem dX7_ask_15 : decode cX7_ask 15 = .ok (.lconst 0, 1) := by decide +kernel
theorem dX7_ask_16 : decode cX7_ask 16 = .ok (.lconst 1, 1) := by decide +kernel
theorem dX7_ask_17 : decode cX7_ask 17 = .ok (.invokestatic 61, 3) := by decide +kernel
theorem dX7_ask_20 : decode cX7_ask 20 = .ok (.ifCond .ne 6, 3) := by decide +kernel
theorem dX7_ask_23 : decode cX7_ask 23 = .ok (.ldc 71, 2) := by decide +kernel
theorem dX7_ask_25 : decode cX7_ask 25 = .ok (.ireturn, 1) := by decide +kernel
theorem dX7_ask_26 : decode cX7_ask 26 = .ok (.aload_n 0, 1) := by decide +kernel
theorem dX7_ask_27 : decode cX7_ask 27 = .ok (.iconst 0, 1) := by decide +kernel
theorem dX7_ask_28 : decode cX7_ask 28 = .ok (.putfield 215, 3) := by decide +kernel
theorem dX7_ask_31 : decode cX7_ask 31 = .ok (.iload_n 2, 1) := by decide +kernel
theorem dX7_ask_32 : decode cX7_ask 32 = .ok (.ifCond .ne 11, 3) := by decide +kernel
theorem dX7_ask_35 : decode cX7_ask 35 = .ok (.aload_n 0, 1) := by decide +kernel
theorem dX7_ask_36 : decode cX7_ask 36 = .ok (.iload_n 1, 1) := by decide +kernel
theorem dX7_ask_37 : decode cX7_ask 37 = .ok (.invokevirtual 221, 3) := by decide +kernel
theorem dX7_ask_40 : decode cX7_ask 40 = .ok (.goto 8, 3) := by decide +kernel
theorem dX7_ask_43 : decode cX7_ask 43 = .ok (.aload_n 0, 1) := by decide +kernel
theorem dX7_ask_44 : decode cX7_ask 44 = .ok (.iload_n 1, 1) := by decide +kernel
theorem dX7_ask_45 : decode cX7_ask 45 = .ok (.invokevirtual 224, 3) := by decide +kernel
theorem dX7_ask_48 : decode cX7_ask 48 = .ok (.ireturn, 1) := by decide +kernel
set_option maxRecDepth 20000 in
theorem ggX7_trace_X7_in : GoodIn wsX7_trace wsX7_in := goodIn_r _ [8] (by decide +kernel) (by decide +kernel)
set_option maxRecDepth 20000 in
theorem gX7_trace_X7_in : GoodIn wsX7_trace (va_wsS RX7 61 yX7_in wsX7_in) := goodIn_app (goodIn_of _ (by decide +kernel)) ggX7_trace_X7_in
theorem dX7_trace_0 : decode cX7_trace 0 = .ok (.aload_n 0, 1) := by decide +kernel
theorem dX7_trace_1 : decode cX7_trace 1 = .ok (.iconst 0, 1) := by decide +kernel
theorem dX7_trace_2 : decode cX7_trace 2 = .ok (.putfield 51, 3) := by decide +kernel
theorem dX7_trace_5 : decode cX7_trace 5 = .ok (.iload_n 1, 1) := by decide +kernel
theorem dX7_trace_6 : decode cX7_trace 6 = .ok (.i2l, 1) := by decide +kernel
theorem dX7_trace_7 : decode cX7_trace 7 = .ok (.lconst 0, 1) := by decide +kernel
theorem dX7_trace_8 : decode cX7_trace 8 = .ok (.aload_n 0, 1) := by decide +kernel
theorem dX7_trace_9 : decode cX7_trace 9 = .ok (.getfield 215, 3) := by decide +kernel
theorem dX7_trace_12 : decode cX7_trace 12 = .ok (.iconst 1, 1) := by decide +kernel
theorem dX7_trace_13 : decode cX7_trace 13 = .ok (.isub, 1) := by decide +kernel
theorem dX7_trace_14 : decode cX7_trace 14 = .ok (.i2l, 1) := by decide +kernel
theorem dX7_trace_15 : decode cX7_trace 15 = .ok (.invokestatic 61, 3) := by decide +kernel
theorem dX7_trace_18 : decode cX7_trace 18 = .ok (.ifCond .eq 12, 3) := by decide +kernel
theorem dX7_trace_21 : decode cX7_trace 21 = .ok (.aload_n 0, 1) := by decide +kernel
theorem dX7_trace_22 : decode cX7_trace 22 = .ok (.getfield 48, 3) := by decide +kernel
theorem dX7_trace_25 : decode cX7_trace 25 = .ok (.iload_n 1, 1) := by decide +kernel
theorem dX7_trace_26 : decode cX7_trace 26 = .ok (.iaload, 1) := by decide +kernel
theorem dX7_trace_27 : decode cX7_trace 27 = .ok (.goto 5, 3) := by decide +kernel
theorem dX7_trace_30 : decode cX7_trace 30 = .ok (.ldc 86, 2) := by decide +kernel
theorem dX7_trace_32 : decode cX7_trace 32 = .ok (.ireturn, 1) := by decide +kernel
set_option maxRecDepth 20000 in
theorem ggX7_count_X7_size : GoodIn wsX7_count wsX7_size := goodIn_r _ [11] (by decide +kernel) (by decide +kernel)
set_option maxRecDepth 20000 in
theorem gX7_count_X7_size : GoodIn wsX7_count (va_wsS RX7 93 yX7_size wsX7_size) := goodIn_app (goodIn_of _ (by decide +kernel)) ggX7_count_X7_size
set_option maxRecDepth 20000 in
theorem ggX7_count_X7_kindOf : GoodIn wsX7_count wsX7_kindOf := goodIn_r _ [15, 4, 3, 8, 9, 10, 11, 16, 17, 18, 19, 20, 21, 22, 23, 24, 25, 26, 27, 28, 29, 30, 31, 32, 33, 34, 35, 36, 37, 38, 39, 40, 41, 42, 43] (by decide +kernel) (by decide +kernel)
set_option maxRecDepth 20000 in
theorem gX7_count_X7_kindOf : GoodIn wsX7_count (wsV RX7 208 RX7 yX7_kindOf wsX7_kindOf) := goodIn_app (goodIn_of _ (by decide +kernel)) ggX7_count_X7_kindOf
theorem dX7_count_0 : decode cX7_count 0 = .ok (.aload_n 0, 1) := by decide +kernel
theorem dX7_count_1 : decode cX7_count 1 = .ok (.iconst 0, 1) := by decide +kernel
theorem dX7_count_2 : decode cX7_count 2 = .ok (.putfield 51, 3) := by decide +kernel
theorem dX7_count_5 : decode cX7_count 5 = .ok (.iconst 0, 1) := by decide +kernel
theorem dX7_count_6 : decode cX7_count 6 = .ok (.istore_n 2, 1) := by decide +kernel
theorem dX7_count_7 : decode cX7_count 7 = .ok (.iload_n 1, 1) := by decide +kernel
theorem dX7_count_8 : decode cX7_count 8 = .ok (.tableswitch 165 0 7 #[48, 81, 86, 118, 123, 123, 123, 160], 48) := by decide +kernel
theorem dX7_count_56 : decode cX7_count 56 = .ok (.iconst 0, 1) := by decide +kernel
theorem dX7_count_57 : decode cX7_count 57 = .ok (.istore_n 3, 1) := by decide +kernel
theorem dX7_count_58 : decode cX7_count 58 = .ok (.iload_n 3, 1) := by decide +kernel
theorem dX7_count_59 : decode cX7_count 59 = .ok (.bipush 8, 2) := by decide +kernel
theorem dX7_count_61 : decode cX7_count 61 = .ok (.if_icmp .ge 26, 3) := by decide +kernel
theorem dX7_count_64 : decode cX7_count 64 = .ok (.iload_n 2, 1) := by decide +kernel
theorem dX7_count_65 : decode cX7_count 65 = .ok (.aload_n 0, 1) := by decide +kernel
theorem dX7_count_66 : decode cX7_count 66 = .ok (.getfield 7, 3) := by decide +kernel
theorem dX7_count_69 : decode cX7_count 69 = .ok (.iload_n 3, 1) := by decide +kernel
theorem dX7_count_70 : decode cX7_count 70 = .ok (.iaload, 1) := by decide +kernel
theorem dX7_count_71 : decode cX7_count 71 = .ok (.ifCond .lt 7, 3) := by decide +kernel
theorem dX7_count_74 : decode cX7_count 74 = .ok (.iconst 1, 1) := by decide +kernel
theorem dX7_count_75 : decode cX7_count 75 = .ok (.goto 4, 3) := by decide +kernel
theorem dX7_count_78 : decode cX7_count 78 = .ok (.iconst 0, 1) := by decide +kernel
theorem dX7_count_79 : decode cX7_count 79 = .ok (.iadd, 1) := by decide +kernel
theorem dX7_count_80 : decode cX7_count 80 = .ok (.istore_n 2, 1) := by decide +kernel
theorem dX7_count_81 : decode cX7_count 81 = .ok (.iinc 3 1, 3) := by decide +kernel
theorem dX7_count_84 : decode cX7_count 84 = .ok (.goto (-26), 3) := by decide +kernel
theorem dX7_count_87 : decode cX7_count 87 = .ok (.iload_n 2, 1) := by decide +kernel
theorem dX7_count_88 : decode cX7_count 88 = .ok (.ireturn, 1) := by decide +kernel
theorem dX7_count_89 : decode cX7_count 89 = .ok (.aload_n 0, 1) := by decide +kernel
theorem dX7_count_90 : decode cX7_count 90 = .ok (.getfield 76, 3) := by decide +kernel
theorem dX7_count_93 : decode cX7_count 93 = .ok (.ireturn, 1) := by decide +kernel
theorem dX7_count_94 : decode cX7_count 94 = .ok (.iconst 0, 1) := by decide +kernel
theorem dX7_count_95 : decode cX7_count 95 = .ok (.istore_n 3, 1) := by decide +kernel
theorem dX7_count_96 : decode cX7_count 96 = .ok (.iload_n 3, 1) := by decide +kernel
theorem dX7_count_97 : decode cX7_count 97 = .ok (.aload_n 0, 1) := by decide +kernel
theorem dX7_count_98 : decode cX7_count 98 = .ok (.getfield 76, 3) := by decide +kernel
theorem dX7_count_101 : decode cX7_count 101 = .ok (.if_icmp .ge 21, 3) := by decide +kernel
theorem dX7_count_104 : decode cX7_count 104 = .ok (.iload_n 2, 1) := by decide +kernel
theorem dX7_count_105 : decode cX7_count 105 = .ok (.aload_n 0, 1) := by decide +kernel
theorem dX7_count_106 : decode cX7_count 106 = .ok (.getfield 19, 3) := by decide +kernel
theorem dX7_count_109 : decode cX7_count 109 = .ok (.iload_n 3, 1) := by decide +kernel
theorem dX7_count_110 : decode cX7_count 110 = .ok (.iaload, 1) := by decide +kernel
theorem dX7_count_111 : decode cX7_count 111 = .ok (.invokestatic 93, 3) := by decide +kernel
theorem dX7_count_114 : decode cX7_count 114 = .ok (.iadd, 1) := by decide +kernel
theorem dX7_count_115 : decode cX7_count 115 = .ok (.istore_n 2, 1) := by decide +kernel
theorem dX7_count_116 : decode cX7_count 116 = .ok (.iinc 3 1, 3) := by decide +kernel
theorem dX7_count_119 : decode cX7_count 119 = .ok (.goto (-23), 3) := by decide +kernel
theorem dX7_count_122 : decode cX7_count 122 = .ok (.iload_n 2, 1) := by decide +kernel
theorem dX7_count_123 : decode cX7_count 123 = .ok (.iconst 2, 1) := by decide +kernel
theorem dX7_count_124 : decode cX7_count 124 = .ok (.idiv, 1) := by decide +kernel
theorem dX7_count_125 : decode cX7_count 125 = .ok (.ireturn, 1) := by decide +kernel
theorem dX7_count_126 : decode cX7_count 126 = .ok (.aload_n 0, 1) := by decide +kernel
theorem dX7_count_127 : decode cX7_count 127 = .ok (.getfield 187, 3) := by decide +kernel
theorem dX7_count_130 : decode cX7_count 130 = .ok (.ireturn, 1) := by decide +kernel
theorem dX7_count_131 : decode cX7_count 131 = .ok (.iconst 0, 1) := by decide +kernel
theorem dX7_count_132 : decode cX7_count 132 = .ok (.istore_n 3, 1) := by decide +kernel
theorem dX7_count_133 : decode cX7_count 133 = .ok (.iload_n 3, 1) := by decide +kernel
theorem dX7_count_134 : decode cX7_count 134 = .ok (.aload_n 0, 1) := by decide +kernel
theorem dX7_count_135 : decode cX7_count 135 = .ok (.getfield 76, 3) := by decide +kernel
theorem dX7_count_138 : decode cX7_count 138 = .ok (.if_icmp .ge 28, 3) := by decide +kernel
theorem dX7_count_141 : decode cX7_count 141 = .ok (.iload_n 2, 1) := by decide +kernel
theorem dX7_count_142 : decode cX7_count 142 = .ok (.aload_n 0, 1) := by decide +kernel
theorem dX7_count_143 : decode cX7_count 143 = .ok (.iload_n 3, 1) := by decide +kernel
theorem dX7_count_144 : decode cX7_count 144 = .ok (.invokevirtual 208, 3) := by decide +kernel
theorem dX7_count_147 : decode cX7_count 147 = .ok (.iload_n 1, 1) := by decide +kernel
theorem dX7_count_148 : decode cX7_count 148 = .ok (.iconst 2, 1) := by decide +kernel
theorem dX7_count_149 : decode cX7_count 149 = .ok (.isub, 1) := by decide +kernel
theorem dX7_count_150 : decode cX7_count 150 = .ok (.if_icmp .ne 7, 3) := by decide +kernel
theorem dX7_count_153 : decode cX7_count 153 = .ok (.iconst 1, 1) := by decide +kernel
theorem dX7_count_154 : decode cX7_count 154 = .ok (.goto 4, 3) := by decide +kernel
theorem dX7_count_157 : decode cX7_count 157 = .ok (.iconst 0, 1) := by decide +kernel
theorem dX7_count_158 : decode cX7_count 158 = .ok (.iadd, 1) := by decide +kernel
theorem dX7_count_159 : decode cX7_count 159 = .ok (.istore_n 2, 1) := by decide +kernel
theorem dX7_count_160 : decode cX7_count 160 = .ok (.iinc 3 1, 3) := by decide +kernel
theorem dX7_count_163 : decode cX7_count 163 = .ok (.goto (-30), 3) := by decide +kernel
theorem dX7_count_166 : decode cX7_count 166 = .ok (.iload_n 2, 1) := by decide +kernel
theorem dX7_count_167 : decode cX7_count 167 = .ok (.ireturn, 1) := by decide +kernel
theorem dX7_count_168 : decode cX7_count 168 = .ok (.aload_n 0, 1) := by decide +kernel
theorem dX7_count_169 : decode cX7_count 169 = .ok (.getfield 121, 3) := by decide +kernel
theorem dX7_count_172 : decode cX7_count 172 = .ok (.ireturn, 1) := by decide +kernel
theorem dX7_count_173 : decode cX7_count 173 = .ok (.ldc 71, 2) := by decide +kernel
theorem dX7_count_175 : decode cX7_count 175 = .ok (.ireturn, 1) := by decide +kernel
theorem dX7_status_0 : decode cX7_status 0 = .ok (.aload_n 0, 1) := by decide +kernel
theorem dX7_status_1 : decode cX7_status 1 = .ok (.iconst 0, 1) := by decide +kernel
theorem dX7_status_2 : decode cX7_status 2 = .ok (.putfield 51, 3) := by decide +kernel
theorem dX7_status_5 : decode cX7_status 5 = .ok (.aload_n 0, 1) := by decide +kernel
theorem dX7_status_6 : decode cX7_status 6 = .ok (.getfield 55, 3) := by decide +kernel
theorem dX7_status_9 : decode cX7_status 9 = .ok (.ireturn, 1) := by decide +kernel
theorem dJ6_bitCount_0f7a4_0 : decode cJ6_bitCount_0f7a4 0 = .ok (.iload_n 0, 1) := by decide +kernel
theorem dJ6_bitCount_0f7a4_1 : decode cJ6_bitCount_0f7a4 1 = .ok (.iload_n 0, 1) := by decide +kernel
theorem dJ6_bitCount_0f7a4_2 : decode cJ6_bitCount_0f7a4 2 = .ok (.iconst 1, 1) := by decide +kernel
theorem dJ6_bitCount_0f7a4_3 : decode cJ6_bitCount_0f7a4 3 = .ok (.iushr, 1) := by decide +kernel
theorem dJ6_bitCount_0f7a4_4 : decode cJ6_bitCount_0f7a4 4 = .ok (.ldc_w 265, 3) := by decide +kernel
theorem dJ6_bitCount_0f7a4_7 : decode cJ6_bitCount_0f7a4 7 = .ok (.iand, 1) := by decide +kernel
theorem dJ6_bitCount_0f7a4_8 : decode cJ6_bitCount_0f7a4 8 = .ok (.isub, 1) := by decide +kernel
theorem dJ6_bitCount_0f7a4_9 : decode cJ6_bitCount_0f7a4 9 = .ok (.istore_n 0, 1) := by decide +kernel
theorem dJ6_bitCount_0f7a4_10 : decode cJ6_bitCount_0f7a4 10 = .ok (.iload_n 0, 1) := by decide +kernel
theorem dJ6_bitCount_0f7a4_11 : decode cJ6_bitCount_0f7a4 11 = .ok (.ldc_w 266, 3) := by decide +kernel
theorem dJ6_bitCount_0f7a4_14 : decode cJ6_bitCount_0f7a4 14 = .ok (.iand, 1) := by decide +kernel
theorem dJ6_bitCount_0f7a4_15 : decode cJ6_bitCount_0f7a4 15 = .ok (.iload_n 0, 1) := by decide +kernel
theorem dJ6_bitCount_0f7a4_16 : decode cJ6_bitCount_0f7a4 16 = .ok (.iconst 2, 1) := by decide +kernel
theorem dJ6_bitCount_0f7a4_17 : decode cJ6_bitCount_0f7a4 17 = .ok (.iushr, 1) := by decide +kernel
theorem dJ6_bitCount_0f7a4_18 : decode cJ6_bitCount_0f7a4 18 = .ok (.ldc_w 266, 3) := by decide +kernel
theorem dJ6_bitCount_0f7a4_21 : decode cJ6_bitCount_0f7a4 21 = .ok (.iand, 1) := by decide +kernel
theorem dJ6_bitCount_0f7a4_22 : decode cJ6_bitCount_0f7a4 22 = .ok (.iadd, 1) := by decide +kernel
theorem dJ6_bitCount_0f7a4_23 : decode cJ6_bitCount_0f7a4 23 = .ok (.istore_n 0, 1) := by decide +kernel
theorem dJ6_bitCount_0f7a4_24 : decode cJ6_bitCount_0f7a4 24 = .ok (.iload_n 0, 1) := by decide +kernel
theorem dJ6_bitCount_0f7a4_25 : decode cJ6_bitCount_0f7a4 25 = .ok (.iload_n 0, 1) := by decide +kernel
theorem dJ6_bitCount_0f7a4_26 : decode cJ6_bitCount_0f7a4 26 = .ok (.iconst 4, 1) := by decide +kernel
theorem dJ6_bitCount_0f7a4_27 : decode cJ6_bitCount_0f7a4 27 = .ok (.iushr, 1) := by decide +kernel
theorem dJ6_bitCount_0f7a4_28 : decode cJ6_bitCount_0f7a4 28 = .ok (.iadd, 1) := by decide +kernel
theorem dJ6_bitCount_0f7a4_29 : decode cJ6_bitCount_0f7a4 29 = .ok (.ldc_w 267, 3) := by decide +kernel
theorem dJ6_bitCount_0f7a4_32 : decode cJ6_bitCount_0f7a4 32 = .ok (.iand, 1) := by decide +kernel
theorem dJ6_bitCount_0f7a4_33 : decode cJ6_bitCount_0f7a4 33 = .ok (.istore_n 0, 1) := by decide +kernel
theorem dJ6_bitCount_0f7a4_34 : decode cJ6_bitCount_0f7a4 34 = .ok (.iload_n 0, 1) := by decide +kernel
theorem dJ6_bitCount_0f7a4_35 : decode cJ6_bitCount_0f7a4 35 = .ok (.iload_n 0, 1) := by decide +kernel
theorem dJ6_bitCount_0f7a4_36 : decode cJ6_bitCount_0f7a4 36 = .ok (.bipush 8, 2) := by decide +kernel
theorem dJ6_bitCount_0f7a4_38 : decode cJ6_bitCount_0f7a4 38 = .ok (.iushr, 1) := by decide +kernel
theorem dJ6_bitCount_0f7a4_39 : decode cJ6_bitCount_0f7a4 39 = .ok (.iadd, 1) := by decide +kernel
theorem dJ6_bitCount_0f7a4_40 : decode cJ6_bitCount_0f7a4 40 = .ok (.istore_n 0, 1) := by decide +kernel
theorem dJ6_bitCount_0f7a4_41 : decode cJ6_bitCount_0f7a4 41 = .ok (.iload_n 0, 1) := by decide +kernel
theorem dJ6_bitCount_0f7a4_42 : decode cJ6_bitCount_0f7a4 42 = .ok (.iload_n 0, 1) := by decide +kernel
theorem dJ6_bitCount_0f7a4_43 : decode cJ6_bitCount_0f7a4 43 = .ok (.bipush 16, 2) := by decide +kernel
theorem dJ6_bitCount_0f7a4_45 : decode cJ6_bitCount_0f7a4 45 = .ok (.iushr, 1) := by decide +kernel
theorem dJ6_bitCount_0f7a4_46 : decode cJ6_bitCount_0f7a4 46 = .ok (.iadd, 1) := by decide +kernel
theorem dJ6_bitCount_0f7a4_47 : decode cJ6_bitCount_0f7a4 47 = .ok (.istore_n 0, 1) := by decide +kernel
theorem dJ6_bitCount_0f7a4_48 : decode cJ6_bitCount_0f7a4 48 = .ok (.iload_n 0, 1) := by decide +kernel
theorem dJ6_bitCount_0f7a4_49 : decode cJ6_bitCount_0f7a4 49 = .ok (.bipush 63, 2) := by decide +kernel
theorem dJ6_bitCount_0f7a4_51 : decode cJ6_bitCount_0f7a4 51 = .ok (.iand, 1) := by decide +kernel
theorem dJ6_bitCount_0f7a4_52 : decode cJ6_bitCount_0f7a4 52 = .ok (.ireturn, 1) := by decide +kernel
theorem dJ9_max_7cf53_0 : decode cJ9_max_7cf53 0 = .ok (.iload_n 0, 1) := by decide +kernel
theorem dJ9_max_7cf53_1 : decode cJ9_max_7cf53 1 = .ok (.iload_n 1, 1) := by decide +kernel
theorem dJ9_max_7cf53_2 : decode cJ9_max_7cf53 2 = .ok (.if_icmp .lt 7, 3) := by decide +kernel
theorem dJ9_max_7cf53_5 : decode cJ9_max_7cf53 5 = .ok (.iload_n 0, 1) := by decide +kernel
theorem dJ9_max_7cf53_6 : decode cJ9_max_7cf53 6 = .ok (.goto 4, 3) := by decide +kernel
theorem dJ9_max_7cf53_9 : decode cJ9_max_7cf53 9 = .ok (.iload_n 1, 1) := by decide +kernel
theorem dJ9_max_7cf53_10 : decode cJ9_max_7cf53 10 = .ok (.ireturn, 1) := by decide +kernel
theorem dJ9_min_7cf53_0 : decode cJ9_min_7cf53 0 = .ok (.iload_n 0, 1) := by decide +kernel
theorem dJ9_min_7cf53_1 : decode cJ9_min_7cf53 1 = .ok (.iload_n 1, 1) := by decide +kernel
theorem dJ9_min_7cf53_2 : decode cJ9_min_7cf53 2 = .ok (.if_icmp .gt 7, 3) := by decide +kernel
theorem dJ9_min_7cf53_5 : decode cJ9_min_7cf53 5 = .ok (.iload_n 0, 1) := by decide +kernel
theorem dJ9_min_7cf53_6 : decode cJ9_min_7cf53 6 = .ok (.goto 4, 3) := by decide +kernel
theorem dJ9_min_7cf53_9 : decode cJ9_min_7cf53 9 = .ok (.iload_n 1, 1) := by decide +kernel
theorem dJ9_min_7cf53_10 : decode cJ9_min_7cf53 10 = .ok (.ireturn, 1) := by decide +kernel
set_option maxRecDepth 20000 in
theorem ggJ0_length_8abf5_J0_coder_7d493 : GoodIn wsJ0_length_8abf5 wsJ0_coder_7d493 := goodIn_r _ [6, 7, 8] (by decide +kernel) (by decide +kernel)
set_option maxRecDepth 20000 in
theorem gJ0_length_8abf5_J0_coder_7d493 : GoodIn wsJ0_length_8abf5 (wsV RJ0 335 RJ0 yJ0_coder_7d493 wsJ0_coder_7d493) := goodIn_app (goodIn_of _ (by decide +kernel)) ggJ0_length_8abf5_J0_coder_7d493
theorem dJ0_length_8abf5_0 : decode cJ0_length_8abf5 0 = .ok (.aload_n 0, 1) := by decide +kernel
theorem dJ0_length_8abf5_1 : decode cJ0_length_8abf5 1 = .ok (.getfield 9, 3) := by decide +kernel
theorem dJ0_length_8abf5_4 : decode cJ0_length_8abf5 4 = .ok (.arraylength, 1) := by decide +kernel
theorem dJ0_length_8abf5_5 : decode cJ0_length_8abf5 5 = .ok (.aload_n 0, 1) := by decide +kernel
theorem dJ0_length_8abf5_6 : decode cJ0_length_8abf5 6 = .ok (.invokevirtual 335, 3) := by decide +kernel
theorem dJ0_length_8abf5_9 : decode cJ0_length_8abf5 9 = .ok (.ishr, 1) := by decide +kernel
theorem dJ0_length_8abf5_10 : decode cJ0_length_8abf5 10 = .ok (.ireturn, 1) := by decide +kernel
set_option maxRecDepth 20000 in
theorem ggJ0_charAt_5068e_J0_isLatin1_aae02 : GoodIn wsJ0_charAt_5068e wsJ0_isLatin1_aae02 := goodIn_r _ [6, 7, 8] (by decide +kernel) (by decide +kernel)
set_option maxRecDepth 20000 in
theorem gJ0_charAt_5068e_J0_isLatin1_aae02 : GoodIn wsJ0_charAt_5068e (wsV RJ0 492 RJ0 yJ0_isLatin1_aae02 wsJ0_isLatin1_aae02) := goodIn_app (goodIn_of _ (by decide +kernel)) ggJ0_charAt_5068e_J0_isLatin1_aae02
set_option maxRecDepth 20000 in
theorem ggJ0_charAt_5068e_J1_charAt_3b067 : GoodIn wsJ0_charAt_5068e wsJ1_charAt_3b067 := goodIn_r _ [12, 13, 14, 5, 15, 16, 17, 18, 19, 20] (by decide +kernel) (by decide +kernel)
set_option maxRecDepth 20000 in
theorem gJ0_charAt_5068e_J1_charAt_3b067 : GoodIn wsJ0_charAt_5068e (va_wsS RJ0 495 yJ1_charAt_3b067 wsJ1_charAt_3b067) := goodIn_app (goodIn_of _ (by decide +kernel)) ggJ0_charAt_5068e_J1_charAt_3b067
set_option maxRecDepth 20000 in
theorem ggJ0_charAt_5068e_J2_charAt_3b067 : GoodIn wsJ0_charAt_5068e wsJ2_charAt_3b067 := goodIn_r _ [24, 25, 26, 23, 27, 28, 29, 30, 31, 14, 5, 15, 16, 17, 18, 19, 20, 32, 33, 34, 35, 36, 37] (by decide +kernel) (by decide +kernel)
set_option maxRecDepth 20000 in
theorem gJ0_charAt_5068e_J2_charAt_3b067 : GoodIn wsJ0_charAt_5068e (va_wsS RJ0 498 yJ2_charAt_3b067 wsJ2_charAt_3b067) := goodIn_app (goodIn_of _ (by decide +kernel)) ggJ0_charAt_5068e_J2_charAt_3b067
theorem dJ0_charAt_5068e_0 : decode cJ0_charAt_5068e 0 = .ok (.aload_n 0, 1) := by decide +kernel
theorem dJ0_charAt_5068e_1 : decode cJ0_charAt_5068e 1 = .ok (.invokevirtual 492, 3) := by decide +kernel
theorem dJ0_charAt_5068e_4 : decode cJ0_charAt_5068e 4 = .ok (.ifCond .eq 12, 3) := by decide +kernel
theorem dJ0_charAt_5068e_7 : decode cJ0_charAt_5068e 7 = .ok (.aload_n 0, 1) := by decide +kernel
theorem dJ0_charAt_5068e_8 : decode cJ0_charAt_5068e 8 = .ok (.getfield 9, 3) := by decide +kernel
theorem dJ0_charAt_5068e_11 : decode cJ0_charAt_5068e 11 = .ok (.iload_n 1, 1) := by decide +kernel
theorem dJ0_charAt_5068e_12 : decode cJ0_charAt_5068e 12 = .ok (.invokestatic 495, 3) := by decide +kernel
theorem dJ0_charAt_5068e_15 : decode cJ0_charAt_5068e 15 = .ok (.ireturn, 1) := by decide +kernel
theorem dJ0_charAt_5068e_16 : decode cJ0_charAt_5068e 16 = .ok (.aload_n 0, 1) := by decide +kernel
theorem dJ0_charAt_5068e_17 : decode cJ0_charAt_5068e 17 = .ok (.getfield 9, 3) := by decide +kernel
theorem dJ0_charAt_5068e_20 : decode cJ0_charAt_5068e 20 = .ok (.iload_n 1, 1) := by decide +kernel
theorem dJ0_charAt_5068e_21 : decode cJ0_charAt_5068e 21 = .ok (.invokestatic 498, 3) := by decide +kernel
theorem dJ0_charAt_5068e_24 : decode cJ0_charAt_5068e 24 = .ok (.ireturn, 1) := by decide +kernel
theorem dJ0_coder_7d493_0 : decode cJ0_coder_7d493 0 = .ok (.getstatic 38, 3) := by decide +kernel
theorem dJ0_coder_7d493_3 : decode cJ0_coder_7d493 3 = .ok (.ifCond .eq 10, 3) := by decide +kernel
theorem dJ0_coder_7d493_6 : decode cJ0_coder_7d493 6 = .ok (.aload_n 0, 1) := by decide +kernel
theorem dJ0_coder_7d493_7 : decode cJ0_coder_7d493 7 = .ok (.getfield 15, 3) := by decide +kernel
theorem dJ0_coder_7d493_10 : decode cJ0_coder_7d493 10 = .ok (.goto 4, 3) := by decide +kernel
theorem dJ0_coder_7d493_13 : decode cJ0_coder_7d493 13 = .ok (.iconst 1, 1) := by decide +kernel
theorem dJ0_coder_7d493_14 : decode cJ0_coder_7d493 14 = .ok (.ireturn, 1) := by decide +kernel
theorem dJ0_isLatin1_aae02_0 : decode cJ0_isLatin1_aae02 0 = .ok (.getstatic 38, 3) := by decide +kernel
theorem dJ0_isLatin1_aae02_3 : decode cJ0_isLatin1_aae02 3 = .ok (.ifCond .eq 14, 3) := by decide +kernel
theorem dJ0_isLatin1_aae02_6 : decode cJ0_isLatin1_aae02 6 = .ok (.aload_n 0, 1) := by decide +kernel
theorem dJ0_isLatin1_aae02_7 : decode cJ0_isLatin1_aae02 7 = .ok (.getfield 15, 3) := by decide +kernel
theorem dJ0_isLatin1_aae02_10 : decode cJ0_isLatin1_aae02 10 = .ok (.ifCond .ne 7, 3) := by decide +kernel
theorem dJ0_isLatin1_aae02_13 : decode cJ0_isLatin1_aae02 13 = .ok (.iconst 1, 1) := by decide +kernel
theorem dJ0_isLatin1_aae02_14 : decode cJ0_isLatin1_aae02 14 = .ok (.goto 4, 3) := by decide +kernel
theorem dJ0_isLatin1_aae02_17 : decode cJ0_isLatin1_aae02 17 = .ok (.iconst 0, 1) := by decide +kernel
theorem dJ0_isLatin1_aae02_18 : decode cJ0_isLatin1_aae02 18 = .ok (.ireturn, 1) := by decide +kernel
set_option maxRecDepth 20000 in
theorem ggJ0_checkIndex_df160_J3_checkIndex_8e157 : GoodIn wsJ0_checkIndex_df160 wsJ3_checkIndex_8e157 := goodIn_r _ [5] (by decide +kernel) (by decide +kernel)
set_option maxRecDepth 20000 in
theorem gJ0_checkIndex_df160_J3_checkIndex_8e157 : GoodIn wsJ0_checkIndex_df160 (va_wsS RJ0 1059 yJ3_checkIndex_8e157 wsJ3_checkIndex_8e157) := goodIn_app (goodIn_of _ (by decide +kernel)) ggJ0_checkIndex_df160_J3_checkIndex_8e157
theorem dJ0_checkIndex_df160_0 : decode cJ0_checkIndex_df160 0 = .ok (.iload_n 0, 1) := by decide +kernel
theorem dJ0_checkIndex_df160_1 : decode cJ0_checkIndex_df160 1 = .ok (.iload_n 1, 1) := by decide +kernel
theorem dJ0_checkIndex_df160_2 : decode cJ0_checkIndex_df160 2 = .ok (.getstatic 1053, 3) := by decide +kernel
theorem dJ0_checkIndex_df160_5 : decode cJ0_checkIndex_df160 5 = .ok (.invokestatic 1059, 3) := by decide +kernel
theorem dJ0_checkIndex_df160_8 : decode cJ0_checkIndex_df160 8 = .ok (.pop, 1) := by decide +kernel
theorem dJ0_checkIndex_df160_9 : decode cJ0_checkIndex_df160 9 = .ok (.return_, 1) := by decide +kernel
set_option maxRecDepth 20000 in
theorem ggJ1_charAt_3b067_J0_checkIndex_df160 : GoodIn wsJ1_charAt_3b067 wsJ0_checkIndex_df160 := goodIn_r _ [4, 5, 6, 7, 8, 9] (by decide +kernel) (by decide +kernel)
set_option maxRecDepth 20000 in
theorem gJ1_charAt_3b067_J0_checkIndex_df160 : GoodIn wsJ1_charAt_3b067 (va_wsS RJ1 9 yJ0_checkIndex_df160 wsJ0_checkIndex_df160) := goodIn_app (goodIn_of _ (by decide +kernel)) ggJ1_charAt_3b067_J0_checkIndex_df160
theorem dJ1_charAt_3b067_0 : decode cJ1_charAt_3b067 0 = .ok (.iload_n 1, 1) := by decide +kernel
theorem dJ1_charAt_3b067_1 : decode cJ1_charAt_3b067 1 = .ok (.aload_n 0, 1) := by decide +kernel
theorem dJ1_charAt_3b067_2 : decode cJ1_charAt_3b067 2 = .ok (.arraylength, 1) := by decide +kernel
theorem dJ1_charAt_3b067_3 : decode cJ1_charAt_3b067 3 = .ok (.invokestatic 9, 3) := by decide +kernel
theorem dJ1_charAt_3b067_6 : decode cJ1_charAt_3b067 6 = .ok (.aload_n 0, 1) := by decide +kernel
theorem dJ1_charAt_3b067_7 : decode cJ1_charAt_3b067 7 = .ok (.iload_n 1, 1) := by decide +kernel
theorem dJ1_charAt_3b067_8 : decode cJ1_charAt_3b067 8 = .ok (.baload, 1) := by decide +kernel
theorem dJ1_charAt_3b067_9 : decode cJ1_charAt_3b067 9 = .ok (.sipush 255, 3) := by decide +kernel
theorem dJ1_charAt_3b067_12 : decode cJ1_charAt_3b067 12 = .ok (.iand, 1) := by decide +kernel
theorem dJ1_charAt_3b067_13 : decode cJ1_charAt_3b067 13 = .ok (.i2c, 1) := by decide +kernel
theorem dJ1_charAt_3b067_14 : decode cJ1_charAt_3b067 14 = .ok (.ireturn, 1) := by decide +kernel
set_option maxRecDepth 20000 in
theorem ggJ2_getChar_3b067_J2_length_9d52b : GoodIn wsJ2_getChar_3b067 wsJ2_length_9d52b := goodIn_r _ [7] (by decide +kernel) (by decide +kernel)
set_option maxRecDepth 20000 in
theorem gJ2_getChar_3b067_J2_length_9d52b : GoodIn wsJ2_getChar_3b067 (va_wsS RJ2 48 yJ2_length_9d52b wsJ2_length_9d52b) := goodIn_app (goodIn_of _ (by decide +kernel)) ggJ2_getChar_3b067_J2_length_9d52b
theorem dJ2_getChar_3b067_0 : decode cJ2_getChar_3b067 0 = .ok (.getstatic 44, 3) := by decide +kernel
theorem dJ2_getChar_3b067_3 : decode cJ2_getChar_3b067 3 = .ok (.ifCond .ne 25, 3) := by decide +kernel
theorem dJ2_getChar_3b067_6 : decode cJ2_getChar_3b067 6 = .ok (.iload_n 1, 1) := by decide +kernel
theorem dJ2_getChar_3b067_7 : decode cJ2_getChar_3b067 7 = .ok (.ifCond .lt 11, 3) := by decide +kernel
theorem dJ2_getChar_3b067_10 : decode cJ2_getChar_3b067 10 = .ok (.iload_n 1, 1) := by decide +kernel
theorem dJ2_getChar_3b067_11 : decode cJ2_getChar_3b067 11 = .ok (.aload_n 0, 1) := by decide +kernel
theorem dJ2_getChar_3b067_12 : decode cJ2_getChar_3b067 12 = .ok (.invokestatic 48, 3) := by decide +kernel
theorem dJ2_getChar_3b067_15 : decode cJ2_getChar_3b067 15 = .ok (.if_icmp .lt 13, 3) := by decide +kernel
theorem dJ2_getChar_3b067_18 : decode cJ2_getChar_3b067 18 = .ok (.new 52, 3) := by decide +kernel
theorem dJ2_getChar_3b067_21 : decode cJ2_getChar_3b067 21 = .ok (.dup, 1) := by decide +kernel
theorem dJ2_getChar_3b067_22 : decode cJ2_getChar_3b067 22 = .ok (.ldc 54, 2) := by decide +kernel
theorem dJ2_getChar_3b067_24 : decode cJ2_getChar_3b067 24 = .ok (.invokespecial 56, 3) := by decide +kernel
theorem dJ2_getChar_3b067_27 : decode cJ2_getChar_3b067 27 = .ok (.athrow, 1) := by decide +kernel
theorem dJ2_getChar_3b067_28 : decode cJ2_getChar_3b067 28 = .ok (.iload_n 1, 1) := by decide +kernel
theorem dJ2_getChar_3b067_29 : decode cJ2_getChar_3b067 29 = .ok (.iconst 1, 1) := by decide +kernel
theorem dJ2_getChar_3b067_30 : decode cJ2_getChar_3b067 30 = .ok (.ishl, 1) := by decide +kernel
theorem dJ2_getChar_3b067_31 : decode cJ2_getChar_3b067 31 = .ok (.istore_n 1, 1) := by decide +kernel
theorem dJ2_getChar_3b067_32 : decode cJ2_getChar_3b067 32 = .ok (.aload_n 0, 1) := by decide +kernel
theorem dJ2_getChar_3b067_33 : decode cJ2_getChar_3b067 33 = .ok (.iload_n 1, 1) := by decide +kernel
theorem dJ2_getChar_3b067_34 : decode cJ2_getChar_3b067 34 = .ok (.iinc 1 1, 3) := by decide +kernel
theorem dJ2_getChar_3b067_37 : decode cJ2_getChar_3b067 37 = .ok (.baload, 1) := by decide +kernel
theorem dJ2_getChar_3b067_38 : decode cJ2_getChar_3b067 38 = .ok (.sipush 255, 3) := by decide +kernel
theorem dJ2_getChar_3b067_41 : decode cJ2_getChar_3b067 41 = .ok (.iand, 1) := by decide +kernel
theorem dJ2_getChar_3b067_42 : decode cJ2_getChar_3b067 42 = .ok (.getstatic 59, 3) := by decide +kernel
theorem dJ2_getChar_3b067_45 : decode cJ2_getChar_3b067 45 = .ok (.ishl, 1) := by decide +kernel
theorem dJ2_getChar_3b067_46 : decode cJ2_getChar_3b067 46 = .ok (.aload_n 0, 1) := by decide +kernel
theorem dJ2_getChar_3b067_47 : decode cJ2_getChar_3b067 47 = .ok (.iload_n 1, 1) := by decide +kernel
theorem dJ2_getChar_3b067_48 : decode cJ2_getChar_3b067 48 = .ok (.baload, 1) := by decide +kernel
theorem dJ2_getChar_3b067_49 : decode cJ2_getChar_3b067 49 = .ok (.sipush 255, 3) := by decide +kernel
theorem dJ2_getChar_3b067_52 : decode cJ2_getChar_3b067 52 = .ok (.iand, 1) := by decide +kernel
theorem dJ2_getChar_3b067_53 : decode cJ2_getChar_3b067 53 = .ok (.getstatic 63, 3) := by decide +kernel
theorem dJ2_getChar_3b067_56 : decode cJ2_getChar_3b067 56 = .ok (.ishl, 1) := by decide +kernel
theorem dJ2_getChar_3b067_57 : decode cJ2_getChar_3b067 57 = .ok (.ior, 1) := by decide +kernel
theorem dJ2_getChar_3b067_58 : decode cJ2_getChar_3b067 58 = .ok (.i2c, 1) := by decide +kernel
theorem dJ2_getChar_3b067_59 : decode cJ2_getChar_3b067 59 = .ok (.ireturn, 1) := by decide +kernel
theorem dJ2_length_9d52b_0 : decode cJ2_length_9d52b 0 = .ok (.aload_n 0, 1) := by decide +kernel
theorem dJ2_length_9d52b_1 : decode cJ2_length_9d52b 1 = .ok (.arraylength, 1) := by decide +kernel
theorem dJ2_length_9d52b_2 : decode cJ2_length_9d52b 2 = .ok (.iconst 1, 1) := by decide +kernel
theorem dJ2_length_9d52b_3 : decode cJ2_length_9d52b 3 = .ok (.ishr, 1) := by decide +kernel
theorem dJ2_length_9d52b_4 : decode cJ2_length_9d52b 4 = .ok (.ireturn, 1) := by decide +kernel
set_option maxRecDepth 20000 in
theorem ggJ2_charAt_3b067_J2_checkIndex_2214a : GoodIn wsJ2_charAt_3b067 wsJ2_checkIndex_2214a := goodIn_r _ [4, 5, 6, 3, 7, 8, 9, 10, 11, 12, 13, 14, 15, 16] (by decide +kernel) (by decide +kernel)
set_option maxRecDepth 20000 in
theorem gJ2_charAt_3b067_J2_checkIndex_2214a : GoodIn wsJ2_charAt_3b067 (va_wsS RJ2 67 yJ2_checkIndex_2214a wsJ2_checkIndex_2214a) := goodIn_app (goodIn_of _ (by decide +kernel)) ggJ2_charAt_3b067_J2_checkIndex_2214a
set_option maxRecDepth 20000 in
theorem ggJ2_charAt_3b067_J2_getChar_3b067 : GoodIn wsJ2_charAt_3b067 wsJ2_getChar_3b067 := goodIn_r _ [19, 20, 21, 22, 5, 6, 3, 7] (by decide +kernel) (by decide +kernel)
set_option maxRecDepth 20000 in
theorem gJ2_charAt_3b067_J2_getChar_3b067 : GoodIn wsJ2_charAt_3b067 (va_wsS RJ2 71 yJ2_getChar_3b067 wsJ2_getChar_3b067) := goodIn_app (goodIn_of _ (by decide +kernel)) ggJ2_charAt_3b067_J2_getChar_3b067
theorem dJ2_charAt_3b067_0 : decode cJ2_charAt_3b067 0 = .ok (.iload_n 1, 1) := by decide +kernel
theorem dJ2_charAt_3b067_1 : decode cJ2_charAt_3b067 1 = .ok (.aload_n 0, 1) := by decide +kernel
theorem dJ2_charAt_3b067_2 : decode cJ2_charAt_3b067 2 = .ok (.invokestatic 67, 3) := by decide +kernel
theorem dJ2_charAt_3b067_5 : decode cJ2_charAt_3b067 5 = .ok (.aload_n 0, 1) := by decide +kernel
theorem dJ2_charAt_3b067_6 : decode cJ2_charAt_3b067 6 = .ok (.iload_n 1, 1) := by decide +kernel
theorem dJ2_charAt_3b067_7 : decode cJ2_charAt_3b067 7 = .ok (.invokestatic 71, 3) := by decide +kernel
theorem dJ2_charAt_3b067_10 : decode cJ2_charAt_3b067 10 = .ok (.ireturn, 1) := by decide +kernel
set_option maxRecDepth 20000 in
theorem ggJ2_checkIndex_2214a_J2_length_9d52b : GoodIn wsJ2_checkIndex_2214a wsJ2_length_9d52b := goodIn_r _ [4] (by decide +kernel) (by decide +kernel)
set_option maxRecDepth 20000 in
theorem gJ2_checkIndex_2214a_J2_length_9d52b : GoodIn wsJ2_checkIndex_2214a (va_wsS RJ2 48 yJ2_length_9d52b wsJ2_length_9d52b) := goodIn_app (goodIn_of _ (by decide +kernel)) ggJ2_checkIndex_2214a_J2_length_9d52b
set_option maxRecDepth 20000 in
theorem ggJ2_checkIndex_2214a_J0_checkIndex_df160 : GoodIn wsJ2_checkIndex_2214a wsJ0_checkIndex_df160 := goodIn_r _ [8, 9, 10, 11, 12, 13] (by decide +kernel) (by decide +kernel)
set_option maxRecDepth 20000 in
theorem gJ2_checkIndex_2214a_J0_checkIndex_df160 : GoodIn wsJ2_checkIndex_2214a (va_wsS RJ2 414 yJ0_checkIndex_df160 wsJ0_checkIndex_df160) := goodIn_app (goodIn_of _ (by decide +kernel)) ggJ2_checkIndex_2214a_J0_checkIndex_df160
theorem dJ2_checkIndex_2214a_0 : decode cJ2_checkIndex_2214a 0 = .ok (.iload_n 0, 1) := by decide +kernel
theorem dJ2_checkIndex_2214a_1 : decode cJ2_checkIndex_2214a 1 = .ok (.aload_n 1, 1) := by decide +kernel
theorem dJ2_checkIndex_2214a_2 : decode cJ2_checkIndex_2214a 2 = .ok (.invokestatic 48, 3) := by decide +kernel
theorem dJ2_checkIndex_2214a_5 : decode cJ2_checkIndex_2214a 5 = .ok (.invokestatic 414, 3) := by decide +kernel
theorem dJ2_checkIndex_2214a_8 : decode cJ2_checkIndex_2214a 8 = .ok (.return_, 1) := by decide +kernel
theorem dJ7_fill_d0a16_0 : decode cJ7_fill_d0a16 0 = .ok (.iconst 0, 1) := by decide +kernel
theorem dJ7_fill_d0a16_1 : decode cJ7_fill_d0a16 1 = .ok (.istore_n 3, 1) := by decide +kernel
theorem dJ7_fill_d0a16_2 : decode cJ7_fill_d0a16 2 = .ok (.aload_n 0, 1) := by decide +kernel
theorem dJ7_fill_d0a16_3 : decode cJ7_fill_d0a16 3 = .ok (.arraylength, 1) := by decide +kernel
theorem dJ7_fill_d0a16_4 : decode cJ7_fill_d0a16 4 = .ok (.istore 4, 2) := by decide +kernel
theorem dJ7_fill_d0a16_6 : decode cJ7_fill_d0a16 6 = .ok (.iload_n 3, 1) := by decide +kernel
theorem dJ7_fill_d0a16_7 : decode cJ7_fill_d0a16 7 = .ok (.iload 4, 2) := by decide +kernel
theorem dJ7_fill_d0a16_9 : decode cJ7_fill_d0a16 9 = .ok (.if_icmp .ge 13, 3) := by decide +kernel
theorem dJ7_fill_d0a16_12 : decode cJ7_fill_d0a16 12 = .ok (.aload_n 0, 1) := by decide +kernel
theorem dJ7_fill_d0a16_13 : decode cJ7_fill_d0a16 13 = .ok (.iload_n 3, 1) := by decide +kernel
theorem dJ7_fill_d0a16_14 : decode cJ7_fill_d0a16 14 = .ok (.lload_n 1, 1) := by decide +kernel
theorem dJ7_fill_d0a16_15 : decode cJ7_fill_d0a16 15 = .ok (.lastore, 1) := by decide +kernel
theorem dJ7_fill_d0a16_16 : decode cJ7_fill_d0a16 16 = .ok (.iinc 3 1, 3) := by decide +kernel
theorem dJ7_fill_d0a16_19 : decode cJ7_fill_d0a16 19 = .ok (.goto (-13), 3) := by decide +kernel
theorem dJ7_fill_d0a16_22 : decode cJ7_fill_d0a16 22 = .ok (.return_, 1) := by decide +kernel
theorem dJ7_fill_53178_0 : decode cJ7_fill_53178 0 = .ok (.iconst 0, 1) := by decide +kernel
theorem dJ7_fill_53178_1 : decode cJ7_fill_53178 1 = .ok (.istore_n 2, 1) := by decide +kernel
theorem dJ7_fill_53178_2 : decode cJ7_fill_53178 2 = .ok (.aload_n 0, 1) := by decide +kernel
theorem dJ7_fill_53178_3 : decode cJ7_fill_53178 3 = .ok (.arraylength, 1) := by decide +kernel
theorem dJ7_fill_53178_4 : decode cJ7_fill_53178 4 = .ok (.istore_n 3, 1) := by decide +kernel
theorem dJ7_fill_53178_5 : decode cJ7_fill_53178 5 = .ok (.iload_n 2, 1) := by decide +kernel
theorem dJ7_fill_53178_6 : decode cJ7_fill_53178 6 = .ok (.iload_n 3, 1) := by decide +kernel
theorem dJ7_fill_53178_7 : decode cJ7_fill_53178 7 = .ok (.if_icmp .ge 13, 3) := by decide +kernel
theorem dJ7_fill_53178_10 : decode cJ7_fill_53178 10 = .ok (.aload_n 0, 1) := by decide +kernel
theorem dJ7_fill_53178_11 : decode cJ7_fill_53178 11 = .ok (.iload_n 2, 1) := by decide +kernel
theorem dJ7_fill_53178_12 : decode cJ7_fill_53178 12 = .ok (.iload_n 1, 1) := by decide +kernel
theorem dJ7_fill_53178_13 : decode cJ7_fill_53178 13 = .ok (.iastore, 1) := by decide +kernel
theorem dJ7_fill_53178_14 : decode cJ7_fill_53178 14 = .ok (.iinc 2 1, 3) := by decide +kernel
theorem dJ7_fill_53178_17 : decode cJ7_fill_53178 17 = .ok (.goto (-12), 3) := by decide +kernel
theorem dJ7_fill_53178_20 : decode cJ7_fill_53178 20 = .ok (.return_, 1) := by decide +kernel
theorem dJ3_checkIndex_8e157_0 : decode cJ3_checkIndex_8e157 0 = .ok (.iload_n 0, 1) := by decide +kernel
theorem dJ3_checkIndex_8e157_1 : decode cJ3_checkIndex_8e157 1 = .ok (.ifCond .lt 8, 3) := by decide +kernel
theorem dJ3_checkIndex_8e157_4 : decode cJ3_checkIndex_8e157 4 = .ok (.iload_n 0, 1) := by decide +kernel
theorem dJ3_checkIndex_8e157_5 : decode cJ3_checkIndex_8e157 5 = .ok (.iload_n 1, 1) := by decide +kernel
theorem dJ3_checkIndex_8e157_6 : decode cJ3_checkIndex_8e157 6 = .ok (.if_icmp .lt 10, 3) := by decide +kernel
theorem dJ3_checkIndex_8e157_9 : decode cJ3_checkIndex_8e157 9 = .ok (.aload_n 2, 1) := by decide +kernel
theorem dJ3_checkIndex_8e157_10 : decode cJ3_checkIndex_8e157 10 = .ok (.iload_n 0, 1) := by decide +kernel
theorem dJ3_checkIndex_8e157_11 : decode cJ3_checkIndex_8e157 11 = .ok (.iload_n 1, 1) := by decide +kernel
theorem dJ3_checkIndex_8e157_12 : decode cJ3_checkIndex_8e157 12 = .ok (.invokestatic 95, 3) := by decide +kernel
theorem dJ3_checkIndex_8e157_15 : decode cJ3_checkIndex_8e157 15 = .ok (.athrow, 1) := by decide +kernel
theorem dJ3_checkIndex_8e157_16 : decode cJ3_checkIndex_8e157 16 = .ok (.iload_n 0, 1) := by decide +kernel
theorem dJ3_checkIndex_8e157_17 : decode cJ3_checkIndex_8e157 17 = .ok (.ireturn, 1) := by decide +kernel
set_option maxRecDepth 20000 in
theorem ggL_law_X6_init : GoodIn wsL_law wsX6_init := goodIn_r _ [9, 10, 11, 12, 13, 14, 15, 16, 17, 18, 19, 20, 21, 22, 23, 24, 25, 26, 27, 28, 29, 30, 31, 32, 33, 34, 35, 36, 37, 38, 39, 40, 41, 42, 43, 44, 45, 46, 47, 48, 49, 50, 51, 52, 53, 54, 55, 56, 57, 58, 59, 60, 61, 62, 63, 64, 65, 66, 67, 68, 69, 70, 71, 72, 73, 74, 75, 76, 904, 905, 906, 868, 869, 870, 871, 872, 873, 874, 875, 907, 908, 909, 910, 911, 912, 913, 914, 915, 916, 917, 918, 919, 920, 921, 922, 923, 924, 925] (by decide +kernel) (by decide +kernel)
set_option maxRecDepth 20000 in
theorem gL_law_X6_init : GoodIn wsL_law (wsX6_init) := ggL_law_X6_init
set_option maxRecDepth 20000 in
theorem ggL_law_X7_init : GoodIn wsL_law wsX7_init := goodIn_r _ [79, 80, 11, 12, 41, 81, 82, 83, 84, 85, 86, 87, 88, 89, 90, 91, 69, 92, 93, 94, 876, 877, 878, 879, 880, 881, 882, 883, 884, 885, 886, 887, 888, 889, 890, 891, 892, 893, 894, 895, 896, 897, 898, 899, 900, 901, 902, 903] (by decide +kernel) (by decide +kernel)
set_option maxRecDepth 20000 in
theorem gL_law_X7_init : GoodIn wsL_law (wsX7_init) := ggL_law_X7_init
set_option maxRecDepth 20000 in
theorem ggL_law_X6_sheet : GoodIn wsL_law wsX6_sheet := goodIn_r _ [98, 99, 100, 101, 16, 102, 103, 2, 104, 105, 106, 107, 15, 108, 42, 43, 45, 46, 47, 48, 49, 868, 869, 870, 871, 872, 873, 874, 875, 904, 905, 906] (by decide +kernel) (by decide +kernel)
set_option maxRecDepth 20000 in
theorem gL_law_X6_sheet : GoodIn wsL_law (wsV RL 13 RX6 yX6_sheet wsX6_sheet) := goodIn_app (goodIn_of _ (by decide +kernel)) ggL_law_X6_sheet
set_option maxRecDepth 20000 in
theorem ggL_law_X7_sheet : GoodIn wsL_law wsX7_sheet := goodIn_r _ [112, 113, 114, 115, 116, 81, 82, 83, 117, 118, 5, 119, 120, 121, 122, 123, 124, 125, 126, 127, 128, 876, 877, 878, 879, 880, 881, 882, 883, 884, 885, 886, 887, 888, 889, 890, 891, 892, 893, 894, 895, 896, 897, 898, 899, 900, 901, 902, 903] (by decide +kernel) (by decide +kernel)
set_option maxRecDepth 20000 in
theorem gL_law_X7_sheet : GoodIn wsL_law (wsV RL 17 RX7 yX7_sheet wsX7_sheet) := goodIn_app (goodIn_of _ (by decide +kernel)) ggL_law_X7_sheet
set_option maxRecDepth 20000 in
theorem ggL_law_X6_set : GoodIn wsL_law wsX6_set := goodIn_r _ [132, 99, 16, 100, 101, 102, 103, 2, 104, 133, 134, 135, 15, 136, 137, 138, 139, 140, 42, 141, 142, 143, 144, 43, 145, 146, 147, 148, 45, 149, 150, 151, 868, 869, 870, 871, 872, 873, 874, 875, 904, 905, 906] (by decide +kernel) (by decide +kernel)
set_option maxRecDepth 20000 in
theorem gL_law_X6_set : GoodIn wsL_law (wsV RL 18 RX6 yX6_set wsX6_set) := goodIn_app (goodIn_of _ (by decide +kernel)) ggL_law_X6_set
set_option maxRecDepth 20000 in
theorem ggL_law_X7_set : GoodIn wsL_law wsX7_set := goodIn_r _ [155, 113, 115, 116, 81, 82, 83, 117, 118, 5, 119, 120, 121, 122, 123, 124, 125, 126, 127, 128, 876, 877, 878, 879, 880, 881, 882, 883, 884, 885, 886, 887, 888, 889, 890, 891, 892, 893, 894, 895, 896, 897, 898, 899, 900, 901, 902, 903] (by decide +kernel) (by decide +kernel)
set_option maxRecDepth 20000 in
theorem gL_law_X7_set : GoodIn wsL_law (wsV RL 21 RX7 yX7_set wsX7_set) := goodIn_app (goodIn_of _ (by decide +kernel)) ggL_law_X7_set
set_option maxRecDepth 20000 in
theorem ggL_law_X6_copy : GoodIn wsL_law wsX6_copy := goodIn_r _ [159, 99, 16, 100, 101, 102, 103, 2, 104, 160, 161, 162, 15, 163, 42, 137, 138, 139, 140, 141, 142, 143, 144, 43, 164, 165, 166, 167, 45, 168, 169, 170, 171, 868, 869, 870, 871, 872, 873, 874, 875, 904, 905, 906] (by decide +kernel) (by decide +kernel)
set_option maxRecDepth 20000 in
theorem gL_law_X6_copy : GoodIn wsL_law (wsV RL 22 RX6 yX6_copy wsX6_copy) := goodIn_app (goodIn_of _ (by decide +kernel)) ggL_law_X6_copy
set_option maxRecDepth 20000 in
theorem ggL_law_X7_copy : GoodIn wsL_law wsX7_copy := goodIn_r _ [175, 113, 115, 116, 81, 82, 83, 117, 118, 5, 119, 120, 121, 122, 123, 124, 125, 126, 127, 128, 876, 877, 878, 879, 880, 881, 882, 883, 884, 885, 886, 887, 888, 889, 890, 891, 892, 893, 894, 895, 896, 897, 898, 899, 900, 901, 902, 903] (by decide +kernel) (by decide +kernel)
set_option maxRecDepth 20000 in
theorem gL_law_X7_copy : GoodIn wsL_law (wsV RL 26 RX7 yX7_copy wsX7_copy) := goodIn_app (goodIn_of _ (by decide +kernel)) ggL_law_X7_copy
set_option maxRecDepth 20000 in
theorem ggL_law_X6_drop : GoodIn wsL_law wsX6_drop := goodIn_r _ [179, 99, 16, 100, 101, 102, 103, 2, 104, 180, 138, 139, 15, 140, 42, 181, 182, 183, 184, 43, 868, 869, 870, 871, 872, 873, 874, 875, 904, 905, 906] (by decide +kernel) (by decide +kernel)
set_option maxRecDepth 20000 in
theorem gL_law_X6_drop : GoodIn wsL_law (wsV RL 27 RX6 yX6_drop wsX6_drop) := goodIn_app (goodIn_of _ (by decide +kernel)) ggL_law_X6_drop
set_option maxRecDepth 20000 in
theorem ggL_law_X7_drop : GoodIn wsL_law wsX7_drop := goodIn_r _ [188, 113, 115, 116, 81, 82, 117, 118, 5, 119, 120, 121, 122, 123, 124, 125, 126, 127, 128, 876, 877, 878, 879, 880, 881, 882, 883, 884, 885, 886, 887, 888, 889, 890, 891, 892, 893, 894, 895, 896, 897, 898, 899, 900, 901, 902, 903] (by decide +kernel) (by decide +kernel)
set_option maxRecDepth 20000 in
theorem gL_law_X7_drop : GoodIn wsL_law (wsV RL 31 RX7 yX7_drop wsX7_drop) := goodIn_app (goodIn_of _ (by decide +kernel)) ggL_law_X7_drop
set_option maxRecDepth 20000 in
theorem ggL_law_X6_post : GoodIn wsL_law wsX6_post := goodIn_r _ [192, 20, 193, 194, 195, 196, 19, 197, 198, 199, 200, 201, 202, 868, 869, 870, 871, 872, 873, 874, 875, 907, 908] (by decide +kernel) (by decide +kernel)
set_option maxRecDepth 20000 in
theorem gL_law_X6_post : GoodIn wsL_law (wsV RL 32 RX6 yX6_post wsX6_post) := goodIn_app (goodIn_of _ (by decide +kernel)) ggL_law_X6_post
set_option maxRecDepth 20000 in
theorem ggL_law_X7_post : GoodIn wsL_law wsX7_post := goodIn_r _ [206, 113, 207, 208, 876, 877, 878, 879, 880, 881, 882, 883, 884, 885, 886, 887, 888, 889, 890, 891, 892, 893, 894, 895, 896, 897, 898, 899, 900, 901, 902, 903] (by decide +kernel) (by decide +kernel)
set_option maxRecDepth 20000 in
theorem gL_law_X7_post : GoodIn wsL_law (wsV RL 36 RX7 yX7_post wsX7_post) := goodIn_app (goodIn_of _ (by decide +kernel)) ggL_law_X7_post
set_option maxRecDepth 20000 in
theorem ggL_law_X6_join : GoodIn wsL_law wsX6_join := goodIn_r _ [212, 99, 20, 213, 214, 215, 2, 216, 217, 218, 219, 19, 220, 198, 221, 222, 223, 224, 53, 225, 226, 227, 228, 868, 869, 870, 871, 872, 873, 874, 875, 907, 908] (by decide +kernel) (by decide +kernel)
set_option maxRecDepth 20000 in
theorem gL_law_X6_join : GoodIn wsL_law (wsV RL 37 RX6 yX6_join wsX6_join) := goodIn_app (goodIn_of _ (by decide +kernel)) ggL_law_X6_join
set_option maxRecDepth 20000 in
theorem ggL_law_X7_join : GoodIn wsL_law wsX7_join := goodIn_r _ [232, 113, 115, 84, 233, 234, 235, 5, 236, 207, 121, 122, 123, 876, 877, 878, 879, 880, 881, 882, 883, 884, 885, 886, 887, 888, 889, 890, 891, 892, 893, 894, 895, 896, 897, 898, 899, 900, 901, 902, 903] (by decide +kernel) (by decide +kernel)
set_option maxRecDepth 20000 in
theorem gL_law_X7_join : GoodIn wsL_law (wsV RL 41 RX7 yX7_join wsX7_join) := goodIn_app (goodIn_of _ (by decide +kernel)) ggL_law_X7_join
set_option maxRecDepth 20000 in
theorem ggL_law_X6_part : GoodIn wsL_law wsX6_part := goodIn_r _ [240, 99, 20, 213, 214, 215, 2, 216, 217, 218, 219, 19, 220, 198, 221, 222, 223, 224, 53, 225, 226, 227, 228, 868, 869, 870, 871, 872, 873, 874, 875, 907, 908] (by decide +kernel) (by decide +kernel)
set_option maxRecDepth 20000 in
theorem gL_law_X6_part : GoodIn wsL_law (wsV RL 42 RX6 yX6_part wsX6_part) := goodIn_app (goodIn_of _ (by decide +kernel)) ggL_law_X6_part
set_option maxRecDepth 20000 in
theorem ggL_law_X7_part : GoodIn wsL_law wsX7_part := goodIn_r _ [244, 113, 115, 84, 233, 234, 235, 5, 236, 207, 121, 122, 123, 876, 877, 878, 879, 880, 881, 882, 883, 884, 885, 886, 887, 888, 889, 890, 891, 892, 893, 894, 895, 896, 897, 898, 899, 900, 901, 902, 903] (by decide +kernel) (by decide +kernel)
set_option maxRecDepth 20000 in
theorem gL_law_X7_part : GoodIn wsL_law (wsV RL 45 RX7 yX7_part wsX7_part) := goodIn_app (goodIn_of _ (by decide +kernel)) ggL_law_X7_part
set_option maxRecDepth 20000 in
theorem ggL_law_X6_far : GoodIn wsL_law wsX6_far := goodIn_r _ [248, 20, 99, 217, 218, 219, 19, 220, 198, 249, 250, 251, 252, 253, 254, 255, 256, 257, 53, 868, 869, 870, 871, 872, 873, 874, 875, 907, 908] (by decide +kernel) (by decide +kernel)
set_option maxRecDepth 20000 in
theorem gL_law_X6_far : GoodIn wsL_law (wsV RL 46 RX6 yX6_far wsX6_far) := goodIn_app (goodIn_of _ (by decide +kernel)) ggL_law_X6_far
set_option maxRecDepth 20000 in
theorem ggL_law_X7_far : GoodIn wsL_law wsX7_far := goodIn_r _ [261, 113, 115, 233, 234, 235, 5, 236, 207, 121, 122, 123, 262, 263, 264, 265, 266, 267, 268, 269, 270, 84, 876, 877, 878, 879, 880, 881, 882, 883, 884, 885, 886, 887, 888, 889, 890, 891, 892, 893, 894, 895, 896, 897, 898, 899, 900, 901, 902, 903] (by decide +kernel) (by decide +kernel)
set_option maxRecDepth 20000 in
theorem gL_law_X7_far : GoodIn wsL_law (wsV RL 49 RX7 yX7_far wsX7_far) := goodIn_app (goodIn_of _ (by decide +kernel)) ggL_law_X7_far
set_option maxRecDepth 20000 in
theorem ggL_law_X6_told : GoodIn wsL_law wsX6_told := goodIn_r _ [274, 20, 99, 217, 218, 219, 19, 220, 198, 275, 276, 277, 278, 53, 279, 280, 281, 282, 283, 284, 285, 286, 287, 288, 289, 290, 291, 292, 293, 254, 255, 256, 257, 294, 295, 296, 297, 868, 869, 870, 871, 872, 873, 874, 875, 907, 908] (by decide +kernel) (by decide +kernel)
set_option maxRecDepth 20000 in
theorem gL_law_X6_told : GoodIn wsL_law (wsV RL 50 RX6 yX6_told wsX6_told) := goodIn_app (goodIn_of _ (by decide +kernel)) ggL_law_X6_told
set_option maxRecDepth 20000 in
theorem ggL_law_X7_told : GoodIn wsL_law wsX7_told := goodIn_r _ [301, 113, 302, 115, 84, 233, 234, 235, 5, 236, 207, 121, 122, 123, 303, 304, 305, 306, 307, 308, 309, 262, 263, 264, 265, 266, 267, 268, 269, 270, 310, 311, 312, 313, 876, 877, 878, 879, 880, 881, 882, 883, 884, 885, 886, 887, 888, 889, 890, 891, 892, 893, 894, 895, 896, 897, 898, 899, 900, 901, 902, 903] (by decide +kernel) (by decide +kernel)
set_option maxRecDepth 20000 in
theorem gL_law_X7_told : GoodIn wsL_law (wsV RL 53 RX7 yX7_told wsX7_told) := goodIn_app (goodIn_of _ (by decide +kernel)) ggL_law_X7_told
set_option maxRecDepth 20000 in
theorem ggL_law_X6_hears : GoodIn wsL_law wsX6_hears := goodIn_r _ [317, 20, 99, 318, 319, 2, 320, 321, 322, 323, 19, 324, 325, 326, 327, 328, 198, 329, 330, 331, 332, 53, 868, 869, 870, 871, 872, 873, 874, 875, 907, 908] (by decide +kernel) (by decide +kernel)
set_option maxRecDepth 20000 in
theorem gL_law_X6_hears : GoodIn wsL_law (wsV RL 54 RX6 yX6_hears wsX6_hears) := goodIn_app (goodIn_of _ (by decide +kernel)) ggL_law_X6_hears
set_option maxRecDepth 20000 in
theorem ggL_law_X7_hears : GoodIn wsL_law wsX7_hears := goodIn_r _ [336, 113, 115, 337, 338, 5, 339, 121, 122, 123, 340, 341, 342, 343, 344, 345, 346, 347, 207, 348, 349, 350, 351, 84, 303, 304, 305, 876, 877, 878, 879, 880, 881, 882, 883, 884, 885, 886, 887, 888, 889, 890, 891, 892, 893, 894, 895, 896, 897, 898, 899, 900, 901, 902, 903] (by decide +kernel) (by decide +kernel)
set_option maxRecDepth 20000 in
theorem gL_law_X7_hears : GoodIn wsL_law (wsV RL 57 RX7 yX7_hears wsX7_hears) := goodIn_app (goodIn_of _ (by decide +kernel)) ggL_law_X7_hears
set_option maxRecDepth 20000 in
theorem ggL_law_X6_spreads : GoodIn wsL_law wsX6_spreads := goodIn_r _ [355, 20, 99, 318, 319, 2, 320, 321, 322, 323, 19, 324, 325, 326, 327, 328, 198, 356, 357, 358, 359, 360, 330, 331, 332, 53, 868, 869, 870, 871, 872, 873, 874, 875, 907, 908] (by decide +kernel) (by decide +kernel)
set_option maxRecDepth 20000 in
theorem gL_law_X6_spreads : GoodIn wsL_law (wsV RL 58 RX6 yX6_spreads wsX6_spreads) := goodIn_app (goodIn_of _ (by decide +kernel)) ggL_law_X6_spreads
set_option maxRecDepth 20000 in
theorem ggL_law_X7_spreads : GoodIn wsL_law wsX7_spreads := goodIn_r _ [364, 113, 115, 337, 338, 5, 339, 121, 122, 123, 340, 341, 342, 343, 344, 345, 346, 347, 207, 365, 366, 367, 368, 348, 349, 350, 351, 84, 303, 304, 305, 876, 877, 878, 879, 880, 881, 882, 883, 884, 885, 886, 887, 888, 889, 890, 891, 892, 893, 894, 895, 896, 897, 898, 899, 900, 901, 902, 903] (by decide +kernel) (by decide +kernel)
set_option maxRecDepth 20000 in
theorem gL_law_X7_spreads : GoodIn wsL_law (wsV RL 61 RX7 yX7_spreads wsX7_spreads) := goodIn_app (goodIn_of _ (by decide +kernel)) ggL_law_X7_spreads
set_option maxRecDepth 20000 in
theorem ggL_law_X6_feed : GoodIn wsL_law wsX6_feed := goodIn_r _ [372, 99, 24, 193, 373, 374, 375, 23, 376, 377, 378, 379, 380, 381, 57, 382, 868, 869, 870, 871, 872, 873, 874, 875, 909, 910, 911, 912, 913, 914, 915, 916] (by decide +kernel) (by decide +kernel)
set_option maxRecDepth 20000 in
theorem gL_law_X6_feed : GoodIn wsL_law (wsV RL 64 RX6 yX6_feed wsX6_feed) := goodIn_app (goodIn_of _ (by decide +kernel)) ggL_law_X6_feed
set_option maxRecDepth 20000 in
theorem ggL_law_X7_feed : GoodIn wsL_law wsX7_feed := goodIn_r _ [386, 113, 387, 115, 388, 208, 87, 389, 121, 122, 5, 123, 876, 877, 878, 879, 880, 881, 882, 883, 884, 885, 886, 887, 888, 889, 890, 891, 892, 893, 894, 895, 896, 897, 898, 899, 900, 901, 902, 903] (by decide +kernel) (by decide +kernel)
set_option maxRecDepth 20000 in
theorem gL_law_X7_feed : GoodIn wsL_law (wsV RL 68 RX7 yX7_feed wsX7_feed) := goodIn_app (goodIn_of _ (by decide +kernel)) ggL_law_X7_feed
set_option maxRecDepth 20000 in
theorem ggL_law_X6_schedule : GoodIn wsL_law wsX6_schedule := goodIn_r _ [393, 24, 20, 394, 395, 28, 396, 397, 398, 19, 399, 198, 400, 401, 402, 23, 403, 404, 405, 406, 377, 407, 408, 409, 410, 411, 57, 412, 413, 414, 415, 416, 417, 418, 419, 420, 421, 422, 423, 424, 425, 426, 427, 428, 429, 430, 431, 432, 433, 434, 435, 436, 437, 438, 439, 440, 441, 442, 443, 444, 445, 446, 447, 448, 449, 450, 451, 452, 453, 454, 455, 456, 457, 458, 459, 460, 461, 462, 463, 464, 465, 466, 467, 468, 469, 470, 471, 472, 473, 474, 475, 476, 477, 478, 479, 480, 481, 482, 483, 58, 484, 485, 486, 487, 488, 489, 490, 491, 492, 493, 494, 495, 496, 497, 498, 499, 500, 501, 502, 27, 503, 62, 504, 505, 506, 507, 508, 509, 169, 170, 171, 510, 511, 512, 513, 868, 869, 870, 871, 872, 873, 874, 875, 907, 908, 909, 910, 911, 912, 913, 914, 915, 916, 917, 918] (by decide +kernel) (by decide +kernel)
set_option maxRecDepth 20000 in
theorem gL_law_X6_schedule : GoodIn wsL_law (wsV RL 69 RX6 yX6_schedule wsX6_schedule) := goodIn_app (goodIn_of _ (by decide +kernel)) ggL_law_X6_schedule
set_option maxRecDepth 20000 in
theorem ggL_law_X7_schedule : GoodIn wsL_law wsX7_schedule := goodIn_r _ [517, 113, 388, 518, 519, 520, 521, 522, 523, 524, 525, 526, 85, 86, 527, 528, 529, 5, 530, 531, 266, 532, 533, 534, 535, 536, 87, 537, 538, 539, 540, 541, 542, 543, 544, 545, 546, 547, 548, 549, 207, 550, 551, 552, 553, 554, 555, 556, 557, 558, 559, 560, 561, 876, 877, 878, 879, 880, 881, 882, 883, 884, 885, 886, 887, 888, 889, 890, 891, 892, 893, 894, 895, 896, 897, 898, 899, 900, 901, 902, 903] (by decide +kernel) (by decide +kernel)
set_option maxRecDepth 20000 in
theorem gL_law_X7_schedule : GoodIn wsL_law (wsV RL 72 RX7 yX7_schedule wsX7_schedule) := goodIn_app (goodIn_of _ (by decide +kernel)) ggL_law_X7_schedule
set_option maxRecDepth 20000 in
theorem ggL_law_X6_fault : GoodIn wsL_law wsX6_fault := goodIn_r _ [565, 394, 868, 869, 870, 871, 872, 873, 874, 875] (by decide +kernel) (by decide +kernel)
set_option maxRecDepth 20000 in
theorem gL_law_X6_fault : GoodIn wsL_law (wsV RL 73 RX6 yX6_fault wsX6_fault) := goodIn_app (goodIn_of _ (by decide +kernel)) ggL_law_X6_fault
set_option maxRecDepth 20000 in
theorem ggL_law_X7_fault : GoodIn wsL_law wsX7_fault := goodIn_r _ [569, 113, 523, 876, 877, 878, 879, 880, 881, 882, 883, 884, 885, 886, 887, 888, 889, 890, 891, 892, 893, 894, 895, 896, 897, 898, 899, 900, 901, 902, 903] (by decide +kernel) (by decide +kernel)
set_option maxRecDepth 20000 in
theorem gL_law_X7_fault : GoodIn wsL_law (wsV RL 76 RX7 yX7_fault wsX7_fault) := goodIn_app (goodIn_of _ (by decide +kernel)) ggL_law_X7_fault
set_option maxRecDepth 20000 in
theorem ggL_law_X6_round : GoodIn wsL_law wsX6_round := goodIn_r _ [573, 28, 20, 574, 575, 576, 577, 27, 578, 504, 579, 326, 327, 19, 328, 198, 580, 581, 582, 583, 62, 868, 869, 870, 871, 872, 873, 874, 875, 917, 918, 907, 908] (by decide +kernel) (by decide +kernel)
set_option maxRecDepth 20000 in
theorem gL_law_X6_round : GoodIn wsL_law (wsV RL 77 RX6 yX6_round wsX6_round) := goodIn_app (goodIn_of _ (by decide +kernel)) ggL_law_X6_round
set_option maxRecDepth 20000 in
theorem ggL_law_X7_round : GoodIn wsL_law wsX7_round := goodIn_r _ [587, 113, 526, 266, 121, 122, 5, 123, 588, 589, 590, 591, 85, 344, 345, 346, 347, 207, 876, 877, 878, 879, 880, 881, 882, 883, 884, 885, 886, 887, 888, 889, 890, 891, 892, 893, 894, 895, 896, 897, 898, 899, 900, 901, 902, 903] (by decide +kernel) (by decide +kernel)
set_option maxRecDepth 20000 in
theorem gL_law_X7_round : GoodIn wsL_law (wsV RL 80 RX7 yX7_round wsX7_round) := goodIn_app (goodIn_of _ (by decide +kernel)) ggL_law_X7_round
set_option maxRecDepth 20000 in
theorem ggL_law_X6_run : GoodIn wsL_law wsX6_run := goodIn_r _ [595, 20, 99, 28, 596, 318, 319, 2, 320, 217, 218, 219, 19, 220, 198, 510, 511, 512, 27, 513, 504, 579, 326, 327, 328, 597, 598, 599, 600, 601, 581, 582, 583, 62, 356, 357, 358, 359, 360, 330, 331, 332, 53, 868, 869, 870, 871, 872, 873, 874, 875, 907, 908, 917, 918] (by decide +kernel) (by decide +kernel)
set_option maxRecDepth 20000 in
theorem gL_law_X6_run : GoodIn wsL_law (wsV RL 81 RX6 yX6_run wsX6_run) := goodIn_app (goodIn_of _ (by decide +kernel)) ggL_law_X6_run
set_option maxRecDepth 20000 in
theorem ggL_law_X7_run : GoodIn wsL_law wsX7_run := goodIn_r _ [605, 113, 606, 115, 526, 607, 337, 338, 5, 339, 121, 122, 123, 233, 234, 235, 236, 207, 588, 589, 590, 591, 85, 344, 345, 346, 347, 365, 366, 367, 368, 348, 349, 350, 351, 84, 303, 304, 305, 876, 877, 878, 879, 880, 881, 882, 883, 884, 885, 886, 887, 888, 889, 890, 891, 892, 893, 894, 895, 896, 897, 898, 899, 900, 901, 902, 903] (by decide +kernel) (by decide +kernel)
set_option maxRecDepth 20000 in
theorem gL_law_X7_run : GoodIn wsL_law (wsV RL 84 RX7 yX7_run wsX7_run) := goodIn_app (goodIn_of _ (by decide +kernel)) ggL_law_X7_run
set_option maxRecDepth 20000 in
theorem ggL_law_X6_least : GoodIn wsL_law wsX6_least := goodIn_r _ [611, 20, 99, 32, 318, 319, 2, 320, 321, 322, 323, 19, 324, 325, 326, 327, 328, 198, 612, 613, 614, 31, 615, 66, 616, 617, 330, 331, 332, 53, 294, 295, 296, 297, 254, 255, 256, 257, 618, 619, 620, 621, 67, 622, 623, 624, 625, 626, 627, 628, 629, 630, 631, 632, 633, 634, 635, 636, 637, 868, 869, 870, 871, 872, 873, 874, 875, 907, 908, 919, 920, 921, 922] (by decide +kernel) (by decide +kernel)
set_option maxRecDepth 20000 in
theorem gL_law_X6_least : GoodIn wsL_law (wsV RL 85 RX6 yX6_least wsX6_least) := goodIn_app (goodIn_of _ (by decide +kernel)) ggL_law_X6_least
set_option maxRecDepth 20000 in
theorem ggL_law_X7_least : GoodIn wsL_law wsX7_least := goodIn_r _ [641, 113, 115, 88, 337, 338, 5, 339, 121, 122, 123, 340, 341, 342, 343, 344, 345, 346, 347, 207, 310, 311, 312, 313, 267, 268, 269, 270, 84, 642, 643, 644, 645, 266, 365, 366, 367, 368, 348, 349, 350, 351, 303, 304, 305, 876, 877, 878, 879, 880, 881, 882, 883, 884, 885, 886, 887, 888, 889, 890, 891, 892, 893, 894, 895, 896, 897, 898, 899, 900, 901, 902, 903] (by decide +kernel) (by decide +kernel)
set_option maxRecDepth 20000 in
theorem gL_law_X7_least : GoodIn wsL_law (wsV RL 88 RX7 yX7_least wsX7_least) := goodIn_app (goodIn_of _ (by decide +kernel)) ggL_law_X7_least
set_option maxRecDepth 20000 in
theorem ggL_law_X6_jammed : GoodIn wsL_law wsX6_jammed := goodIn_r _ [649, 20, 99, 28, 596, 32, 318, 319, 2, 320, 217, 218, 219, 19, 220, 198, 510, 511, 512, 27, 513, 504, 612, 613, 614, 31, 615, 66, 616, 326, 327, 328, 617, 330, 331, 332, 53, 650, 651, 652, 653, 68, 654, 655, 295, 296, 297, 254, 255, 256, 257, 656, 47, 48, 49, 657, 598, 599, 600, 601, 581, 582, 583, 62, 658, 659, 660, 661, 626, 627, 628, 629, 868, 869, 870, 871, 872, 873, 874, 875, 907, 908, 917, 918, 919, 920, 921, 922] (by decide +kernel) (by decide +kernel)
set_option maxRecDepth 20000 in
theorem gL_law_X6_jammed : GoodIn wsL_law (wsV RL 89 RX6 yX6_jammed wsX6_jammed) := goodIn_app (goodIn_of _ (by decide +kernel)) ggL_law_X6_jammed
set_option maxRecDepth 20000 in
theorem ggL_law_X7_jammed : GoodIn wsL_law wsX7_jammed := goodIn_r _ [665, 113, 666, 115, 526, 607, 90, 91, 266, 337, 338, 5, 339, 121, 122, 123, 233, 234, 235, 236, 207, 310, 311, 312, 313, 267, 268, 269, 270, 84, 588, 589, 590, 591, 85, 344, 345, 346, 347, 365, 366, 367, 368, 348, 349, 350, 351, 303, 304, 305, 876, 877, 878, 879, 880, 881, 882, 883, 884, 885, 886, 887, 888, 889, 890, 891, 892, 893, 894, 895, 896, 897, 898, 899, 900, 901, 902, 903] (by decide +kernel) (by decide +kernel)
set_option maxRecDepth 20000 in
theorem gL_law_X7_jammed : GoodIn wsL_law (wsV RL 92 RX7 yX7_jammed wsX7_jammed) := goodIn_app (goodIn_of _ (by decide +kernel)) ggL_law_X7_jammed
set_option maxRecDepth 20000 in
theorem ggL_law_X6_draws : GoodIn wsL_law wsX6_draws := goodIn_r _ [670, 20, 671, 32, 318, 319, 2, 320, 217, 218, 219, 19, 220, 198, 612, 613, 614, 31, 615, 66, 616, 326, 327, 328, 617, 330, 331, 332, 53, 672, 673, 674, 675, 70, 655, 295, 296, 297, 254, 255, 256, 257, 676, 677, 48, 678, 679, 397, 398, 399, 680, 681, 682, 683, 684, 685, 686, 687, 688, 280, 281, 282, 283, 284, 285, 868, 869, 870, 871, 872, 873, 874, 875, 907, 908, 919, 920, 921, 922] (by decide +kernel) (by decide +kernel)
set_option maxRecDepth 20000 in
theorem gL_law_X6_draws : GoodIn wsL_law (wsV RL 93 RX6 yX6_draws wsX6_draws) := goodIn_app (goodIn_of _ (by decide +kernel)) ggL_law_X6_draws
set_option maxRecDepth 20000 in
theorem ggL_law_X7_draws : GoodIn wsL_law wsX7_draws := goodIn_r _ [692, 113, 120, 693, 92, 93, 337, 338, 5, 339, 121, 122, 123, 233, 234, 235, 236, 207, 344, 345, 346, 347, 365, 366, 367, 368, 348, 349, 350, 351, 84, 303, 304, 305, 310, 311, 312, 313, 267, 268, 269, 270, 876, 877, 878, 879, 880, 881, 882, 883, 884, 885, 886, 887, 888, 889, 890, 891, 892, 893, 894, 895, 896, 897, 898, 899, 900, 901, 902, 903] (by decide +kernel) (by decide +kernel)
set_option maxRecDepth 20000 in
theorem gL_law_X7_draws : GoodIn wsL_law (wsV RL 97 RX7 yX7_draws wsX7_draws) := goodIn_app (goodIn_of _ (by decide +kernel)) ggL_law_X7_draws
set_option maxRecDepth 20000 in
theorem ggL_law_X6_picks : GoodIn wsL_law wsX6_picks := goodIn_r _ [697, 99, 16, 100, 101, 574, 102, 103, 2, 104, 133, 134, 135, 15, 136, 137, 138, 139, 140, 42, 141, 142, 143, 144, 43, 698, 699, 700, 701, 20, 579, 326, 327, 19, 328, 198, 702, 280, 281, 282, 283, 284, 285, 703, 704, 705, 706, 45, 707, 868, 869, 870, 871, 872, 873, 874, 875, 904, 905, 906, 907, 908] (by decide +kernel) (by decide +kernel)
set_option maxRecDepth 20000 in
theorem gL_law_X6_picks : GoodIn wsL_law (wsV RL 98 RX6 yX6_picks wsX6_picks) := goodIn_app (goodIn_of _ (by decide +kernel)) ggL_law_X6_picks
set_option maxRecDepth 20000 in
theorem ggL_law_X7_picks : GoodIn wsL_law wsX7_picks := goodIn_r _ [711, 113, 712, 713, 115, 116, 81, 82, 83, 266, 117, 118, 5, 119, 120, 121, 122, 123, 124, 125, 126, 127, 128, 344, 345, 346, 347, 207, 303, 304, 305, 876, 877, 878, 879, 880, 881, 882, 883, 884, 885, 886, 887, 888, 889, 890, 891, 892, 893, 894, 895, 896, 897, 898, 899, 900, 901, 902, 903] (by decide +kernel) (by decide +kernel)
set_option maxRecDepth 20000 in
theorem gL_law_X7_picks : GoodIn wsL_law (wsV RL 101 RX7 yX7_picks wsX7_picks) := goodIn_app (goodIn_of _ (by decide +kernel)) ggL_law_X7_picks
set_option maxRecDepth 20000 in
theorem ggL_law_X6_kind : GoodIn wsL_law wsX6_kind := goodIn_r _ [717, 20, 99, 217, 218, 219, 19, 220, 198, 718, 719, 720, 721, 722, 276, 277, 278, 53, 279, 280, 281, 282, 283, 284, 285, 723, 724, 725, 726, 727, 728, 628, 729, 868, 869, 870, 871, 872, 873, 874, 875, 907, 908] (by decide +kernel) (by decide +kernel)
set_option maxRecDepth 20000 in
theorem gL_law_X6_kind : GoodIn wsL_law (wsV RL 102 RX6 yX6_kind wsX6_kind) := goodIn_app (goodIn_of _ (by decide +kernel)) ggL_law_X6_kind
set_option maxRecDepth 20000 in
theorem ggL_law_X7_kind : GoodIn wsL_law wsX7_kind := goodIn_r _ [733, 113, 115, 233, 234, 235, 5, 236, 207, 121, 122, 123, 734, 735, 736, 737, 84, 303, 304, 305, 876, 877, 878, 879, 880, 881, 882, 883, 884, 885, 886, 887, 888, 889, 890, 891, 892, 893, 894, 895, 896, 897, 898, 899, 900, 901, 902, 903] (by decide +kernel) (by decide +kernel)
set_option maxRecDepth 20000 in
theorem gL_law_X7_kind : GoodIn wsL_law (wsV RL 105 RX7 yX7_kind wsX7_kind) := goodIn_app (goodIn_of _ (by decide +kernel)) ggL_law_X7_kind
set_option maxRecDepth 20000 in
theorem ggL_law_X6_as : GoodIn wsL_law wsX6_as := goodIn_r _ [741, 20, 99, 100, 101, 217, 218, 219, 19, 220, 198, 742, 743, 744, 745, 746, 719, 720, 721, 722, 276, 277, 278, 53, 279, 280, 281, 282, 283, 284, 285, 723, 724, 725, 726, 727, 728, 628, 729, 275, 868, 869, 870, 871, 872, 873, 874, 875, 907, 908] (by decide +kernel) (by decide +kernel)
set_option maxRecDepth 20000 in
theorem gL_law_X6_as : GoodIn wsL_law (wsV RL 106 RX6 yX6_as wsX6_as) := goodIn_app (goodIn_of _ (by decide +kernel)) ggL_law_X6_as
set_option maxRecDepth 20000 in
theorem ggL_law_X7_as : GoodIn wsL_law wsX7_as := goodIn_r _ [750, 113, 713, 115, 116, 84, 233, 234, 235, 5, 236, 207, 121, 122, 123, 734, 735, 736, 737, 303, 304, 305, 751, 752, 753, 124, 125, 126, 127, 128, 876, 877, 878, 879, 880, 881, 882, 883, 884, 885, 886, 887, 888, 889, 890, 891, 892, 893, 894, 895, 896, 897, 898, 899, 900, 901, 902, 903] (by decide +kernel) (by decide +kernel)
set_option maxRecDepth 20000 in
theorem gL_law_X7_as : GoodIn wsL_law (wsV RL 109 RX7 yX7_as wsX7_as) := goodIn_app (goodIn_of _ (by decide +kernel)) ggL_law_X7_as
set_option maxRecDepth 20000 in
theorem ggL_law_X6_ask : GoodIn wsL_law wsX6_ask := goodIn_r _ [757, 20, 99, 36, 217, 218, 219, 19, 220, 198, 758, 759, 760, 35, 761, 762, 763, 764, 765, 766, 76, 767, 719, 720, 721, 722, 276, 277, 278, 53, 279, 280, 281, 282, 283, 284, 285, 723, 724, 725, 726, 727, 728, 628, 729, 768, 769, 770, 771, 772, 773, 774, 775, 75, 776, 777, 778, 779, 780, 781, 782, 783, 784, 785, 291, 292, 293, 254, 255, 256, 257, 786, 787, 788, 789, 790, 791, 792, 793, 794, 795, 796, 797, 798, 799, 800, 801, 802, 803, 804, 805, 868, 869, 870, 871, 872, 873, 874, 875, 907, 908, 923, 924, 925] (by decide +kernel) (by decide +kernel)
set_option maxRecDepth 20000 in
theorem gL_law_X6_ask : GoodIn wsL_law (wsV RL 110 RX6 yX6_ask wsX6_ask) := goodIn_app (goodIn_of _ (by decide +kernel)) ggL_law_X6_ask
set_option maxRecDepth 20000 in
theorem ggL_law_X7_ask : GoodIn wsL_law wsX7_ask := goodIn_r _ [809, 113, 115, 810, 233, 234, 235, 5, 236, 207, 121, 122, 123, 811, 812, 813, 814, 84, 734, 735, 736, 737, 303, 304, 305, 815, 816, 817, 818, 94, 306, 307, 308, 309, 262, 263, 264, 265, 266, 267, 268, 269, 270, 819, 820, 821, 822, 876, 877, 878, 879, 880, 881, 882, 883, 884, 885, 886, 887, 888, 889, 890, 891, 892, 893, 894, 895, 896, 897, 898, 899, 900, 901, 902, 903] (by decide +kernel) (by decide +kernel)
set_option maxRecDepth 20000 in
theorem gL_law_X7_ask : GoodIn wsL_law (wsV RL 113 RX7 yX7_ask wsX7_ask) := goodIn_app (goodIn_of _ (by decide +kernel)) ggL_law_X7_ask
set_option maxRecDepth 20000 in
theorem ggL_law_X6_trace : GoodIn wsL_law wsX6_trace := goodIn_r _ [826, 36, 827, 828, 829, 35, 830, 762, 75, 831, 868, 869, 870, 871, 872, 873, 874, 875, 923, 924, 925] (by decide +kernel) (by decide +kernel)
set_option maxRecDepth 20000 in
theorem gL_law_X6_trace : GoodIn wsL_law (wsV RL 114 RX6 yX6_trace wsX6_trace) := goodIn_app (goodIn_of _ (by decide +kernel)) ggL_law_X6_trace
set_option maxRecDepth 20000 in
theorem ggL_law_X7_trace : GoodIn wsL_law wsX7_trace := goodIn_r _ [835, 113, 810, 94, 266, 121, 122, 5, 123, 876, 877, 878, 879, 880, 881, 882, 883, 884, 885, 886, 887, 888, 889, 890, 891, 892, 893, 894, 895, 896, 897, 898, 899, 900, 901, 902, 903] (by decide +kernel) (by decide +kernel)
set_option maxRecDepth 20000 in
theorem gL_law_X7_trace : GoodIn wsL_law (wsV RL 117 RX7 yX7_trace wsX7_trace) := goodIn_app (goodIn_of _ (by decide +kernel)) ggL_law_X7_trace
set_option maxRecDepth 20000 in
theorem ggL_law_X6_count : GoodIn wsL_law wsX6_count := goodIn_r _ [839, 16, 20, 28, 24, 99, 840, 841, 842, 15, 843, 137, 138, 139, 140, 42, 396, 397, 398, 19, 399, 198, 844, 845, 846, 847, 722, 276, 277, 278, 53, 279, 280, 281, 282, 283, 284, 285, 510, 511, 512, 27, 513, 504, 848, 849, 850, 851, 746, 719, 720, 721, 723, 724, 725, 726, 727, 728, 628, 729, 852, 853, 854, 23, 855, 377, 868, 869, 870, 871, 872, 873, 874, 875, 904, 905, 906, 907, 908, 917, 918, 909, 910, 911, 912, 913, 914, 915, 916] (by decide +kernel) (by decide +kernel)
set_option maxRecDepth 20000 in
theorem gL_law_X6_count : GoodIn wsL_law (wsV RL 118 RX6 yX6_count wsX6_count) := goodIn_app (goodIn_of _ (by decide +kernel)) ggL_law_X6_count
set_option maxRecDepth 20000 in
theorem ggL_law_X7_count : GoodIn wsL_law wsX7_count := goodIn_r _ [859, 113, 81, 207, 84, 526, 388, 115, 303, 304, 5, 305, 734, 735, 736, 737, 876, 877, 878, 879, 880, 881, 882, 883, 884, 885, 886, 887, 888, 889, 890, 891, 892, 893, 894, 895, 896, 897, 898, 899, 900, 901, 902, 903] (by decide +kernel) (by decide +kernel)
set_option maxRecDepth 20000 in
theorem gL_law_X7_count : GoodIn wsL_law (wsV RL 121 RX7 yX7_count wsX7_count) := goodIn_app (goodIn_of _ (by decide +kernel)) ggL_law_X7_count
set_option maxRecDepth 20000 in
theorem ggL_law_X6_status : GoodIn wsL_law wsX6_status := goodIn_r _ [863, 100, 868, 869, 870, 871, 872, 873, 874, 875] (by decide +kernel) (by decide +kernel)
set_option maxRecDepth 20000 in
theorem gL_law_X6_status : GoodIn wsL_law (wsV RL 122 RX6 yX6_status wsX6_status) := goodIn_app (goodIn_of _ (by decide +kernel)) ggL_law_X6_status
set_option maxRecDepth 20000 in
theorem ggL_law_X7_status : GoodIn wsL_law wsX7_status := goodIn_r _ [867, 113, 116, 876, 877, 878, 879, 880, 881, 882, 883, 884, 885, 886, 887, 888, 889, 890, 891, 892, 893, 894, 895, 896, 897, 898, 899, 900, 901, 902, 903] (by decide +kernel) (by decide +kernel)
set_option maxRecDepth 20000 in
theorem gL_law_X7_status : GoodIn wsL_law (wsV RL 125 RX7 yX7_status wsX7_status) := goodIn_app (goodIn_of _ (by decide +kernel)) ggL_law_X7_status
theorem dL_law_0 : decode cL_law 0 = .ok (.new 7, 3) := by decide +kernel
theorem dL_law_3 : decode cL_law 3 = .ok (.dup, 1) := by decide +kernel
theorem dL_law_4 : decode cL_law 4 = .ok (.invokespecial 9, 3) := by decide +kernel
theorem dL_law_7 : decode cL_law 7 = .ok (.astore_n 1, 1) := by decide +kernel
theorem dL_law_8 : decode cL_law 8 = .ok (.new 10, 3) := by decide +kernel
theorem dL_law_11 : decode cL_law 11 = .ok (.dup, 1) := by decide +kernel
theorem dL_law_12 : decode cL_law 12 = .ok (.invokespecial 12, 3) := by decide +kernel
theorem dL_law_15 : decode cL_law 15 = .ok (.astore_n 2, 1) := by decide +kernel
theorem dL_law_16 : decode cL_law 16 = .ok (.iconst 0, 1) := by decide +kernel
theorem dL_law_17 : decode cL_law 17 = .ok (.istore_n 3, 1) := by decide +kernel
theorem dL_law_18 : decode cL_law 18 = .ok (.iload_n 3, 1) := by decide +kernel
theorem dL_law_19 : decode cL_law 19 = .ok (.aload_n 0, 1) := by decide +kernel
theorem dL_law_20 : decode cL_law 20 = .ok (.arraylength, 1) := by decide +kernel
theorem dL_law_21 : decode cL_law 21 = .ok (.bipush 6, 2) := by decide +kernel
theorem dL_law_23 : decode cL_law 23 = .ok (.isub, 1) := by decide +kernel
theorem dL_law_24 : decode cL_law 24 = .ok (.if_icmp .gt 1023, 3) := by decide +kernel
theorem dL_law_27 : decode cL_law 27 = .ok (.aload_n 0, 1) := by decide +kernel
theorem dL_law_28 : decode cL_law 28 = .ok (.iload_n 3, 1) := by decide +kernel
theorem dL_law_29 : decode cL_law 29 = .ok (.iaload, 1) := by decide +kernel
theorem dL_law_30 : decode cL_law 30 = .ok (.bipush 31, 2) := by decide +kernel
theorem dL_law_32 : decode cL_law 32 = .ok (.iand, 1) := by decide +kernel
theorem dL_law_33 : decode cL_law 33 = .ok (.tableswitch 1008 0 25 #[119, 162, 205, 268, 291, 304, 337, 370, 403, 436, 469, 512, 575, 588, 601, 624, 667, 710, 753, 797, 860, 883, 916, 949, 972, 995], 119) := by decide +kernel
theorem dL_law_152 : decode cL_law 152 = .ok (.aload_n 1, 1) := by decide +kernel
theorem dL_law_153 : decode cL_law 153 = .ok (.aload_n 0, 1) := by decide +kernel
theorem dL_law_154 : decode cL_law 154 = .ok (.iload_n 3, 1) := by decide +kernel
theorem dL_law_155 : decode cL_law 155 = .ok (.iconst 1, 1) := by decide +kernel
theorem dL_law_156 : decode cL_law 156 = .ok (.iadd, 1) := by decide +kernel
theorem dL_law_157 : decode cL_law 157 = .ok (.iaload, 1) := by decide +kernel
theorem dL_law_158 : decode cL_law 158 = .ok (.aload_n 0, 1) := by decide +kernel
theorem dL_law_159 : decode cL_law 159 = .ok (.iload_n 3, 1) := by decide +kernel
theorem dL_law_160 : decode cL_law 160 = .ok (.iconst 2, 1) := by decide +kernel
theorem dL_law_161 : decode cL_law 161 = .ok (.iadd, 1) := by decide +kernel
theorem dL_law_162 : decode cL_law 162 = .ok (.iaload, 1) := by decide +kernel
theorem dL_law_163 : decode cL_law 163 = .ok (.aload_n 0, 1) := by decide +kernel
theorem dL_law_164 : decode cL_law 164 = .ok (.iload_n 3, 1) := by decide +kernel
theorem dL_law_165 : decode cL_law 165 = .ok (.iconst 3, 1) := by decide +kernel
theorem dL_law_166 : decode cL_law 166 = .ok (.iadd, 1) := by decide +kernel
theorem dL_law_167 : decode cL_law 167 = .ok (.iaload, 1) := by decide +kernel
theorem dL_law_168 : decode cL_law 168 = .ok (.invokevirtual 13, 3) := by decide +kernel
theorem dL_law_171 : decode cL_law 171 = .ok (.aload_n 2, 1) := by decide +kernel
theorem dL_law_172 : decode cL_law 172 = .ok (.aload_n 0, 1) := by decide +kernel
theorem dL_law_173 : decode cL_law 173 = .ok (.iload_n 3, 1) := by decide +kernel
theorem dL_law_174 : decode cL_law 174 = .ok (.iconst 1, 1) := by decide +kernel
theorem dL_law_175 : decode cL_law 175 = .ok (.iadd, 1) := by decide +kernel
theorem dL_law_176 : decode cL_law 176 = .ok (.iaload, 1) := by decide +kernel
theorem dL_law_177 : decode cL_law 177 = .ok (.aload_n 0, 1) := by decide +kernel
theorem dL_law_178 : decode cL_law 178 = .ok (.iload_n 3, 1) := by decide +kernel
theorem dL_law_179 : decode cL_law 179 = .ok (.iconst 2, 1) := by decide +kernel
theorem dL_law_180 : decode cL_law 180 = .ok (.iadd, 1) := by decide +kernel
theorem dL_law_181 : decode cL_law 181 = .ok (.iaload, 1) := by decide +kernel
theorem dL_law_182 : decode cL_law 182 = .ok (.aload_n 0, 1) := by decide +kernel
theorem dL_law_183 : decode cL_law 183 = .ok (.iload_n 3, 1) := by decide +kernel
theorem dL_law_184 : decode cL_law 184 = .ok (.iconst 3, 1) := by decide +kernel
theorem dL_law_185 : decode cL_law 185 = .ok (.iadd, 1) := by decide +kernel
theorem dL_law_186 : decode cL_law 186 = .ok (.iaload, 1) := by decide +kernel
theorem dL_law_187 : decode cL_law 187 = .ok (.invokevirtual 17, 3) := by decide +kernel
theorem dL_law_190 : decode cL_law 190 = .ok (.if_icmp .eq 851, 3) := by decide +kernel
theorem dL_law_193 : decode cL_law 193 = .ok (.iconst 0, 1) := by decide +kernel
theorem dL_law_194 : decode cL_law 194 = .ok (.ireturn, 1) := by decide +kernel
theorem dL_law_195 : decode cL_law 195 = .ok (.aload_n 1, 1) := by decide +kernel
theorem dL_law_196 : decode cL_law 196 = .ok (.aload_n 0, 1) := by decide +kernel
theorem dL_law_197 : decode cL_law 197 = .ok (.iload_n 3, 1) := by decide +kernel
theorem dL_law_198 : decode cL_law 198 = .ok (.iconst 1, 1) := by decide +kernel
theorem dL_law_199 : decode cL_law 199 = .ok (.iadd, 1) := by decide +kernel
theorem dL_law_200 : decode cL_law 200 = .ok (.iaload, 1) := by decide +kernel
theorem dL_law_201 : decode cL_law 201 = .ok (.aload_n 0, 1) := by decide +kernel
theorem dL_law_202 : decode cL_law 202 = .ok (.iload_n 3, 1) := by decide +kernel
theorem dL_law_203 : decode cL_law 203 = .ok (.iconst 2, 1) := by decide +kernel
theorem dL_law_204 : decode cL_law 204 = .ok (.iadd, 1) := by decide +kernel
theorem dL_law_205 : decode cL_law 205 = .ok (.iaload, 1) := by decide +kernel
theorem dL_law_206 : decode cL_law 206 = .ok (.aload_n 0, 1) := by decide +kernel
theorem dL_law_207 : decode cL_law 207 = .ok (.iload_n 3, 1) := by decide +kernel
theorem dL_law_208 : decode cL_law 208 = .ok (.iconst 3, 1) := by decide +kernel
theorem dL_law_209 : decode cL_law 209 = .ok (.iadd, 1) := by decide +kernel
theorem dL_law_210 : decode cL_law 210 = .ok (.iaload, 1) := by decide +kernel
theorem dL_law_211 : decode cL_law 211 = .ok (.invokevirtual 18, 3) := by decide +kernel
theorem dL_law_214 : decode cL_law 214 = .ok (.aload_n 2, 1) := by decide +kernel
theorem dL_law_215 : decode cL_law 215 = .ok (.aload_n 0, 1) := by decide +kernel
theorem dL_law_216 : decode cL_law 216 = .ok (.iload_n 3, 1) := by decide +kernel
theorem dL_law_217 : decode cL_law 217 = .ok (.iconst 1, 1) := by decide +kernel
theorem dL_law_218 : decode cL_law 218 = .ok (.iadd, 1) := by decide +kernel
theorem dL_law_219 : decode cL_law 219 = .ok (.iaload, 1) := by decide +kernel
theorem dL_law_220 : decode cL_law 220 = .ok (.aload_n 0, 1) := by decide +kernel
theorem dL_law_221 : decode cL_law 221 = .ok (.iload_n 3, 1) := by decide +kernel
theorem dL_law_222 : decode cL_law 222 = .ok (.iconst 2, 1) := by decide +kernel
theorem dL_law_223 : decode cL_law 223 = .ok (.iadd, 1) := by decide +kernel
theorem dL_law_224 : decode cL_law 224 = .ok (.iaload, 1) := by decide +kernel
theorem dL_law_225 : decode cL_law 225 = .ok (.aload_n 0, 1) := by decide +kernel
theorem dL_law_226 : decode cL_law 226 = .ok (.iload_n 3, 1) := by decide +kernel
theorem dL_law_227 : decode cL_law 227 = .ok (.iconst 3, 1) := by decide +kernel
theorem dL_law_228 : decode cL_law 228 = .ok (.iadd, 1) := by decide +kernel
theorem dL_law_229 : decode cL_law 229 = .ok (.iaload, 1) := by decide +kernel
theorem dL_law_230 : decode cL_law 230 = .ok (.invokevirtual 21, 3) := by decide +kernel
theorem dL_law_233 : decode cL_law 233 = .ok (.if_icmp .eq 808, 3) := by decide +kernel
theorem dL_law_236 : decode cL_law 236 = .ok (.iconst 0, 1) := by decide +kernel
theorem dL_law_237 : decode cL_law 237 = .ok (.ireturn, 1) := by decide +kernel
theorem dL_law_238 : decode cL_law 238 = .ok (.aload_n 1, 1) := by decide +kernel
theorem dL_law_239 : decode cL_law 239 = .ok (.aload_n 0, 1) := by decide +kernel
theorem dL_law_240 : decode cL_law 240 = .ok (.iload_n 3, 1) := by decide +kernel
theorem dL_law_241 : decode cL_law 241 = .ok (.iconst 1, 1) := by decide +kernel
theorem dL_law_242 : decode cL_law 242 = .ok (.iadd, 1) := by decide +kernel
theorem dL_law_243 : decode cL_law 243 = .ok (.iaload, 1) := by decide +kernel
theorem dL_law_244 : decode cL_law 244 = .ok (.aload_n 0, 1) := by decide +kernel
theorem dL_law_245 : decode cL_law 245 = .ok (.iload_n 3, 1) := by decide +kernel
theorem dL_law_246 : decode cL_law 246 = .ok (.iconst 2, 1) := by decide +kernel
theorem dL_law_247 : decode cL_law 247 = .ok (.iadd, 1) := by decide +kernel
theorem dL_law_248 : decode cL_law 248 = .ok (.iaload, 1) := by decide +kernel
theorem dL_law_249 : decode cL_law 249 = .ok (.aload_n 0, 1) := by decide +kernel
theorem dL_law_250 : decode cL_law 250 = .ok (.iload_n 3, 1) := by decide +kernel
theorem dL_law_251 : decode cL_law 251 = .ok (.iconst 3, 1) := by decide +kernel
theorem dL_law_252 : decode cL_law 252 = .ok (.iadd, 1) := by decide +kernel
theorem dL_law_253 : decode cL_law 253 = .ok (.iaload, 1) := by decide +kernel
theorem dL_law_254 : decode cL_law 254 = .ok (.aload_n 0, 1) := by decide +kernel
theorem dL_law_255 : decode cL_law 255 = .ok (.iload_n 3, 1) := by decide +kernel
theorem dL_law_256 : decode cL_law 256 = .ok (.iconst 4, 1) := by decide +kernel
theorem dL_law_257 : decode cL_law 257 = .ok (.iadd, 1) := by decide +kernel
theorem dL_law_258 : decode cL_law 258 = .ok (.iaload, 1) := by decide +kernel
theorem dL_law_259 : decode cL_law 259 = .ok (.aload_n 0, 1) := by decide +kernel
theorem dL_law_260 : decode cL_law 260 = .ok (.iload_n 3, 1) := by decide +kernel
theorem dL_law_261 : decode cL_law 261 = .ok (.iconst 5, 1) := by decide +kernel
theorem dL_law_262 : decode cL_law 262 = .ok (.iadd, 1) := by decide +kernel
theorem dL_law_263 : decode cL_law 263 = .ok (.iaload, 1) := by decide +kernel
theorem dL_law_264 : decode cL_law 264 = .ok (.invokevirtual 22, 3) := by decide +kernel
theorem dL_law_267 : decode cL_law 267 = .ok (.aload_n 2, 1) := by decide +kernel
theorem dL_law_268 : decode cL_law 268 = .ok (.aload_n 0, 1) := by decide +kernel
theorem dL_law_269 : decode cL_law 269 = .ok (.iload_n 3, 1) := by decide +kernel
theorem dL_law_270 : decode cL_law 270 = .ok (.iconst 1, 1) := by decide +kernel
theorem dL_law_271 : decode cL_law 271 = .ok (.iadd, 1) := by decide +kernel
theorem dL_law_272 : decode cL_law 272 = .ok (.iaload, 1) := by decide +kernel
theorem dL_law_273 : decode cL_law 273 = .ok (.aload_n 0, 1) := by decide +kernel
theorem dL_law_274 : decode cL_law 274 = .ok (.iload_n 3, 1) := by decide +kernel
theorem dL_law_275 : decode cL_law 275 = .ok (.iconst 2, 1) := by decide +kernel
theorem dL_law_276 : decode cL_law 276 = .ok (.iadd, 1) := by decide +kernel
theorem dL_law_277 : decode cL_law 277 = .ok (.iaload, 1) := by decide +kernel
theorem dL_law_278 : decode cL_law 278 = .ok (.aload_n 0, 1) := by decide +kernel
theorem dL_law_279 : decode cL_law 279 = .ok (.iload_n 3, 1) := by decide +kernel
theorem dL_law_280 : decode cL_law 280 = .ok (.iconst 3, 1) := by decide +kernel
theorem dL_law_281 : decode cL_law 281 = .ok (.iadd, 1) := by decide +kernel
theorem dL_law_282 : decode cL_law 282 = .ok (.iaload, 1) := by decide +kernel
theorem dL_law_283 : decode cL_law 283 = .ok (.aload_n 0, 1) := by decide +kernel
theorem dL_law_284 : decode cL_law 284 = .ok (.iload_n 3, 1) := by decide +kernel
theorem dL_law_285 : decode cL_law 285 = .ok (.iconst 4, 1) := by decide +kernel
theorem dL_law_286 : decode cL_law 286 = .ok (.iadd, 1) := by decide +kernel
theorem dL_law_287 : decode cL_law 287 = .ok (.iaload, 1) := by decide +kernel
theorem dL_law_288 : decode cL_law 288 = .ok (.aload_n 0, 1) := by decide +kernel
theorem dL_law_289 : decode cL_law 289 = .ok (.iload_n 3, 1) := by decide +kernel
theorem dL_law_290 : decode cL_law 290 = .ok (.iconst 5, 1) := by decide +kernel
theorem dL_law_291 : decode cL_law 291 = .ok (.iadd, 1) := by decide +kernel
theorem dL_law_292 : decode cL_law 292 = .ok (.iaload, 1) := by decide +kernel
theorem dL_law_293 : decode cL_law 293 = .ok (.invokevirtual 26, 3) := by decide +kernel
theorem dL_law_296 : decode cL_law 296 = .ok (.if_icmp .eq 745, 3) := by decide +kernel
theorem dL_law_299 : decode cL_law 299 = .ok (.iconst 0, 1) := by decide +kernel
theorem dL_law_300 : decode cL_law 300 = .ok (.ireturn, 1) := by decide +kernel
theorem dL_law_301 : decode cL_law 301 = .ok (.aload_n 1, 1) := by decide +kernel
theorem dL_law_302 : decode cL_law 302 = .ok (.aload_n 0, 1) := by decide +kernel
theorem dL_law_303 : decode cL_law 303 = .ok (.iload_n 3, 1) := by decide +kernel
theorem dL_law_304 : decode cL_law 304 = .ok (.iconst 1, 1) := by decide +kernel
theorem dL_law_305 : decode cL_law 305 = .ok (.iadd, 1) := by decide +kernel
theorem dL_law_306 : decode cL_law 306 = .ok (.iaload, 1) := by decide +kernel
theorem dL_law_307 : decode cL_law 307 = .ok (.invokevirtual 27, 3) := by decide +kernel
theorem dL_law_310 : decode cL_law 310 = .ok (.aload_n 2, 1) := by decide +kernel
theorem dL_law_311 : decode cL_law 311 = .ok (.aload_n 0, 1) := by decide +kernel
theorem dL_law_312 : decode cL_law 312 = .ok (.iload_n 3, 1) := by decide +kernel
theorem dL_law_313 : decode cL_law 313 = .ok (.iconst 1, 1) := by decide +kernel
theorem dL_law_314 : decode cL_law 314 = .ok (.iadd, 1) := by decide +kernel
theorem dL_law_315 : decode cL_law 315 = .ok (.iaload, 1) := by decide +kernel
theorem dL_law_316 : decode cL_law 316 = .ok (.invokevirtual 31, 3) := by decide +kernel
theorem dL_law_319 : decode cL_law 319 = .ok (.if_icmp .eq 722, 3) := by decide +kernel
theorem dL_law_322 : decode cL_law 322 = .ok (.iconst 0, 1) := by decide +kernel
theorem dL_law_323 : decode cL_law 323 = .ok (.ireturn, 1) := by decide +kernel
theorem dL_law_324 : decode cL_law 324 = .ok (.aload_n 1, 1) := by decide +kernel
theorem dL_law_325 : decode cL_law 325 = .ok (.invokevirtual 32, 3) := by decide +kernel
theorem dL_law_328 : decode cL_law 328 = .ok (.aload_n 2, 1) := by decide +kernel
theorem dL_law_329 : decode cL_law 329 = .ok (.invokevirtual 36, 3) := by decide +kernel
theorem dL_law_332 : decode cL_law 332 = .ok (.if_icmp .eq 709, 3) := by decide +kernel
theorem dL_law_335 : decode cL_law 335 = .ok (.iconst 0, 1) := by decide +kernel
theorem dL_law_336 : decode cL_law 336 = .ok (.ireturn, 1) := by decide +kernel
theorem dL_law_337 : decode cL_law 337 = .ok (.aload_n 1, 1) := by decide +kernel
theorem dL_law_338 : decode cL_law 338 = .ok (.aload_n 0, 1) := by decide +kernel
theorem dL_law_339 : decode cL_law 339 = .ok (.iload_n 3, 1) := by decide +kernel
theorem dL_law_340 : decode cL_law 340 = .ok (.iconst 1, 1) := by decide +kernel
theorem dL_law_341 : decode cL_law 341 = .ok (.iadd, 1) := by decide +kernel
theorem dL_law_342 : decode cL_law 342 = .ok (.iaload, 1) := by decide +kernel
theorem dL_law_343 : decode cL_law 343 = .ok (.aload_n 0, 1) := by decide +kernel
theorem dL_law_344 : decode cL_law 344 = .ok (.iload_n 3, 1) := by decide +kernel
theorem dL_law_345 : decode cL_law 345 = .ok (.iconst 2, 1) := by decide +kernel
theorem dL_law_346 : decode cL_law 346 = .ok (.iadd, 1) := by decide +kernel
theorem dL_law_347 : decode cL_law 347 = .ok (.iaload, 1) := by decide +kernel
theorem dL_law_348 : decode cL_law 348 = .ok (.invokevirtual 37, 3) := by decide +kernel
theorem dL_law_351 : decode cL_law 351 = .ok (.aload_n 2, 1) := by decide +kernel
theorem dL_law_352 : decode cL_law 352 = .ok (.aload_n 0, 1) := by decide +kernel
theorem dL_law_353 : decode cL_law 353 = .ok (.iload_n 3, 1) := by decide +kernel
theorem dL_law_354 : decode cL_law 354 = .ok (.iconst 1, 1) := by decide +kernel
theorem dL_law_355 : decode cL_law 355 = .ok (.iadd, 1) := by decide +kernel
theorem dL_law_356 : decode cL_law 356 = .ok (.iaload, 1) := by decide +kernel
theorem dL_law_357 : decode cL_law 357 = .ok (.aload_n 0, 1) := by decide +kernel
theorem dL_law_358 : decode cL_law 358 = .ok (.iload_n 3, 1) := by decide +kernel
theorem dL_law_359 : decode cL_law 359 = .ok (.iconst 2, 1) := by decide +kernel
theorem dL_law_360 : decode cL_law 360 = .ok (.iadd, 1) := by decide +kernel
theorem dL_law_361 : decode cL_law 361 = .ok (.iaload, 1) := by decide +kernel
theorem dL_law_362 : decode cL_law 362 = .ok (.invokevirtual 41, 3) := by decide +kernel
theorem dL_law_365 : decode cL_law 365 = .ok (.if_icmp .eq 676, 3) := by decide +kernel
theorem dL_law_368 : decode cL_law 368 = .ok (.iconst 0, 1) := by decide +kernel
theorem dL_law_369 : decode cL_law 369 = .ok (.ireturn, 1) := by decide +kernel
theorem dL_law_370 : decode cL_law 370 = .ok (.aload_n 1, 1) := by decide +kernel
theorem dL_law_371 : decode cL_law 371 = .ok (.aload_n 0, 1) := by decide +kernel
theorem dL_law_372 : decode cL_law 372 = .ok (.iload_n 3, 1) := by decide +kernel
theorem dL_law_373 : decode cL_law 373 = .ok (.iconst 1, 1) := by decide +kernel
theorem dL_law_374 : decode cL_law 374 = .ok (.iadd, 1) := by decide +kernel
theorem dL_law_375 : decode cL_law 375 = .ok (.iaload, 1) := by decide +kernel
theorem dL_law_376 : decode cL_law 376 = .ok (.aload_n 0, 1) := by decide +kernel
theorem dL_law_377 : decode cL_law 377 = .ok (.iload_n 3, 1) := by decide +kernel
theorem dL_law_378 : decode cL_law 378 = .ok (.iconst 2, 1) := by decide +kernel
theorem dL_law_379 : decode cL_law 379 = .ok (.iadd, 1) := by decide +kernel
theorem dL_law_380 : decode cL_law 380 = .ok (.iaload, 1) := by decide +kernel
theorem dL_law_381 : decode cL_law 381 = .ok (.invokevirtual 42, 3) := by decide +kernel
theorem dL_law_384 : decode cL_law 384 = .ok (.aload_n 2, 1) := by decide +kernel
theorem dL_law_385 : decode cL_law 385 = .ok (.aload_n 0, 1) := by decide +kernel
theorem dL_law_386 : decode cL_law 386 = .ok (.iload_n 3, 1) := by decide +kernel
theorem dL_law_387 : decode cL_law 387 = .ok (.iconst 1, 1) := by decide +kernel
theorem dL_law_388 : decode cL_law 388 = .ok (.iadd, 1) := by decide +kernel
theorem dL_law_389 : decode cL_law 389 = .ok (.iaload, 1) := by decide +kernel
theorem dL_law_390 : decode cL_law 390 = .ok (.aload_n 0, 1) := by decide +kernel
theorem dL_law_391 : decode cL_law 391 = .ok (.iload_n 3, 1) := by decide +kernel
theorem dL_law_392 : decode cL_law 392 = .ok (.iconst 2, 1) := by decide +kernel
theorem dL_law_393 : decode cL_law 393 = .ok (.iadd, 1) := by decide +kernel
theorem dL_law_394 : decode cL_law 394 = .ok (.iaload, 1) := by decide +kernel
theorem dL_law_395 : decode cL_law 395 = .ok (.invokevirtual 45, 3) := by decide +kernel
theorem dL_law_398 : decode cL_law 398 = .ok (.if_icmp .eq 643, 3) := by decide +kernel
theorem dL_law_401 : decode cL_law 401 = .ok (.iconst 0, 1) := by decide +kernel
theorem dL_law_402 : decode cL_law 402 = .ok (.ireturn, 1) := by decide +kernel
theorem dL_law_403 : decode cL_law 403 = .ok (.aload_n 1, 1) := by decide +kernel
theorem dL_law_404 : decode cL_law 404 = .ok (.aload_n 0, 1) := by decide +kernel
theorem dL_law_405 : decode cL_law 405 = .ok (.iload_n 3, 1) := by decide +kernel
theorem dL_law_406 : decode cL_law 406 = .ok (.iconst 1, 1) := by decide +kernel
theorem dL_law_407 : decode cL_law 407 = .ok (.iadd, 1) := by decide +kernel
theorem dL_law_408 : decode cL_law 408 = .ok (.iaload, 1) := by decide +kernel
theorem dL_law_409 : decode cL_law 409 = .ok (.aload_n 0, 1) := by decide +kernel
theorem dL_law_410 : decode cL_law 410 = .ok (.iload_n 3, 1) := by decide +kernel
theorem dL_law_411 : decode cL_law 411 = .ok (.iconst 2, 1) := by decide +kernel
theorem dL_law_412 : decode cL_law 412 = .ok (.iadd, 1) := by decide +kernel
theorem dL_law_413 : decode cL_law 413 = .ok (.iaload, 1) := by decide +kernel
theorem dL_law_414 : decode cL_law 414 = .ok (.invokevirtual 46, 3) := by decide +kernel
theorem dL_law_417 : decode cL_law 417 = .ok (.aload_n 2, 1) := by decide +kernel
theorem dL_law_418 : decode cL_law 418 = .ok (.aload_n 0, 1) := by decide +kernel
theorem dL_law_419 : decode cL_law 419 = .ok (.iload_n 3, 1) := by decide +kernel
theorem dL_law_420 : decode cL_law 420 = .ok (.iconst 1, 1) := by decide +kernel
theorem dL_law_421 : decode cL_law 421 = .ok (.iadd, 1) := by decide +kernel
theorem dL_law_422 : decode cL_law 422 = .ok (.iaload, 1) := by decide +kernel
theorem dL_law_423 : decode cL_law 423 = .ok (.aload_n 0, 1) := by decide +kernel
theorem dL_law_424 : decode cL_law 424 = .ok (.iload_n 3, 1) := by decide +kernel
theorem dL_law_425 : decode cL_law 425 = .ok (.iconst 2, 1) := by decide +kernel
theorem dL_law_426 : decode cL_law 426 = .ok (.iadd, 1) := by decide +kernel
theorem dL_law_427 : decode cL_law 427 = .ok (.iaload, 1) := by decide +kernel
theorem dL_law_428 : decode cL_law 428 = .ok (.invokevirtual 49, 3) := by decide +kernel
theorem dL_law_431 : decode cL_law 431 = .ok (.if_icmp .eq 610, 3) := by decide +kernel
theorem dL_law_434 : decode cL_law 434 = .ok (.iconst 0, 1) := by decide +kernel
theorem dL_law_435 : decode cL_law 435 = .ok (.ireturn, 1) := by decide +kernel
theorem dL_law_436 : decode cL_law 436 = .ok (.aload_n 1, 1) := by decide +kernel
theorem dL_law_437 : decode cL_law 437 = .ok (.aload_n 0, 1) := by decide +kernel
theorem dL_law_438 : decode cL_law 438 = .ok (.iload_n 3, 1) := by decide +kernel
theorem dL_law_439 : decode cL_law 439 = .ok (.iconst 1, 1) := by decide +kernel
theorem dL_law_440 : decode cL_law 440 = .ok (.iadd, 1) := by decide +kernel
theorem dL_law_441 : decode cL_law 441 = .ok (.iaload, 1) := by decide +kernel
theorem dL_law_442 : decode cL_law 442 = .ok (.aload_n 0, 1) := by decide +kernel
theorem dL_law_443 : decode cL_law 443 = .ok (.iload_n 3, 1) := by decide +kernel
theorem dL_law_444 : decode cL_law 444 = .ok (.iconst 2, 1) := by decide +kernel
theorem dL_law_445 : decode cL_law 445 = .ok (.iadd, 1) := by decide +kernel
theorem dL_law_446 : decode cL_law 446 = .ok (.iaload, 1) := by decide +kernel
theorem dL_law_447 : decode cL_law 447 = .ok (.invokevirtual 50, 3) := by decide +kernel
theorem dL_law_450 : decode cL_law 450 = .ok (.aload_n 2, 1) := by decide +kernel
theorem dL_law_451 : decode cL_law 451 = .ok (.aload_n 0, 1) := by decide +kernel
theorem dL_law_452 : decode cL_law 452 = .ok (.iload_n 3, 1) := by decide +kernel
theorem dL_law_453 : decode cL_law 453 = .ok (.iconst 1, 1) := by decide +kernel
theorem dL_law_454 : decode cL_law 454 = .ok (.iadd, 1) := by decide +kernel
theorem dL_law_455 : decode cL_law 455 = .ok (.iaload, 1) := by decide +kernel
theorem dL_law_456 : decode cL_law 456 = .ok (.aload_n 0, 1) := by decide +kernel
theorem dL_law_457 : decode cL_law 457 = .ok (.iload_n 3, 1) := by decide +kernel
theorem dL_law_458 : decode cL_law 458 = .ok (.iconst 2, 1) := by decide +kernel
theorem dL_law_459 : decode cL_law 459 = .ok (.iadd, 1) := by decide +kernel
theorem dL_law_460 : decode cL_law 460 = .ok (.iaload, 1) := by decide +kernel
theorem dL_law_461 : decode cL_law 461 = .ok (.invokevirtual 53, 3) := by decide +kernel
theorem dL_law_464 : decode cL_law 464 = .ok (.if_icmp .eq 577, 3) := by decide +kernel
theorem dL_law_467 : decode cL_law 467 = .ok (.iconst 0, 1) := by decide +kernel
theorem dL_law_468 : decode cL_law 468 = .ok (.ireturn, 1) := by decide +kernel
theorem dL_law_469 : decode cL_law 469 = .ok (.aload_n 1, 1) := by decide +kernel
theorem dL_law_470 : decode cL_law 470 = .ok (.aload_n 0, 1) := by decide +kernel
theorem dL_law_471 : decode cL_law 471 = .ok (.iload_n 3, 1) := by decide +kernel
theorem dL_law_472 : decode cL_law 472 = .ok (.iconst 1, 1) := by decide +kernel
theorem dL_law_473 : decode cL_law 473 = .ok (.iadd, 1) := by decide +kernel
theorem dL_law_474 : decode cL_law 474 = .ok (.iaload, 1) := by decide +kernel
theorem dL_law_475 : decode cL_law 475 = .ok (.aload_n 0, 1) := by decide +kernel
theorem dL_law_476 : decode cL_law 476 = .ok (.iload_n 3, 1) := by decide +kernel
theorem dL_law_477 : decode cL_law 477 = .ok (.iconst 2, 1) := by decide +kernel
theorem dL_law_478 : decode cL_law 478 = .ok (.iadd, 1) := by decide +kernel
theorem dL_law_479 : decode cL_law 479 = .ok (.iaload, 1) := by decide +kernel
theorem dL_law_480 : decode cL_law 480 = .ok (.invokevirtual 54, 3) := by decide +kernel
theorem dL_law_483 : decode cL_law 483 = .ok (.aload_n 2, 1) := by decide +kernel
theorem dL_law_484 : decode cL_law 484 = .ok (.aload_n 0, 1) := by decide +kernel
theorem dL_law_485 : decode cL_law 485 = .ok (.iload_n 3, 1) := by decide +kernel
theorem dL_law_486 : decode cL_law 486 = .ok (.iconst 1, 1) := by decide +kernel
theorem dL_law_487 : decode cL_law 487 = .ok (.iadd, 1) := by decide +kernel
theorem dL_law_488 : decode cL_law 488 = .ok (.iaload, 1) := by decide +kernel
theorem dL_law_489 : decode cL_law 489 = .ok (.aload_n 0, 1) := by decide +kernel
theorem dL_law_490 : decode cL_law 490 = .ok (.iload_n 3, 1) := by decide +kernel
theorem dL_law_491 : decode cL_law 491 = .ok (.iconst 2, 1) := by decide +kernel
theorem dL_law_492 : decode cL_law 492 = .ok (.iadd, 1) := by decide +kernel
theorem dL_law_493 : decode cL_law 493 = .ok (.iaload, 1) := by decide +kernel
theorem dL_law_494 : decode cL_law 494 = .ok (.invokevirtual 57, 3) := by decide +kernel
theorem dL_law_497 : decode cL_law 497 = .ok (.if_icmp .eq 544, 3) := by decide +kernel
theorem dL_law_500 : decode cL_law 500 = .ok (.iconst 0, 1) := by decide +kernel
theorem dL_law_501 : decode cL_law 501 = .ok (.ireturn, 1) := by decide +kernel
theorem dL_law_502 : decode cL_law 502 = .ok (.aload_n 1, 1) := by decide +kernel
theorem dL_law_503 : decode cL_law 503 = .ok (.aload_n 0, 1) := by decide +kernel
theorem dL_law_504 : decode cL_law 504 = .ok (.iload_n 3, 1) := by decide +kernel
theorem dL_law_505 : decode cL_law 505 = .ok (.iconst 1, 1) := by decide +kernel
theorem dL_law_506 : decode cL_law 506 = .ok (.iadd, 1) := by decide +kernel
theorem dL_law_507 : decode cL_law 507 = .ok (.iaload, 1) := by decide +kernel
theorem dL_law_508 : decode cL_law 508 = .ok (.aload_n 0, 1) := by decide +kernel
theorem dL_law_509 : decode cL_law 509 = .ok (.iload_n 3, 1) := by decide +kernel
theorem dL_law_510 : decode cL_law 510 = .ok (.iconst 2, 1) := by decide +kernel
theorem dL_law_511 : decode cL_law 511 = .ok (.iadd, 1) := by decide +kernel
theorem dL_law_512 : decode cL_law 512 = .ok (.iaload, 1) := by decide +kernel
theorem dL_law_513 : decode cL_law 513 = .ok (.aload_n 0, 1) := by decide +kernel
theorem dL_law_514 : decode cL_law 514 = .ok (.iload_n 3, 1) := by decide +kernel
theorem dL_law_515 : decode cL_law 515 = .ok (.iconst 3, 1) := by decide +kernel
theorem dL_law_516 : decode cL_law 516 = .ok (.iadd, 1) := by decide +kernel
theorem dL_law_517 : decode cL_law 517 = .ok (.iaload, 1) := by decide +kernel
theorem dL_law_518 : decode cL_law 518 = .ok (.invokevirtual 58, 3) := by decide +kernel
theorem dL_law_521 : decode cL_law 521 = .ok (.aload_n 2, 1) := by decide +kernel
theorem dL_law_522 : decode cL_law 522 = .ok (.aload_n 0, 1) := by decide +kernel
theorem dL_law_523 : decode cL_law 523 = .ok (.iload_n 3, 1) := by decide +kernel
theorem dL_law_524 : decode cL_law 524 = .ok (.iconst 1, 1) := by decide +kernel
theorem dL_law_525 : decode cL_law 525 = .ok (.iadd, 1) := by decide +kernel
theorem dL_law_526 : decode cL_law 526 = .ok (.iaload, 1) := by decide +kernel
theorem dL_law_527 : decode cL_law 527 = .ok (.aload_n 0, 1) := by decide +kernel
theorem dL_law_528 : decode cL_law 528 = .ok (.iload_n 3, 1) := by decide +kernel
theorem dL_law_529 : decode cL_law 529 = .ok (.iconst 2, 1) := by decide +kernel
theorem dL_law_530 : decode cL_law 530 = .ok (.iadd, 1) := by decide +kernel
theorem dL_law_531 : decode cL_law 531 = .ok (.iaload, 1) := by decide +kernel
theorem dL_law_532 : decode cL_law 532 = .ok (.aload_n 0, 1) := by decide +kernel
theorem dL_law_533 : decode cL_law 533 = .ok (.iload_n 3, 1) := by decide +kernel
theorem dL_law_534 : decode cL_law 534 = .ok (.iconst 3, 1) := by decide +kernel
theorem dL_law_535 : decode cL_law 535 = .ok (.iadd, 1) := by decide +kernel
theorem dL_law_536 : decode cL_law 536 = .ok (.iaload, 1) := by decide +kernel
theorem dL_law_537 : decode cL_law 537 = .ok (.invokevirtual 61, 3) := by decide +kernel
theorem dL_law_540 : decode cL_law 540 = .ok (.if_icmp .eq 501, 3) := by decide +kernel
theorem dL_law_543 : decode cL_law 543 = .ok (.iconst 0, 1) := by decide +kernel
theorem dL_law_544 : decode cL_law 544 = .ok (.ireturn, 1) := by decide +kernel
theorem dL_law_545 : decode cL_law 545 = .ok (.aload_n 1, 1) := by decide +kernel
theorem dL_law_546 : decode cL_law 546 = .ok (.aload_n 0, 1) := by decide +kernel
theorem dL_law_547 : decode cL_law 547 = .ok (.iload_n 3, 1) := by decide +kernel
theorem dL_law_548 : decode cL_law 548 = .ok (.iconst 1, 1) := by decide +kernel
theorem dL_law_549 : decode cL_law 549 = .ok (.iadd, 1) := by decide +kernel
theorem dL_law_550 : decode cL_law 550 = .ok (.iaload, 1) := by decide +kernel
theorem dL_law_551 : decode cL_law 551 = .ok (.i2l, 1) := by decide +kernel
theorem dL_law_552 : decode cL_law 552 = .ok (.bipush 32, 2) := by decide +kernel
theorem dL_law_554 : decode cL_law 554 = .ok (.lshl, 1) := by decide +kernel
theorem dL_law_555 : decode cL_law 555 = .ok (.aload_n 0, 1) := by decide +kernel
theorem dL_law_556 : decode cL_law 556 = .ok (.iload_n 3, 1) := by decide +kernel
theorem dL_law_557 : decode cL_law 557 = .ok (.iconst 2, 1) := by decide +kernel
theorem dL_law_558 : decode cL_law 558 = .ok (.iadd, 1) := by decide +kernel
theorem dL_law_559 : decode cL_law 559 = .ok (.iaload, 1) := by decide +kernel
theorem dL_law_560 : decode cL_law 560 = .ok (.i2l, 1) := by decide +kernel
theorem dL_law_561 : decode cL_law 561 = .ok (.ldc2_w 62, 3) := by decide +kernel
theorem dL_law_564 : decode cL_law 564 = .ok (.land, 1) := by decide +kernel
theorem dL_law_565 : decode cL_law 565 = .ok (.lor, 1) := by decide +kernel
theorem dL_law_566 : decode cL_law 566 = .ok (.aload_n 0, 1) := by decide +kernel
theorem dL_law_567 : decode cL_law 567 = .ok (.iload_n 3, 1) := by decide +kernel
theorem dL_law_568 : decode cL_law 568 = .ok (.iconst 3, 1) := by decide +kernel
theorem dL_law_569 : decode cL_law 569 = .ok (.iadd, 1) := by decide +kernel
theorem dL_law_570 : decode cL_law 570 = .ok (.iaload, 1) := by decide +kernel
theorem dL_law_571 : decode cL_law 571 = .ok (.invokevirtual 64, 3) := by decide +kernel
theorem dL_law_574 : decode cL_law 574 = .ok (.aload_n 2, 1) := by decide +kernel
theorem dL_law_575 : decode cL_law 575 = .ok (.aload_n 0, 1) := by decide +kernel
theorem dL_law_576 : decode cL_law 576 = .ok (.iload_n 3, 1) := by decide +kernel
theorem dL_law_577 : decode cL_law 577 = .ok (.iconst 1, 1) := by decide +kernel
theorem dL_law_578 : decode cL_law 578 = .ok (.iadd, 1) := by decide +kernel
theorem dL_law_579 : decode cL_law 579 = .ok (.iaload, 1) := by decide +kernel
theorem dL_law_580 : decode cL_law 580 = .ok (.i2l, 1) := by decide +kernel
theorem dL_law_581 : decode cL_law 581 = .ok (.bipush 32, 2) := by decide +kernel
theorem dL_law_583 : decode cL_law 583 = .ok (.lshl, 1) := by decide +kernel
theorem dL_law_584 : decode cL_law 584 = .ok (.aload_n 0, 1) := by decide +kernel
theorem dL_law_585 : decode cL_law 585 = .ok (.iload_n 3, 1) := by decide +kernel
theorem dL_law_586 : decode cL_law 586 = .ok (.iconst 2, 1) := by decide +kernel
theorem dL_law_587 : decode cL_law 587 = .ok (.iadd, 1) := by decide +kernel
theorem dL_law_588 : decode cL_law 588 = .ok (.iaload, 1) := by decide +kernel
theorem dL_law_589 : decode cL_law 589 = .ok (.i2l, 1) := by decide +kernel
theorem dL_law_590 : decode cL_law 590 = .ok (.ldc2_w 62, 3) := by decide +kernel
theorem dL_law_593 : decode cL_law 593 = .ok (.land, 1) := by decide +kernel
theorem dL_law_594 : decode cL_law 594 = .ok (.lor, 1) := by decide +kernel
theorem dL_law_595 : decode cL_law 595 = .ok (.aload_n 0, 1) := by decide +kernel
theorem dL_law_596 : decode cL_law 596 = .ok (.iload_n 3, 1) := by decide +kernel
theorem dL_law_597 : decode cL_law 597 = .ok (.iconst 3, 1) := by decide +kernel
theorem dL_law_598 : decode cL_law 598 = .ok (.iadd, 1) := by decide +kernel
theorem dL_law_599 : decode cL_law 599 = .ok (.iaload, 1) := by decide +kernel
theorem dL_law_600 : decode cL_law 600 = .ok (.invokevirtual 68, 3) := by decide +kernel
theorem dL_law_603 : decode cL_law 603 = .ok (.if_icmp .eq 438, 3) := by decide +kernel
theorem dL_law_606 : decode cL_law 606 = .ok (.iconst 0, 1) := by decide +kernel
theorem dL_law_607 : decode cL_law 607 = .ok (.ireturn, 1) := by decide +kernel
theorem dL_law_608 : decode cL_law 608 = .ok (.aload_n 1, 1) := by decide +kernel
theorem dL_law_609 : decode cL_law 609 = .ok (.invokevirtual 69, 3) := by decide +kernel
theorem dL_law_612 : decode cL_law 612 = .ok (.aload_n 2, 1) := by decide +kernel
theorem dL_law_613 : decode cL_law 613 = .ok (.invokevirtual 72, 3) := by decide +kernel
theorem dL_law_616 : decode cL_law 616 = .ok (.if_icmp .eq 425, 3) := by decide +kernel
theorem dL_law_619 : decode cL_law 619 = .ok (.iconst 0, 1) := by decide +kernel
theorem dL_law_620 : decode cL_law 620 = .ok (.ireturn, 1) := by decide +kernel
theorem dL_law_621 : decode cL_law 621 = .ok (.aload_n 1, 1) := by decide +kernel
theorem dL_law_622 : decode cL_law 622 = .ok (.invokevirtual 73, 3) := by decide +kernel
theorem dL_law_625 : decode cL_law 625 = .ok (.aload_n 2, 1) := by decide +kernel
theorem dL_law_626 : decode cL_law 626 = .ok (.invokevirtual 76, 3) := by decide +kernel
theorem dL_law_629 : decode cL_law 629 = .ok (.if_icmp .eq 412, 3) := by decide +kernel
theorem dL_law_632 : decode cL_law 632 = .ok (.iconst 0, 1) := by decide +kernel
theorem dL_law_633 : decode cL_law 633 = .ok (.ireturn, 1) := by decide +kernel
theorem dL_law_634 : decode cL_law 634 = .ok (.aload_n 1, 1) := by decide +kernel
theorem dL_law_635 : decode cL_law 635 = .ok (.aload_n 0, 1) := by decide +kernel
theorem dL_law_636 : decode cL_law 636 = .ok (.iload_n 3, 1) := by decide +kernel
theorem dL_law_637 : decode cL_law 637 = .ok (.iconst 1, 1) := by decide +kernel
theorem dL_law_638 : decode cL_law 638 = .ok (.iadd, 1) := by decide +kernel
theorem dL_law_639 : decode cL_law 639 = .ok (.iaload, 1) := by decide +kernel
theorem dL_law_640 : decode cL_law 640 = .ok (.invokevirtual 77, 3) := by decide +kernel
theorem dL_law_643 : decode cL_law 643 = .ok (.aload_n 2, 1) := by decide +kernel
theorem dL_law_644 : decode cL_law 644 = .ok (.aload_n 0, 1) := by decide +kernel
theorem dL_law_645 : decode cL_law 645 = .ok (.iload_n 3, 1) := by decide +kernel
theorem dL_law_646 : decode cL_law 646 = .ok (.iconst 1, 1) := by decide +kernel
theorem dL_law_647 : decode cL_law 647 = .ok (.iadd, 1) := by decide +kernel
theorem dL_law_648 : decode cL_law 648 = .ok (.iaload, 1) := by decide +kernel
theorem dL_law_649 : decode cL_law 649 = .ok (.invokevirtual 80, 3) := by decide +kernel
theorem dL_law_652 : decode cL_law 652 = .ok (.if_icmp .eq 389, 3) := by decide +kernel
theorem dL_law_655 : decode cL_law 655 = .ok (.iconst 0, 1) := by decide +kernel
theorem dL_law_656 : decode cL_law 656 = .ok (.ireturn, 1) := by decide +kernel
theorem dL_law_657 : decode cL_law 657 = .ok (.aload_n 1, 1) := by decide +kernel
theorem dL_law_658 : decode cL_law 658 = .ok (.aload_n 0, 1) := by decide +kernel
theorem dL_law_659 : decode cL_law 659 = .ok (.iload_n 3, 1) := by decide +kernel
theorem dL_law_660 : decode cL_law 660 = .ok (.iconst 1, 1) := by decide +kernel
theorem dL_law_661 : decode cL_law 661 = .ok (.iadd, 1) := by decide +kernel
theorem dL_law_662 : decode cL_law 662 = .ok (.iaload, 1) := by decide +kernel
theorem dL_law_663 : decode cL_law 663 = .ok (.aload_n 0, 1) := by decide +kernel
theorem dL_law_664 : decode cL_law 664 = .ok (.iload_n 3, 1) := by decide +kernel
theorem dL_law_665 : decode cL_law 665 = .ok (.iconst 2, 1) := by decide +kernel
theorem dL_law_666 : decode cL_law 666 = .ok (.iadd, 1) := by decide +kernel
theorem dL_law_667 : decode cL_law 667 = .ok (.iaload, 1) := by decide +kernel
theorem dL_law_668 : decode cL_law 668 = .ok (.aload_n 0, 1) := by decide +kernel
theorem dL_law_669 : decode cL_law 669 = .ok (.iload_n 3, 1) := by decide +kernel
theorem dL_law_670 : decode cL_law 670 = .ok (.iconst 3, 1) := by decide +kernel
theorem dL_law_671 : decode cL_law 671 = .ok (.iadd, 1) := by decide +kernel
theorem dL_law_672 : decode cL_law 672 = .ok (.iaload, 1) := by decide +kernel
theorem dL_law_673 : decode cL_law 673 = .ok (.invokevirtual 81, 3) := by decide +kernel
theorem dL_law_676 : decode cL_law 676 = .ok (.aload_n 2, 1) := by decide +kernel
theorem dL_law_677 : decode cL_law 677 = .ok (.aload_n 0, 1) := by decide +kernel
theorem dL_law_678 : decode cL_law 678 = .ok (.iload_n 3, 1) := by decide +kernel
theorem dL_law_679 : decode cL_law 679 = .ok (.iconst 1, 1) := by decide +kernel
theorem dL_law_680 : decode cL_law 680 = .ok (.iadd, 1) := by decide +kernel
theorem dL_law_681 : decode cL_law 681 = .ok (.iaload, 1) := by decide +kernel
theorem dL_law_682 : decode cL_law 682 = .ok (.aload_n 0, 1) := by decide +kernel
theorem dL_law_683 : decode cL_law 683 = .ok (.iload_n 3, 1) := by decide +kernel
theorem dL_law_684 : decode cL_law 684 = .ok (.iconst 2, 1) := by decide +kernel
theorem dL_law_685 : decode cL_law 685 = .ok (.iadd, 1) := by decide +kernel
theorem dL_law_686 : decode cL_law 686 = .ok (.iaload, 1) := by decide +kernel
theorem dL_law_687 : decode cL_law 687 = .ok (.aload_n 0, 1) := by decide +kernel
theorem dL_law_688 : decode cL_law 688 = .ok (.iload_n 3, 1) := by decide +kernel
theorem dL_law_689 : decode cL_law 689 = .ok (.iconst 3, 1) := by decide +kernel
theorem dL_law_690 : decode cL_law 690 = .ok (.iadd, 1) := by decide +kernel
theorem dL_law_691 : decode cL_law 691 = .ok (.iaload, 1) := by decide +kernel
theorem dL_law_692 : decode cL_law 692 = .ok (.invokevirtual 84, 3) := by decide +kernel
theorem dL_law_695 : decode cL_law 695 = .ok (.if_icmp .eq 346, 3) := by decide +kernel
theorem dL_law_698 : decode cL_law 698 = .ok (.iconst 0, 1) := by decide +kernel
theorem dL_law_699 : decode cL_law 699 = .ok (.ireturn, 1) := by decide +kernel
theorem dL_law_700 : decode cL_law 700 = .ok (.aload_n 1, 1) := by decide +kernel
theorem dL_law_701 : decode cL_law 701 = .ok (.aload_n 0, 1) := by decide +kernel
theorem dL_law_702 : decode cL_law 702 = .ok (.iload_n 3, 1) := by decide +kernel
theorem dL_law_703 : decode cL_law 703 = .ok (.iconst 1, 1) := by decide +kernel
theorem dL_law_704 : decode cL_law 704 = .ok (.iadd, 1) := by decide +kernel
theorem dL_law_705 : decode cL_law 705 = .ok (.iaload, 1) := by decide +kernel
theorem dL_law_706 : decode cL_law 706 = .ok (.aload_n 0, 1) := by decide +kernel
theorem dL_law_707 : decode cL_law 707 = .ok (.iload_n 3, 1) := by decide +kernel
theorem dL_law_708 : decode cL_law 708 = .ok (.iconst 2, 1) := by decide +kernel
theorem dL_law_709 : decode cL_law 709 = .ok (.iadd, 1) := by decide +kernel
theorem dL_law_710 : decode cL_law 710 = .ok (.iaload, 1) := by decide +kernel
theorem dL_law_711 : decode cL_law 711 = .ok (.aload_n 0, 1) := by decide +kernel
theorem dL_law_712 : decode cL_law 712 = .ok (.iload_n 3, 1) := by decide +kernel
theorem dL_law_713 : decode cL_law 713 = .ok (.iconst 3, 1) := by decide +kernel
theorem dL_law_714 : decode cL_law 714 = .ok (.iadd, 1) := by decide +kernel
theorem dL_law_715 : decode cL_law 715 = .ok (.iaload, 1) := by decide +kernel
theorem dL_law_716 : decode cL_law 716 = .ok (.invokevirtual 85, 3) := by decide +kernel
theorem dL_law_719 : decode cL_law 719 = .ok (.aload_n 2, 1) := by decide +kernel
theorem dL_law_720 : decode cL_law 720 = .ok (.aload_n 0, 1) := by decide +kernel
theorem dL_law_721 : decode cL_law 721 = .ok (.iload_n 3, 1) := by decide +kernel
theorem dL_law_722 : decode cL_law 722 = .ok (.iconst 1, 1) := by decide +kernel
theorem dL_law_723 : decode cL_law 723 = .ok (.iadd, 1) := by decide +kernel
theorem dL_law_724 : decode cL_law 724 = .ok (.iaload, 1) := by decide +kernel
theorem dL_law_725 : decode cL_law 725 = .ok (.aload_n 0, 1) := by decide +kernel
theorem dL_law_726 : decode cL_law 726 = .ok (.iload_n 3, 1) := by decide +kernel
theorem dL_law_727 : decode cL_law 727 = .ok (.iconst 2, 1) := by decide +kernel
theorem dL_law_728 : decode cL_law 728 = .ok (.iadd, 1) := by decide +kernel
theorem dL_law_729 : decode cL_law 729 = .ok (.iaload, 1) := by decide +kernel
theorem dL_law_730 : decode cL_law 730 = .ok (.aload_n 0, 1) := by decide +kernel
theorem dL_law_731 : decode cL_law 731 = .ok (.iload_n 3, 1) := by decide +kernel
theorem dL_law_732 : decode cL_law 732 = .ok (.iconst 3, 1) := by decide +kernel
theorem dL_law_733 : decode cL_law 733 = .ok (.iadd, 1) := by decide +kernel
theorem dL_law_734 : decode cL_law 734 = .ok (.iaload, 1) := by decide +kernel
theorem dL_law_735 : decode cL_law 735 = .ok (.invokevirtual 88, 3) := by decide +kernel
theorem dL_law_738 : decode cL_law 738 = .ok (.if_icmp .eq 303, 3) := by decide +kernel
theorem dL_law_741 : decode cL_law 741 = .ok (.iconst 0, 1) := by decide +kernel
theorem dL_law_742 : decode cL_law 742 = .ok (.ireturn, 1) := by decide +kernel
theorem dL_law_743 : decode cL_law 743 = .ok (.aload_n 1, 1) := by decide +kernel
theorem dL_law_744 : decode cL_law 744 = .ok (.aload_n 0, 1) := by decide +kernel
theorem dL_law_745 : decode cL_law 745 = .ok (.iload_n 3, 1) := by decide +kernel
theorem dL_law_746 : decode cL_law 746 = .ok (.iconst 1, 1) := by decide +kernel
theorem dL_law_747 : decode cL_law 747 = .ok (.iadd, 1) := by decide +kernel
theorem dL_law_748 : decode cL_law 748 = .ok (.iaload, 1) := by decide +kernel
theorem dL_law_749 : decode cL_law 749 = .ok (.aload_n 0, 1) := by decide +kernel
theorem dL_law_750 : decode cL_law 750 = .ok (.iload_n 3, 1) := by decide +kernel
theorem dL_law_751 : decode cL_law 751 = .ok (.iconst 2, 1) := by decide +kernel
theorem dL_law_752 : decode cL_law 752 = .ok (.iadd, 1) := by decide +kernel
theorem dL_law_753 : decode cL_law 753 = .ok (.iaload, 1) := by decide +kernel
theorem dL_law_754 : decode cL_law 754 = .ok (.aload_n 0, 1) := by decide +kernel
theorem dL_law_755 : decode cL_law 755 = .ok (.iload_n 3, 1) := by decide +kernel
theorem dL_law_756 : decode cL_law 756 = .ok (.iconst 3, 1) := by decide +kernel
theorem dL_law_757 : decode cL_law 757 = .ok (.iadd, 1) := by decide +kernel
theorem dL_law_758 : decode cL_law 758 = .ok (.iaload, 1) := by decide +kernel
theorem dL_law_759 : decode cL_law 759 = .ok (.invokevirtual 89, 3) := by decide +kernel
theorem dL_law_762 : decode cL_law 762 = .ok (.aload_n 2, 1) := by decide +kernel
theorem dL_law_763 : decode cL_law 763 = .ok (.aload_n 0, 1) := by decide +kernel
theorem dL_law_764 : decode cL_law 764 = .ok (.iload_n 3, 1) := by decide +kernel
theorem dL_law_765 : decode cL_law 765 = .ok (.iconst 1, 1) := by decide +kernel
theorem dL_law_766 : decode cL_law 766 = .ok (.iadd, 1) := by decide +kernel
theorem dL_law_767 : decode cL_law 767 = .ok (.iaload, 1) := by decide +kernel
theorem dL_law_768 : decode cL_law 768 = .ok (.aload_n 0, 1) := by decide +kernel
theorem dL_law_769 : decode cL_law 769 = .ok (.iload_n 3, 1) := by decide +kernel
theorem dL_law_770 : decode cL_law 770 = .ok (.iconst 2, 1) := by decide +kernel
theorem dL_law_771 : decode cL_law 771 = .ok (.iadd, 1) := by decide +kernel
theorem dL_law_772 : decode cL_law 772 = .ok (.iaload, 1) := by decide +kernel
theorem dL_law_773 : decode cL_law 773 = .ok (.aload_n 0, 1) := by decide +kernel
theorem dL_law_774 : decode cL_law 774 = .ok (.iload_n 3, 1) := by decide +kernel
theorem dL_law_775 : decode cL_law 775 = .ok (.iconst 3, 1) := by decide +kernel
theorem dL_law_776 : decode cL_law 776 = .ok (.iadd, 1) := by decide +kernel
theorem dL_law_777 : decode cL_law 777 = .ok (.iaload, 1) := by decide +kernel
theorem dL_law_778 : decode cL_law 778 = .ok (.invokevirtual 92, 3) := by decide +kernel
theorem dL_law_781 : decode cL_law 781 = .ok (.if_icmp .eq 260, 3) := by decide +kernel
theorem dL_law_784 : decode cL_law 784 = .ok (.iconst 0, 1) := by decide +kernel
theorem dL_law_785 : decode cL_law 785 = .ok (.ireturn, 1) := by decide +kernel
theorem dL_law_786 : decode cL_law 786 = .ok (.aload_n 1, 1) := by decide +kernel
theorem dL_law_787 : decode cL_law 787 = .ok (.aload_n 0, 1) := by decide +kernel
theorem dL_law_788 : decode cL_law 788 = .ok (.iload_n 3, 1) := by decide +kernel
theorem dL_law_789 : decode cL_law 789 = .ok (.iconst 1, 1) := by decide +kernel
theorem dL_law_790 : decode cL_law 790 = .ok (.iadd, 1) := by decide +kernel
theorem dL_law_791 : decode cL_law 791 = .ok (.iaload, 1) := by decide +kernel
theorem dL_law_792 : decode cL_law 792 = .ok (.aload_n 0, 1) := by decide +kernel
theorem dL_law_793 : decode cL_law 793 = .ok (.iload_n 3, 1) := by decide +kernel
theorem dL_law_794 : decode cL_law 794 = .ok (.iconst 2, 1) := by decide +kernel
theorem dL_law_795 : decode cL_law 795 = .ok (.iadd, 1) := by decide +kernel
theorem dL_law_796 : decode cL_law 796 = .ok (.iaload, 1) := by decide +kernel
theorem dL_law_797 : decode cL_law 797 = .ok (.aload_n 0, 1) := by decide +kernel
theorem dL_law_798 : decode cL_law 798 = .ok (.iload_n 3, 1) := by decide +kernel
theorem dL_law_799 : decode cL_law 799 = .ok (.iconst 3, 1) := by decide +kernel
theorem dL_law_800 : decode cL_law 800 = .ok (.iadd, 1) := by decide +kernel
theorem dL_law_801 : decode cL_law 801 = .ok (.iaload, 1) := by decide +kernel
theorem dL_law_802 : decode cL_law 802 = .ok (.invokevirtual 93, 3) := by decide +kernel
theorem dL_law_805 : decode cL_law 805 = .ok (.aload_n 2, 1) := by decide +kernel
theorem dL_law_806 : decode cL_law 806 = .ok (.aload_n 0, 1) := by decide +kernel
theorem dL_law_807 : decode cL_law 807 = .ok (.iload_n 3, 1) := by decide +kernel
theorem dL_law_808 : decode cL_law 808 = .ok (.iconst 1, 1) := by decide +kernel
theorem dL_law_809 : decode cL_law 809 = .ok (.iadd, 1) := by decide +kernel
theorem dL_law_810 : decode cL_law 810 = .ok (.iaload, 1) := by decide +kernel
theorem dL_law_811 : decode cL_law 811 = .ok (.aload_n 0, 1) := by decide +kernel
theorem dL_law_812 : decode cL_law 812 = .ok (.iload_n 3, 1) := by decide +kernel
theorem dL_law_813 : decode cL_law 813 = .ok (.iconst 2, 1) := by decide +kernel
theorem dL_law_814 : decode cL_law 814 = .ok (.iadd, 1) := by decide +kernel
theorem dL_law_815 : decode cL_law 815 = .ok (.iaload, 1) := by decide +kernel
theorem dL_law_816 : decode cL_law 816 = .ok (.aload_n 0, 1) := by decide +kernel
theorem dL_law_817 : decode cL_law 817 = .ok (.iload_n 3, 1) := by decide +kernel
theorem dL_law_818 : decode cL_law 818 = .ok (.iconst 3, 1) := by decide +kernel
theorem dL_law_819 : decode cL_law 819 = .ok (.iadd, 1) := by decide +kernel
theorem dL_law_820 : decode cL_law 820 = .ok (.iaload, 1) := by decide +kernel
theorem dL_law_821 : decode cL_law 821 = .ok (.invokevirtual 97, 3) := by decide +kernel
theorem dL_law_824 : decode cL_law 824 = .ok (.lcmp, 1) := by decide +kernel
theorem dL_law_825 : decode cL_law 825 = .ok (.ifCond .eq 216, 3) := by decide +kernel
theorem dL_law_828 : decode cL_law 828 = .ok (.iconst 0, 1) := by decide +kernel
theorem dL_law_829 : decode cL_law 829 = .ok (.ireturn, 1) := by decide +kernel
theorem dL_law_830 : decode cL_law 830 = .ok (.aload_n 1, 1) := by decide +kernel
theorem dL_law_831 : decode cL_law 831 = .ok (.aload_n 0, 1) := by decide +kernel
theorem dL_law_832 : decode cL_law 832 = .ok (.iload_n 3, 1) := by decide +kernel
theorem dL_law_833 : decode cL_law 833 = .ok (.iconst 1, 1) := by decide +kernel
theorem dL_law_834 : decode cL_law 834 = .ok (.iadd, 1) := by decide +kernel
theorem dL_law_835 : decode cL_law 835 = .ok (.iaload, 1) := by decide +kernel
theorem dL_law_836 : decode cL_law 836 = .ok (.aload_n 0, 1) := by decide +kernel
theorem dL_law_837 : decode cL_law 837 = .ok (.iload_n 3, 1) := by decide +kernel
theorem dL_law_838 : decode cL_law 838 = .ok (.iconst 2, 1) := by decide +kernel
theorem dL_law_839 : decode cL_law 839 = .ok (.iadd, 1) := by decide +kernel
theorem dL_law_840 : decode cL_law 840 = .ok (.iaload, 1) := by decide +kernel
theorem dL_law_841 : decode cL_law 841 = .ok (.aload_n 0, 1) := by decide +kernel
theorem dL_law_842 : decode cL_law 842 = .ok (.iload_n 3, 1) := by decide +kernel
theorem dL_law_843 : decode cL_law 843 = .ok (.iconst 3, 1) := by decide +kernel
theorem dL_law_844 : decode cL_law 844 = .ok (.iadd, 1) := by decide +kernel
theorem dL_law_845 : decode cL_law 845 = .ok (.iaload, 1) := by decide +kernel
theorem dL_law_846 : decode cL_law 846 = .ok (.aload_n 0, 1) := by decide +kernel
theorem dL_law_847 : decode cL_law 847 = .ok (.iload_n 3, 1) := by decide +kernel
theorem dL_law_848 : decode cL_law 848 = .ok (.iconst 4, 1) := by decide +kernel
theorem dL_law_849 : decode cL_law 849 = .ok (.iadd, 1) := by decide +kernel
theorem dL_law_850 : decode cL_law 850 = .ok (.iaload, 1) := by decide +kernel
theorem dL_law_851 : decode cL_law 851 = .ok (.aload_n 0, 1) := by decide +kernel
theorem dL_law_852 : decode cL_law 852 = .ok (.iload_n 3, 1) := by decide +kernel
theorem dL_law_853 : decode cL_law 853 = .ok (.iconst 5, 1) := by decide +kernel
theorem dL_law_854 : decode cL_law 854 = .ok (.iadd, 1) := by decide +kernel
theorem dL_law_855 : decode cL_law 855 = .ok (.iaload, 1) := by decide +kernel
theorem dL_law_856 : decode cL_law 856 = .ok (.invokevirtual 98, 3) := by decide +kernel
theorem dL_law_859 : decode cL_law 859 = .ok (.aload_n 2, 1) := by decide +kernel
theorem dL_law_860 : decode cL_law 860 = .ok (.aload_n 0, 1) := by decide +kernel
theorem dL_law_861 : decode cL_law 861 = .ok (.iload_n 3, 1) := by decide +kernel
theorem dL_law_862 : decode cL_law 862 = .ok (.iconst 1, 1) := by decide +kernel
theorem dL_law_863 : decode cL_law 863 = .ok (.iadd, 1) := by decide +kernel
theorem dL_law_864 : decode cL_law 864 = .ok (.iaload, 1) := by decide +kernel
theorem dL_law_865 : decode cL_law 865 = .ok (.aload_n 0, 1) := by decide +kernel
theorem dL_law_866 : decode cL_law 866 = .ok (.iload_n 3, 1) := by decide +kernel
theorem dL_law_867 : decode cL_law 867 = .ok (.iconst 2, 1) := by decide +kernel
theorem dL_law_868 : decode cL_law 868 = .ok (.iadd, 1) := by decide +kernel
theorem dL_law_869 : decode cL_law 869 = .ok (.iaload, 1) := by decide +kernel
theorem dL_law_870 : decode cL_law 870 = .ok (.aload_n 0, 1) := by decide +kernel
theorem dL_law_871 : decode cL_law 871 = .ok (.iload_n 3, 1) := by decide +kernel
theorem dL_law_872 : decode cL_law 872 = .ok (.iconst 3, 1) := by decide +kernel
theorem dL_law_873 : decode cL_law 873 = .ok (.iadd, 1) := by decide +kernel
theorem dL_law_874 : decode cL_law 874 = .ok (.iaload, 1) := by decide +kernel
theorem dL_law_875 : decode cL_law 875 = .ok (.aload_n 0, 1) := by decide +kernel
theorem dL_law_876 : decode cL_law 876 = .ok (.iload_n 3, 1) := by decide +kernel
theorem dL_law_877 : decode cL_law 877 = .ok (.iconst 4, 1) := by decide +kernel
theorem dL_law_878 : decode cL_law 878 = .ok (.iadd, 1) := by decide +kernel
theorem dL_law_879 : decode cL_law 879 = .ok (.iaload, 1) := by decide +kernel
theorem dL_law_880 : decode cL_law 880 = .ok (.aload_n 0, 1) := by decide +kernel
theorem dL_law_881 : decode cL_law 881 = .ok (.iload_n 3, 1) := by decide +kernel
theorem dL_law_882 : decode cL_law 882 = .ok (.iconst 5, 1) := by decide +kernel
theorem dL_law_883 : decode cL_law 883 = .ok (.iadd, 1) := by decide +kernel
theorem dL_law_884 : decode cL_law 884 = .ok (.iaload, 1) := by decide +kernel
theorem dL_law_885 : decode cL_law 885 = .ok (.invokevirtual 101, 3) := by decide +kernel
theorem dL_law_888 : decode cL_law 888 = .ok (.if_icmp .eq 153, 3) := by decide +kernel
theorem dL_law_891 : decode cL_law 891 = .ok (.iconst 0, 1) := by decide +kernel
theorem dL_law_892 : decode cL_law 892 = .ok (.ireturn, 1) := by decide +kernel
theorem dL_law_893 : decode cL_law 893 = .ok (.aload_n 1, 1) := by decide +kernel
theorem dL_law_894 : decode cL_law 894 = .ok (.aload_n 0, 1) := by decide +kernel
theorem dL_law_895 : decode cL_law 895 = .ok (.iload_n 3, 1) := by decide +kernel
theorem dL_law_896 : decode cL_law 896 = .ok (.iconst 1, 1) := by decide +kernel
theorem dL_law_897 : decode cL_law 897 = .ok (.iadd, 1) := by decide +kernel
theorem dL_law_898 : decode cL_law 898 = .ok (.iaload, 1) := by decide +kernel
theorem dL_law_899 : decode cL_law 899 = .ok (.invokevirtual 102, 3) := by decide +kernel
theorem dL_law_902 : decode cL_law 902 = .ok (.aload_n 2, 1) := by decide +kernel
theorem dL_law_903 : decode cL_law 903 = .ok (.aload_n 0, 1) := by decide +kernel
theorem dL_law_904 : decode cL_law 904 = .ok (.iload_n 3, 1) := by decide +kernel
theorem dL_law_905 : decode cL_law 905 = .ok (.iconst 1, 1) := by decide +kernel
theorem dL_law_906 : decode cL_law 906 = .ok (.iadd, 1) := by decide +kernel
theorem dL_law_907 : decode cL_law 907 = .ok (.iaload, 1) := by decide +kernel
theorem dL_law_908 : decode cL_law 908 = .ok (.invokevirtual 105, 3) := by decide +kernel
theorem dL_law_911 : decode cL_law 911 = .ok (.if_icmp .eq 130, 3) := by decide +kernel
theorem dL_law_914 : decode cL_law 914 = .ok (.iconst 0, 1) := by decide +kernel
theorem dL_law_915 : decode cL_law 915 = .ok (.ireturn, 1) := by decide +kernel
theorem dL_law_916 : decode cL_law 916 = .ok (.aload_n 1, 1) := by decide +kernel
theorem dL_law_917 : decode cL_law 917 = .ok (.aload_n 0, 1) := by decide +kernel
theorem dL_law_918 : decode cL_law 918 = .ok (.iload_n 3, 1) := by decide +kernel
theorem dL_law_919 : decode cL_law 919 = .ok (.iconst 1, 1) := by decide +kernel
theorem dL_law_920 : decode cL_law 920 = .ok (.iadd, 1) := by decide +kernel
theorem dL_law_921 : decode cL_law 921 = .ok (.iaload, 1) := by decide +kernel
theorem dL_law_922 : decode cL_law 922 = .ok (.aload_n 0, 1) := by decide +kernel
theorem dL_law_923 : decode cL_law 923 = .ok (.iload_n 3, 1) := by decide +kernel
theorem dL_law_924 : decode cL_law 924 = .ok (.iconst 2, 1) := by decide +kernel
theorem dL_law_925 : decode cL_law 925 = .ok (.iadd, 1) := by decide +kernel
theorem dL_law_926 : decode cL_law 926 = .ok (.iaload, 1) := by decide +kernel
theorem dL_law_927 : decode cL_law 927 = .ok (.invokevirtual 106, 3) := by decide +kernel
theorem dL_law_930 : decode cL_law 930 = .ok (.aload_n 2, 1) := by decide +kernel
theorem dL_law_931 : decode cL_law 931 = .ok (.aload_n 0, 1) := by decide +kernel
theorem dL_law_932 : decode cL_law 932 = .ok (.iload_n 3, 1) := by decide +kernel
theorem dL_law_933 : decode cL_law 933 = .ok (.iconst 1, 1) := by decide +kernel
theorem dL_law_934 : decode cL_law 934 = .ok (.iadd, 1) := by decide +kernel
theorem dL_law_935 : decode cL_law 935 = .ok (.iaload, 1) := by decide +kernel
theorem dL_law_936 : decode cL_law 936 = .ok (.aload_n 0, 1) := by decide +kernel
theorem dL_law_937 : decode cL_law 937 = .ok (.iload_n 3, 1) := by decide +kernel
theorem dL_law_938 : decode cL_law 938 = .ok (.iconst 2, 1) := by decide +kernel
theorem dL_law_939 : decode cL_law 939 = .ok (.iadd, 1) := by decide +kernel
theorem dL_law_940 : decode cL_law 940 = .ok (.iaload, 1) := by decide +kernel
theorem dL_law_941 : decode cL_law 941 = .ok (.invokevirtual 109, 3) := by decide +kernel
theorem dL_law_944 : decode cL_law 944 = .ok (.if_icmp .eq 97, 3) := by decide +kernel
theorem dL_law_947 : decode cL_law 947 = .ok (.iconst 0, 1) := by decide +kernel
theorem dL_law_948 : decode cL_law 948 = .ok (.ireturn, 1) := by decide +kernel
theorem dL_law_949 : decode cL_law 949 = .ok (.aload_n 1, 1) := by decide +kernel
theorem dL_law_950 : decode cL_law 950 = .ok (.aload_n 0, 1) := by decide +kernel
theorem dL_law_951 : decode cL_law 951 = .ok (.iload_n 3, 1) := by decide +kernel
theorem dL_law_952 : decode cL_law 952 = .ok (.iconst 1, 1) := by decide +kernel
theorem dL_law_953 : decode cL_law 953 = .ok (.iadd, 1) := by decide +kernel
theorem dL_law_954 : decode cL_law 954 = .ok (.iaload, 1) := by decide +kernel
theorem dL_law_955 : decode cL_law 955 = .ok (.aload_n 0, 1) := by decide +kernel
theorem dL_law_956 : decode cL_law 956 = .ok (.iload_n 3, 1) := by decide +kernel
theorem dL_law_957 : decode cL_law 957 = .ok (.iconst 2, 1) := by decide +kernel
theorem dL_law_958 : decode cL_law 958 = .ok (.iadd, 1) := by decide +kernel
theorem dL_law_959 : decode cL_law 959 = .ok (.iaload, 1) := by decide +kernel
theorem dL_law_960 : decode cL_law 960 = .ok (.invokevirtual 110, 3) := by decide +kernel
theorem dL_law_963 : decode cL_law 963 = .ok (.aload_n 2, 1) := by decide +kernel
theorem dL_law_964 : decode cL_law 964 = .ok (.aload_n 0, 1) := by decide +kernel
theorem dL_law_965 : decode cL_law 965 = .ok (.iload_n 3, 1) := by decide +kernel
theorem dL_law_966 : decode cL_law 966 = .ok (.iconst 1, 1) := by decide +kernel
theorem dL_law_967 : decode cL_law 967 = .ok (.iadd, 1) := by decide +kernel
theorem dL_law_968 : decode cL_law 968 = .ok (.iaload, 1) := by decide +kernel
theorem dL_law_969 : decode cL_law 969 = .ok (.aload_n 0, 1) := by decide +kernel
theorem dL_law_970 : decode cL_law 970 = .ok (.iload_n 3, 1) := by decide +kernel
theorem dL_law_971 : decode cL_law 971 = .ok (.iconst 2, 1) := by decide +kernel
theorem dL_law_972 : decode cL_law 972 = .ok (.iadd, 1) := by decide +kernel
theorem dL_law_973 : decode cL_law 973 = .ok (.iaload, 1) := by decide +kernel
theorem dL_law_974 : decode cL_law 974 = .ok (.invokevirtual 113, 3) := by decide +kernel
theorem dL_law_977 : decode cL_law 977 = .ok (.if_icmp .eq 64, 3) := by decide +kernel
theorem dL_law_980 : decode cL_law 980 = .ok (.iconst 0, 1) := by decide +kernel
theorem dL_law_981 : decode cL_law 981 = .ok (.ireturn, 1) := by decide +kernel
theorem dL_law_982 : decode cL_law 982 = .ok (.aload_n 1, 1) := by decide +kernel
theorem dL_law_983 : decode cL_law 983 = .ok (.aload_n 0, 1) := by decide +kernel
theorem dL_law_984 : decode cL_law 984 = .ok (.iload_n 3, 1) := by decide +kernel
theorem dL_law_985 : decode cL_law 985 = .ok (.iconst 1, 1) := by decide +kernel
theorem dL_law_986 : decode cL_law 986 = .ok (.iadd, 1) := by decide +kernel
theorem dL_law_987 : decode cL_law 987 = .ok (.iaload, 1) := by decide +kernel
theorem dL_law_988 : decode cL_law 988 = .ok (.invokevirtual 114, 3) := by decide +kernel
theorem dL_law_991 : decode cL_law 991 = .ok (.aload_n 2, 1) := by decide +kernel
theorem dL_law_992 : decode cL_law 992 = .ok (.aload_n 0, 1) := by decide +kernel
theorem dL_law_993 : decode cL_law 993 = .ok (.iload_n 3, 1) := by decide +kernel
theorem dL_law_994 : decode cL_law 994 = .ok (.iconst 1, 1) := by decide +kernel
theorem dL_law_995 : decode cL_law 995 = .ok (.iadd, 1) := by decide +kernel
theorem dL_law_996 : decode cL_law 996 = .ok (.iaload, 1) := by decide +kernel
theorem dL_law_997 : decode cL_law 997 = .ok (.invokevirtual 117, 3) := by decide +kernel
theorem dL_law_1000 : decode cL_law 1000 = .ok (.if_icmp .eq 41, 3) := by decide +kernel
theorem dL_law_1003 : decode cL_law 1003 = .ok (.iconst 0, 1) := by decide +kernel
theorem dL_law_1004 : decode cL_law 1004 = .ok (.ireturn, 1) := by decide +kernel
theorem dL_law_1005 : decode cL_law 1005 = .ok (.aload_n 1, 1) := by decide +kernel
theorem dL_law_1006 : decode cL_law 1006 = .ok (.aload_n 0, 1) := by decide +kernel
theorem dL_law_1007 : decode cL_law 1007 = .ok (.iload_n 3, 1) := by decide +kernel
theorem dL_law_1008 : decode cL_law 1008 = .ok (.iconst 1, 1) := by decide +kernel
theorem dL_law_1009 : decode cL_law 1009 = .ok (.iadd, 1) := by decide +kernel
theorem dL_law_1010 : decode cL_law 1010 = .ok (.iaload, 1) := by decide +kernel
theorem dL_law_1011 : decode cL_law 1011 = .ok (.invokevirtual 118, 3) := by decide +kernel
theorem dL_law_1014 : decode cL_law 1014 = .ok (.aload_n 2, 1) := by decide +kernel
theorem dL_law_1015 : decode cL_law 1015 = .ok (.aload_n 0, 1) := by decide +kernel
theorem dL_law_1016 : decode cL_law 1016 = .ok (.iload_n 3, 1) := by decide +kernel
theorem dL_law_1017 : decode cL_law 1017 = .ok (.iconst 1, 1) := by decide +kernel
theorem dL_law_1018 : decode cL_law 1018 = .ok (.iadd, 1) := by decide +kernel
theorem dL_law_1019 : decode cL_law 1019 = .ok (.iaload, 1) := by decide +kernel
theorem dL_law_1020 : decode cL_law 1020 = .ok (.invokevirtual 121, 3) := by decide +kernel
theorem dL_law_1023 : decode cL_law 1023 = .ok (.if_icmp .eq 18, 3) := by decide +kernel
theorem dL_law_1026 : decode cL_law 1026 = .ok (.iconst 0, 1) := by decide +kernel
theorem dL_law_1027 : decode cL_law 1027 = .ok (.ireturn, 1) := by decide +kernel
theorem dL_law_1028 : decode cL_law 1028 = .ok (.aload_n 1, 1) := by decide +kernel
theorem dL_law_1029 : decode cL_law 1029 = .ok (.invokevirtual 122, 3) := by decide +kernel
theorem dL_law_1032 : decode cL_law 1032 = .ok (.aload_n 2, 1) := by decide +kernel
theorem dL_law_1033 : decode cL_law 1033 = .ok (.invokevirtual 125, 3) := by decide +kernel
theorem dL_law_1036 : decode cL_law 1036 = .ok (.if_icmp .eq 5, 3) := by decide +kernel
theorem dL_law_1039 : decode cL_law 1039 = .ok (.iconst 0, 1) := by decide +kernel
theorem dL_law_1040 : decode cL_law 1040 = .ok (.ireturn, 1) := by decide +kernel
theorem dL_law_1041 : decode cL_law 1041 = .ok (.iinc 3 6, 3) := by decide +kernel
theorem dL_law_1044 : decode cL_law 1044 = .ok (.goto (-1026), 3) := by decide +kernel
theorem dL_law_1047 : decode cL_law 1047 = .ok (.iconst 1, 1) := by decide +kernel
theorem dL_law_1048 : decode cL_law 1048 = .ok (.ireturn, 1) := by decide +kernel
abbrev vwCl : List vw_C := [(RX0, TX0, 3), (RX1, TX1, 2), (RX2, TX2, 8), (RX3, TX3, 4), (RX4, TX4, 3), (RX5, TX5, 2), (RX6, TX6, 8), (RX7, TX7, 28)]
end
section
theorem zz_look : 1 + 1 = 2 := rfl
end
