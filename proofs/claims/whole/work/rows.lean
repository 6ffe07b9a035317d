section
-- ===== PART A: goes FIRST, ahead of the names: the tables' words, and 'selects' of the private methods out of them =====
/-- a private method of a class that the tables say can be made, by its rows of tables_1 -/
def lw_okq (q : MethodName × Nat) : Prop := (q.1.cls ≠ "java/lang/invoke/MethodHandle" ∧ q.1.cls ≠ "java/lang/invoke/VarHandle") ∧ Cond.instantiable q.1.cls q.2 ∈ tables_1 ∧ Cond.privateMethod q.1 ∈ tables_1 ∧ Cond.instanceMethod q.1 ∈ tables_1
theorem lw_p0 : lw_okq (⟨"RopeTreaty", "error", "(I)I"⟩, 14) := ⟨⟨by decide +kernel, by decide +kernel⟩, List.mem_of_getElem? (i := 13) (by decide +kernel), List.mem_of_getElem? (i := 260) (by decide +kernel), List.mem_of_getElem? (i := 261) (by decide +kernel)⟩
theorem lw_p1 : lw_okq (⟨"RopeTreaty$Text", "work", "(III)I"⟩, 4) := ⟨⟨by decide +kernel, by decide +kernel⟩, List.mem_of_getElem? (i := 25) (by decide +kernel), List.mem_of_getElem? (i := 315) (by decide +kernel), List.mem_of_getElem? (i := 316) (by decide +kernel)⟩
theorem lw_p2 : lw_okq (⟨"RopeTreaty$Reader", "readOr", "(I)V"⟩, 7) := ⟨⟨by decide +kernel, by decide +kernel⟩, List.mem_of_getElem? (i := 127) (by decide +kernel), List.mem_of_getElem? (i := 416) (by decide +kernel), List.mem_of_getElem? (i := 417) (by decide +kernel)⟩
theorem lw_p3 : lw_okq (⟨"RopeTreaty$Reader", "readAnd", "(I)V"⟩, 7) := ⟨⟨by decide +kernel, by decide +kernel⟩, List.mem_of_getElem? (i := 127) (by decide +kernel), List.mem_of_getElem? (i := 420) (by decide +kernel), List.mem_of_getElem? (i := 421) (by decide +kernel)⟩
theorem lw_p4 : lw_okq (⟨"RopeTreaty$Reader", "readLikeness", "(I)V"⟩, 7) := ⟨⟨by decide +kernel, by decide +kernel⟩, List.mem_of_getElem? (i := 127) (by decide +kernel), List.mem_of_getElem? (i := 424) (by decide +kernel), List.mem_of_getElem? (i := 425) (by decide +kernel)⟩
theorem lw_p5 : lw_okq (⟨"RopeTreaty$Reader", "readSum", "(I)V"⟩, 7) := ⟨⟨by decide +kernel, by decide +kernel⟩, List.mem_of_getElem? (i := 127) (by decide +kernel), List.mem_of_getElem? (i := 428) (by decide +kernel), List.mem_of_getElem? (i := 429) (by decide +kernel)⟩
theorem lw_p6 : lw_okq (⟨"RopeTreaty$Reader", "readProduct", "(I)V"⟩, 7) := ⟨⟨by decide +kernel, by decide +kernel⟩, List.mem_of_getElem? (i := 127) (by decide +kernel), List.mem_of_getElem? (i := 432) (by decide +kernel), List.mem_of_getElem? (i := 433) (by decide +kernel)⟩
theorem lw_p7 : lw_okq (⟨"RopeTreaty$Reader", "readPart", "(I)V"⟩, 7) := ⟨⟨by decide +kernel, by decide +kernel⟩, List.mem_of_getElem? (i := 127) (by decide +kernel), List.mem_of_getElem? (i := 436) (by decide +kernel), List.mem_of_getElem? (i := 437) (by decide +kernel)⟩
theorem lw_p8 : lw_okq (⟨"RopeTreaty$Reader", "nextName", "()I"⟩, 7) := ⟨⟨by decide +kernel, by decide +kernel⟩, List.mem_of_getElem? (i := 127) (by decide +kernel), List.mem_of_getElem? (i := 440) (by decide +kernel), List.mem_of_getElem? (i := 441) (by decide +kernel)⟩
theorem lw_p9 : lw_okq (⟨"RopeTreaty$Reader", "isNext", "(C)Z"⟩, 7) := ⟨⟨by decide +kernel, by decide +kernel⟩, List.mem_of_getElem? (i := 127) (by decide +kernel), List.mem_of_getElem? (i := 446) (by decide +kernel), List.mem_of_getElem? (i := 447) (by decide +kernel)⟩
theorem lw_p10 : lw_okq (⟨"RopeTreaty$Reader", "write", "(I)V"⟩, 7) := ⟨⟨by decide +kernel, by decide +kernel⟩, List.mem_of_getElem? (i := 127) (by decide +kernel), List.mem_of_getElem? (i := 450) (by decide +kernel), List.mem_of_getElem? (i := 451) (by decide +kernel)⟩
theorem lw_p11 : lw_okq (⟨"RopeTreaty$Reader", "isDigit", "()Z"⟩, 7) := ⟨⟨by decide +kernel, by decide +kernel⟩, List.mem_of_getElem? (i := 127) (by decide +kernel), List.mem_of_getElem? (i := 454) (by decide +kernel), List.mem_of_getElem? (i := 455) (by decide +kernel)⟩
theorem lw_p12 : lw_okq (⟨"RopeTreaty$Reader", "readNumber", "()V"⟩, 7) := ⟨⟨by decide +kernel, by decide +kernel⟩, List.mem_of_getElem? (i := 127) (by decide +kernel), List.mem_of_getElem? (i := 458) (by decide +kernel), List.mem_of_getElem? (i := 459) (by decide +kernel)⟩
theorem lw_p13 : lw_okq (⟨"RopeTreaty$Reader", "close", "()V"⟩, 7) := ⟨⟨by decide +kernel, by decide +kernel⟩, List.mem_of_getElem? (i := 127) (by decide +kernel), List.mem_of_getElem? (i := 462) (by decide +kernel), List.mem_of_getElem? (i := 463) (by decide +kernel)⟩
theorem lw_p14 : lw_okq (⟨"RopeTreaty$Rope", "skip", "(I)I"⟩, 15) := ⟨⟨by decide +kernel, by decide +kernel⟩, List.mem_of_getElem? (i := 46) (by decide +kernel), List.mem_of_getElem? (i := 491) (by decide +kernel), List.mem_of_getElem? (i := 492) (by decide +kernel)⟩
theorem lw_p15 : lw_okq (⟨"RopeTreaty$Rope", "draw", "()I"⟩, 15) := ⟨⟨by decide +kernel, by decide +kernel⟩, List.mem_of_getElem? (i := 46) (by decide +kernel), List.mem_of_getElem? (i := 505) (by decide +kernel), List.mem_of_getElem? (i := 506) (by decide +kernel)⟩
def lw_privs_1 : List (MethodName × Nat) := [(⟨"RopeTreaty", "error", "(I)I"⟩, 14), (⟨"RopeTreaty$Text", "work", "(III)I"⟩, 4), (⟨"RopeTreaty$Reader", "readOr", "(I)V"⟩, 7), (⟨"RopeTreaty$Reader", "readAnd", "(I)V"⟩, 7), (⟨"RopeTreaty$Reader", "readLikeness", "(I)V"⟩, 7), (⟨"RopeTreaty$Reader", "readSum", "(I)V"⟩, 7), (⟨"RopeTreaty$Reader", "readProduct", "(I)V"⟩, 7), (⟨"RopeTreaty$Reader", "readPart", "(I)V"⟩, 7), (⟨"RopeTreaty$Reader", "nextName", "()I"⟩, 7), (⟨"RopeTreaty$Reader", "isNext", "(C)Z"⟩, 7), (⟨"RopeTreaty$Reader", "write", "(I)V"⟩, 7), (⟨"RopeTreaty$Reader", "isDigit", "()Z"⟩, 7), (⟨"RopeTreaty$Reader", "readNumber", "()V"⟩, 7), (⟨"RopeTreaty$Reader", "close", "()V"⟩, 7), (⟨"RopeTreaty$Rope", "skip", "(I)I"⟩, 15), (⟨"RopeTreaty$Rope", "draw", "()I"⟩, 15)]
theorem lw_r1 : ∀ q ∈ lw_privs_1, lw_okq q := List.forall_mem_cons.mpr ⟨lw_p0, List.forall_mem_cons.mpr ⟨lw_p1, List.forall_mem_cons.mpr ⟨lw_p2, List.forall_mem_cons.mpr ⟨lw_p3, List.forall_mem_cons.mpr ⟨lw_p4, List.forall_mem_cons.mpr ⟨lw_p5, List.forall_mem_cons.mpr ⟨lw_p6, List.forall_mem_cons.mpr ⟨lw_p7, List.forall_mem_cons.mpr ⟨lw_p8, List.forall_mem_cons.mpr ⟨lw_p9, List.forall_mem_cons.mpr ⟨lw_p10, List.forall_mem_cons.mpr ⟨lw_p11, List.forall_mem_cons.mpr ⟨lw_p12, List.forall_mem_cons.mpr ⟨lw_p13, List.forall_mem_cons.mpr ⟨lw_p14, List.forall_mem_cons.mpr ⟨lw_p15, fun _ h => absurd h List.not_mem_nil⟩⟩⟩⟩⟩⟩⟩⟩⟩⟩⟩⟩⟩⟩⟩⟩
theorem lw_p16 : lw_okq (⟨"RopeTreaty$Rope", "onlyAgainst", "(I)I"⟩, 15) := ⟨⟨by decide +kernel, by decide +kernel⟩, List.mem_of_getElem? (i := 46) (by decide +kernel), List.mem_of_getElem? (i := 551) (by decide +kernel), List.mem_of_getElem? (i := 552) (by decide +kernel)⟩
theorem lw_p17 : lw_okq (⟨"RopeTreaty$Throat", "say", "(IIII)I"⟩, 6) := ⟨⟨by decide +kernel, by decide +kernel⟩, List.mem_of_getElem? (i := 179) (by decide +kernel), List.mem_of_getElem? (i := 594) (by decide +kernel), List.mem_of_getElem? (i := 595) (by decide +kernel)⟩
theorem lw_p18 : lw_okq (⟨"RopeTreaty$Throat", "work", "(III)I"⟩, 6) := ⟨⟨by decide +kernel, by decide +kernel⟩, List.mem_of_getElem? (i := 179) (by decide +kernel), List.mem_of_getElem? (i := 605) (by decide +kernel), List.mem_of_getElem? (i := 606) (by decide +kernel)⟩
theorem lw_p19 : lw_okq (⟨"RopeTreaty$Throat", "part", "(I)I"⟩, 6) := ⟨⟨by decide +kernel, by decide +kernel⟩, List.mem_of_getElem? (i := 179) (by decide +kernel), List.mem_of_getElem? (i := 609) (by decide +kernel), List.mem_of_getElem? (i := 610) (by decide +kernel)⟩
theorem lw_p20 : lw_okq (⟨"RopeTreatyModel", "error", "(I)I"⟩, 21) := ⟨⟨by decide +kernel, by decide +kernel⟩, List.mem_of_getElem? (i := 702) (by decide +kernel), List.mem_of_getElem? (i := 783) (by decide +kernel), List.mem_of_getElem? (i := 784) (by decide +kernel)⟩
theorem lw_p21 : lw_okq (⟨"RopeTreatyModel", "lets", "(III)V"⟩, 21) := ⟨⟨by decide +kernel, by decide +kernel⟩, List.mem_of_getElem? (i := 702) (by decide +kernel), List.mem_of_getElem? (i := 789) (by decide +kernel), List.mem_of_getElem? (i := 790) (by decide +kernel)⟩
theorem lw_p22 : lw_okq (⟨"RopeTreatyModel", "isJumper", "(I)Z"⟩, 21) := ⟨⟨by decide +kernel, by decide +kernel⟩, List.mem_of_getElem? (i := 702) (by decide +kernel), List.mem_of_getElem? (i := 797) (by decide +kernel), List.mem_of_getElem? (i := 798) (by decide +kernel)⟩
theorem lw_p23 : lw_okq (⟨"RopeTreatyModel", "of", "(II)I"⟩, 21) := ⟨⟨by decide +kernel, by decide +kernel⟩, List.mem_of_getElem? (i := 702) (by decide +kernel), List.mem_of_getElem? (i := 801) (by decide +kernel), List.mem_of_getElem? (i := 802) (by decide +kernel)⟩
theorem lw_p24 : lw_okq (⟨"RopeTreatyModel", "costsOf", "(I)I"⟩, 21) := ⟨⟨by decide +kernel, by decide +kernel⟩, List.mem_of_getElem? (i := 702) (by decide +kernel), List.mem_of_getElem? (i := 805) (by decide +kernel), List.mem_of_getElem? (i := 806) (by decide +kernel)⟩
theorem lw_p25 : lw_okq (⟨"RopeTreatyModel", "takesOf", "(I)I"⟩, 21) := ⟨⟨by decide +kernel, by decide +kernel⟩, List.mem_of_getElem? (i := 702) (by decide +kernel), List.mem_of_getElem? (i := 809) (by decide +kernel), List.mem_of_getElem? (i := 810) (by decide +kernel)⟩
theorem lw_p26 : lw_okq (⟨"RopeTreatyModel", "word", "()I"⟩, 21) := ⟨⟨by decide +kernel, by decide +kernel⟩, List.mem_of_getElem? (i := 702) (by decide +kernel), List.mem_of_getElem? (i := 813) (by decide +kernel), List.mem_of_getElem? (i := 814) (by decide +kernel)⟩
theorem lw_p27 : lw_okq (⟨"RopeTreatyModel", "allIn", "()I"⟩, 21) := ⟨⟨by decide +kernel, by decide +kernel⟩, List.mem_of_getElem? (i := 702) (by decide +kernel), List.mem_of_getElem? (i := 817) (by decide +kernel), List.mem_of_getElem? (i := 818) (by decide +kernel)⟩
theorem lw_p28 : lw_okq (⟨"RopeTreatyModel", "isIn", "(I)Z"⟩, 21) := ⟨⟨by decide +kernel, by decide +kernel⟩, List.mem_of_getElem? (i := 702) (by decide +kernel), List.mem_of_getElem? (i := 821) (by decide +kernel), List.mem_of_getElem? (i := 822) (by decide +kernel)⟩
theorem lw_p29 : lw_okq (⟨"RopeTreatyModel", "gives", "(IIII)I"⟩, 21) := ⟨⟨by decide +kernel, by decide +kernel⟩, List.mem_of_getElem? (i := 702) (by decide +kernel), List.mem_of_getElem? (i := 828) (by decide +kernel), List.mem_of_getElem? (i := 829) (by decide +kernel)⟩
theorem lw_p30 : lw_okq (⟨"RopeTreatyModel", "works", "(I)I"⟩, 21) := ⟨⟨by decide +kernel, by decide +kernel⟩, List.mem_of_getElem? (i := 702) (by decide +kernel), List.mem_of_getElem? (i := 832) (by decide +kernel), List.mem_of_getElem? (i := 833) (by decide +kernel)⟩
theorem lw_p31 : lw_okq (⟨"RopeTreatyModel", "becomes", "(II)I"⟩, 21) := ⟨⟨by decide +kernel, by decide +kernel⟩, List.mem_of_getElem? (i := 702) (by decide +kernel), List.mem_of_getElem? (i := 846) (by decide +kernel), List.mem_of_getElem? (i := 847) (by decide +kernel)⟩
def lw_privs_2 : List (MethodName × Nat) := [(⟨"RopeTreaty$Rope", "onlyAgainst", "(I)I"⟩, 15), (⟨"RopeTreaty$Throat", "say", "(IIII)I"⟩, 6), (⟨"RopeTreaty$Throat", "work", "(III)I"⟩, 6), (⟨"RopeTreaty$Throat", "part", "(I)I"⟩, 6), (⟨"RopeTreatyModel", "error", "(I)I"⟩, 21), (⟨"RopeTreatyModel", "lets", "(III)V"⟩, 21), (⟨"RopeTreatyModel", "isJumper", "(I)Z"⟩, 21), (⟨"RopeTreatyModel", "of", "(II)I"⟩, 21), (⟨"RopeTreatyModel", "costsOf", "(I)I"⟩, 21), (⟨"RopeTreatyModel", "takesOf", "(I)I"⟩, 21), (⟨"RopeTreatyModel", "word", "()I"⟩, 21), (⟨"RopeTreatyModel", "allIn", "()I"⟩, 21), (⟨"RopeTreatyModel", "isIn", "(I)Z"⟩, 21), (⟨"RopeTreatyModel", "gives", "(IIII)I"⟩, 21), (⟨"RopeTreatyModel", "works", "(I)I"⟩, 21), (⟨"RopeTreatyModel", "becomes", "(II)I"⟩, 21)]
theorem lw_r2 : ∀ q ∈ lw_privs_2, lw_okq q := List.forall_mem_cons.mpr ⟨lw_p16, List.forall_mem_cons.mpr ⟨lw_p17, List.forall_mem_cons.mpr ⟨lw_p18, List.forall_mem_cons.mpr ⟨lw_p19, List.forall_mem_cons.mpr ⟨lw_p20, List.forall_mem_cons.mpr ⟨lw_p21, List.forall_mem_cons.mpr ⟨lw_p22, List.forall_mem_cons.mpr ⟨lw_p23, List.forall_mem_cons.mpr ⟨lw_p24, List.forall_mem_cons.mpr ⟨lw_p25, List.forall_mem_cons.mpr ⟨lw_p26, List.forall_mem_cons.mpr ⟨lw_p27, List.forall_mem_cons.mpr ⟨lw_p28, List.forall_mem_cons.mpr ⟨lw_p29, List.forall_mem_cons.mpr ⟨lw_p30, List.forall_mem_cons.mpr ⟨lw_p31, fun _ h => absurd h List.not_mem_nil⟩⟩⟩⟩⟩⟩⟩⟩⟩⟩⟩⟩⟩⟩⟩⟩
theorem lw_p32 : lw_okq (⟨"RopeTreatyModel", "doesTurn", "()Z"⟩, 21) := ⟨⟨by decide +kernel, by decide +kernel⟩, List.mem_of_getElem? (i := 702) (by decide +kernel), List.mem_of_getElem? (i := 859) (by decide +kernel), List.mem_of_getElem? (i := 860) (by decide +kernel)⟩
theorem lw_p33 : lw_okq (⟨"RopeTreatyModel", "likesOf", "(II)I"⟩, 21) := ⟨⟨by decide +kernel, by decide +kernel⟩, List.mem_of_getElem? (i := 702) (by decide +kernel), List.mem_of_getElem? (i := 883) (by decide +kernel), List.mem_of_getElem? (i := 884) (by decide +kernel)⟩
theorem lw_p34 : lw_okq (⟨"RopeTreatyModel", "leansOf", "(II)I"⟩, 21) := ⟨⟨by decide +kernel, by decide +kernel⟩, List.mem_of_getElem? (i := 702) (by decide +kernel), List.mem_of_getElem? (i := 887) (by decide +kernel), List.mem_of_getElem? (i := 888) (by decide +kernel)⟩
theorem lw_p35 : lw_okq (⟨"RopeTreatyModel", "mayTalk", "(I)Z"⟩, 21) := ⟨⟨by decide +kernel, by decide +kernel⟩, List.mem_of_getElem? (i := 702) (by decide +kernel), List.mem_of_getElem? (i := 895) (by decide +kernel), List.mem_of_getElem? (i := 896) (by decide +kernel)⟩
theorem lw_p36 : lw_okq (⟨"RopeTreatyModel", "talks", "(I)Z"⟩, 21) := ⟨⟨by decide +kernel, by decide +kernel⟩, List.mem_of_getElem? (i := 702) (by decide +kernel), List.mem_of_getElem? (i := 899) (by decide +kernel), List.mem_of_getElem? (i := 900) (by decide +kernel)⟩
theorem lw_p37 : lw_okq (⟨"RopeTreatyModel", "isTaken", "(I)Z"⟩, 21) := ⟨⟨by decide +kernel, by decide +kernel⟩, List.mem_of_getElem? (i := 702) (by decide +kernel), List.mem_of_getElem? (i := 903) (by decide +kernel), List.mem_of_getElem? (i := 904) (by decide +kernel)⟩
theorem lw_p38 : lw_okq (⟨"RopeTreatyModel", "doesTake", "(II)Z"⟩, 21) := ⟨⟨by decide +kernel, by decide +kernel⟩, List.mem_of_getElem? (i := 702) (by decide +kernel), List.mem_of_getElem? (i := 907) (by decide +kernel), List.mem_of_getElem? (i := 908) (by decide +kernel)⟩
theorem lw_p39 : lw_okq (⟨"RopeTreatyModel", "any", "()V"⟩, 21) := ⟨⟨by decide +kernel, by decide +kernel⟩, List.mem_of_getElem? (i := 702) (by decide +kernel), List.mem_of_getElem? (i := 920) (by decide +kernel), List.mem_of_getElem? (i := 921) (by decide +kernel)⟩
theorem lw_p40 : lw_okq (⟨"RopeTreatyModel", "all", "()V"⟩, 21) := ⟨⟨by decide +kernel, by decide +kernel⟩, List.mem_of_getElem? (i := 702) (by decide +kernel), List.mem_of_getElem? (i := 924) (by decide +kernel), List.mem_of_getElem? (i := 925) (by decide +kernel)⟩
theorem lw_p41 : lw_okq (⟨"RopeTreatyModel", "compares", "()V"⟩, 21) := ⟨⟨by decide +kernel, by decide +kernel⟩, List.mem_of_getElem? (i := 702) (by decide +kernel), List.mem_of_getElem? (i := 928) (by decide +kernel), List.mem_of_getElem? (i := 929) (by decide +kernel)⟩
theorem lw_p42 : lw_okq (⟨"RopeTreatyModel", "sum", "()V"⟩, 21) := ⟨⟨by decide +kernel, by decide +kernel⟩, List.mem_of_getElem? (i := 702) (by decide +kernel), List.mem_of_getElem? (i := 932) (by decide +kernel), List.mem_of_getElem? (i := 933) (by decide +kernel)⟩
theorem lw_p43 : lw_okq (⟨"RopeTreatyModel", "times", "()V"⟩, 21) := ⟨⟨by decide +kernel, by decide +kernel⟩, List.mem_of_getElem? (i := 702) (by decide +kernel), List.mem_of_getElem? (i := 936) (by decide +kernel), List.mem_of_getElem? (i := 937) (by decide +kernel)⟩
theorem lw_p44 : lw_okq (⟨"RopeTreatyModel", "one", "()V"⟩, 21) := ⟨⟨by decide +kernel, by decide +kernel⟩, List.mem_of_getElem? (i := 702) (by decide +kernel), List.mem_of_getElem? (i := 940) (by decide +kernel), List.mem_of_getElem? (i := 941) (by decide +kernel)⟩
theorem lw_p45 : lw_okq (⟨"RopeTreatyModel", "look", "()I"⟩, 21) := ⟨⟨by decide +kernel, by decide +kernel⟩, List.mem_of_getElem? (i := 702) (by decide +kernel), List.mem_of_getElem? (i := 944) (by decide +kernel), List.mem_of_getElem? (i := 945) (by decide +kernel)⟩
theorem lw_p46 : lw_okq (⟨"RopeTreatyModel", "nameOf", "(I)I"⟩, 21) := ⟨⟨by decide +kernel, by decide +kernel⟩, List.mem_of_getElem? (i := 702) (by decide +kernel), List.mem_of_getElem? (i := 948) (by decide +kernel), List.mem_of_getElem? (i := 949) (by decide +kernel)⟩
theorem lw_p47 : lw_okq (⟨"RopeTreatyModel", "lays", "(II)V"⟩, 21) := ⟨⟨by decide +kernel, by decide +kernel⟩, List.mem_of_getElem? (i := 702) (by decide +kernel), List.mem_of_getElem? (i := 952) (by decide +kernel), List.mem_of_getElem? (i := 953) (by decide +kernel)⟩
def lw_privs_3 : List (MethodName × Nat) := [(⟨"RopeTreatyModel", "doesTurn", "()Z"⟩, 21), (⟨"RopeTreatyModel", "likesOf", "(II)I"⟩, 21), (⟨"RopeTreatyModel", "leansOf", "(II)I"⟩, 21), (⟨"RopeTreatyModel", "mayTalk", "(I)Z"⟩, 21), (⟨"RopeTreatyModel", "talks", "(I)Z"⟩, 21), (⟨"RopeTreatyModel", "isTaken", "(I)Z"⟩, 21), (⟨"RopeTreatyModel", "doesTake", "(II)Z"⟩, 21), (⟨"RopeTreatyModel", "any", "()V"⟩, 21), (⟨"RopeTreatyModel", "all", "()V"⟩, 21), (⟨"RopeTreatyModel", "compares", "()V"⟩, 21), (⟨"RopeTreatyModel", "sum", "()V"⟩, 21), (⟨"RopeTreatyModel", "times", "()V"⟩, 21), (⟨"RopeTreatyModel", "one", "()V"⟩, 21), (⟨"RopeTreatyModel", "look", "()I"⟩, 21), (⟨"RopeTreatyModel", "nameOf", "(I)I"⟩, 21), (⟨"RopeTreatyModel", "lays", "(II)V"⟩, 21)]
theorem lw_r3 : ∀ q ∈ lw_privs_3, lw_okq q := List.forall_mem_cons.mpr ⟨lw_p32, List.forall_mem_cons.mpr ⟨lw_p33, List.forall_mem_cons.mpr ⟨lw_p34, List.forall_mem_cons.mpr ⟨lw_p35, List.forall_mem_cons.mpr ⟨lw_p36, List.forall_mem_cons.mpr ⟨lw_p37, List.forall_mem_cons.mpr ⟨lw_p38, List.forall_mem_cons.mpr ⟨lw_p39, List.forall_mem_cons.mpr ⟨lw_p40, List.forall_mem_cons.mpr ⟨lw_p41, List.forall_mem_cons.mpr ⟨lw_p42, List.forall_mem_cons.mpr ⟨lw_p43, List.forall_mem_cons.mpr ⟨lw_p44, List.forall_mem_cons.mpr ⟨lw_p45, List.forall_mem_cons.mpr ⟨lw_p46, List.forall_mem_cons.mpr ⟨lw_p47, fun _ h => absurd h List.not_mem_nil⟩⟩⟩⟩⟩⟩⟩⟩⟩⟩⟩⟩⟩⟩⟩⟩
theorem lw_p48 : lw_okq (⟨"RopeTreatyModel", "opens", "(I)V"⟩, 21) := ⟨⟨by decide +kernel, by decide +kernel⟩, List.mem_of_getElem? (i := 702) (by decide +kernel), List.mem_of_getElem? (i := 956) (by decide +kernel), List.mem_of_getElem? (i := 957) (by decide +kernel)⟩
theorem lw_p49 : lw_okq (⟨"RopeTreatyModel", "number", "()V"⟩, 21) := ⟨⟨by decide +kernel, by decide +kernel⟩, List.mem_of_getElem? (i := 702) (by decide +kernel), List.mem_of_getElem? (i := 960) (by decide +kernel), List.mem_of_getElem? (i := 961) (by decide +kernel)⟩
theorem lw_p50 : lw_okq (⟨"RopeTreatyModel", "goes", "()I"⟩, 21) := ⟨⟨by decide +kernel, by decide +kernel⟩, List.mem_of_getElem? (i := 702) (by decide +kernel), List.mem_of_getElem? (i := 977) (by decide +kernel), List.mem_of_getElem? (i := 978) (by decide +kernel)⟩
theorem lw_p51 : lw_okq (⟨"RopeTreatyModel", "misses", "(I)Z"⟩, 21) := ⟨⟨by decide +kernel, by decide +kernel⟩, List.mem_of_getElem? (i := 702) (by decide +kernel), List.mem_of_getElem? (i := 981) (by decide +kernel), List.mem_of_getElem? (i := 982) (by decide +kernel)⟩
theorem lw_p52 : lw_okq (⟨"RopeTreatyModel", "drawn", "()Z"⟩, 21) := ⟨⟨by decide +kernel, by decide +kernel⟩, List.mem_of_getElem? (i := 702) (by decide +kernel), List.mem_of_getElem? (i := 989) (by decide +kernel), List.mem_of_getElem? (i := 990) (by decide +kernel)⟩
theorem lw_p53 : lw_okq (⟨"RopeTreatyModel", "draw", "()I"⟩, 21) := ⟨⟨by decide +kernel, by decide +kernel⟩, List.mem_of_getElem? (i := 702) (by decide +kernel), List.mem_of_getElem? (i := 993) (by decide +kernel), List.mem_of_getElem? (i := 994) (by decide +kernel)⟩
theorem lw_p54 : lw_okq (⟨"RopeTreatyModel", "thinks", "()V"⟩, 21) := ⟨⟨by decide +kernel, by decide +kernel⟩, List.mem_of_getElem? (i := 702) (by decide +kernel), List.mem_of_getElem? (i := 1006) (by decide +kernel), List.mem_of_getElem? (i := 1007) (by decide +kernel)⟩
theorem lw_p55 : lw_okq (⟨"RopeTreatyModel", "goesFor", "(I)V"⟩, 21) := ⟨⟨by decide +kernel, by decide +kernel⟩, List.mem_of_getElem? (i := 702) (by decide +kernel), List.mem_of_getElem? (i := 1013) (by decide +kernel), List.mem_of_getElem? (i := 1014) (by decide +kernel)⟩
theorem lw_p56 : lw_okq (⟨"RopeTreatyModel", "putsBack", "()V"⟩, 21) := ⟨⟨by decide +kernel, by decide +kernel⟩, List.mem_of_getElem? (i := 702) (by decide +kernel), List.mem_of_getElem? (i := 1017) (by decide +kernel), List.mem_of_getElem? (i := 1018) (by decide +kernel)⟩
theorem lw_p57 : lw_okq (⟨"RopeTreatyModel", "leastLiking", "(I)I"⟩, 21) := ⟨⟨by decide +kernel, by decide +kernel⟩, List.mem_of_getElem? (i := 702) (by decide +kernel), List.mem_of_getElem? (i := 1034) (by decide +kernel), List.mem_of_getElem? (i := 1035) (by decide +kernel)⟩
theorem lw_p58 : lw_okq (⟨"RopeTreatyModel", "balksOf", "(I)I"⟩, 21) := ⟨⟨by decide +kernel, by decide +kernel⟩, List.mem_of_getElem? (i := 702) (by decide +kernel), List.mem_of_getElem? (i := 1042) (by decide +kernel), List.mem_of_getElem? (i := 1043) (by decide +kernel)⟩
theorem lw_p59 : lw_okq (⟨"RopeTreatyModel", "whoAlone", "(I)I"⟩, 21) := ⟨⟨by decide +kernel, by decide +kernel⟩, List.mem_of_getElem? (i := 702) (by decide +kernel), List.mem_of_getElem? (i := 1046) (by decide +kernel), List.mem_of_getElem? (i := 1047) (by decide +kernel)⟩
theorem lw_p60 : lw_okq (⟨"RopeTreatyModel", "notThere", "(I)I"⟩, 21) := ⟨⟨by decide +kernel, by decide +kernel⟩, List.mem_of_getElem? (i := 702) (by decide +kernel), List.mem_of_getElem? (i := 1066) (by decide +kernel), List.mem_of_getElem? (i := 1067) (by decide +kernel)⟩
theorem lw_p61 : lw_okq (⟨"RopeTreatyModel", "isSo", "(I)Z"⟩, 21) := ⟨⟨by decide +kernel, by decide +kernel⟩, List.mem_of_getElem? (i := 702) (by decide +kernel), List.mem_of_getElem? (i := 1073) (by decide +kernel), List.mem_of_getElem? (i := 1074) (by decide +kernel)⟩
theorem lw_p62 : lw_okq (⟨"RopeTreatyModel", "sings", "(II)I"⟩, 21) := ⟨⟨by decide +kernel, by decide +kernel⟩, List.mem_of_getElem? (i := 702) (by decide +kernel), List.mem_of_getElem? (i := 1081) (by decide +kernel), List.mem_of_getElem? (i := 1082) (by decide +kernel)⟩
theorem lw_p63 : lw_okq (⟨"RopeTreatyModel", "masterSings", "(II)I"⟩, 21) := ⟨⟨by decide +kernel, by decide +kernel⟩, List.mem_of_getElem? (i := 702) (by decide +kernel), List.mem_of_getElem? (i := 1085) (by decide +kernel), List.mem_of_getElem? (i := 1086) (by decide +kernel)⟩
def lw_privs_4 : List (MethodName × Nat) := [(⟨"RopeTreatyModel", "opens", "(I)V"⟩, 21), (⟨"RopeTreatyModel", "number", "()V"⟩, 21), (⟨"RopeTreatyModel", "goes", "()I"⟩, 21), (⟨"RopeTreatyModel", "misses", "(I)Z"⟩, 21), (⟨"RopeTreatyModel", "drawn", "()Z"⟩, 21), (⟨"RopeTreatyModel", "draw", "()I"⟩, 21), (⟨"RopeTreatyModel", "thinks", "()V"⟩, 21), (⟨"RopeTreatyModel", "goesFor", "(I)V"⟩, 21), (⟨"RopeTreatyModel", "putsBack", "()V"⟩, 21), (⟨"RopeTreatyModel", "leastLiking", "(I)I"⟩, 21), (⟨"RopeTreatyModel", "balksOf", "(I)I"⟩, 21), (⟨"RopeTreatyModel", "whoAlone", "(I)I"⟩, 21), (⟨"RopeTreatyModel", "notThere", "(I)I"⟩, 21), (⟨"RopeTreatyModel", "isSo", "(I)Z"⟩, 21), (⟨"RopeTreatyModel", "sings", "(II)I"⟩, 21), (⟨"RopeTreatyModel", "masterSings", "(II)I"⟩, 21)]
theorem lw_r4 : ∀ q ∈ lw_privs_4, lw_okq q := List.forall_mem_cons.mpr ⟨lw_p48, List.forall_mem_cons.mpr ⟨lw_p49, List.forall_mem_cons.mpr ⟨lw_p50, List.forall_mem_cons.mpr ⟨lw_p51, List.forall_mem_cons.mpr ⟨lw_p52, List.forall_mem_cons.mpr ⟨lw_p53, List.forall_mem_cons.mpr ⟨lw_p54, List.forall_mem_cons.mpr ⟨lw_p55, List.forall_mem_cons.mpr ⟨lw_p56, List.forall_mem_cons.mpr ⟨lw_p57, List.forall_mem_cons.mpr ⟨lw_p58, List.forall_mem_cons.mpr ⟨lw_p59, List.forall_mem_cons.mpr ⟨lw_p60, List.forall_mem_cons.mpr ⟨lw_p61, List.forall_mem_cons.mpr ⟨lw_p62, List.forall_mem_cons.mpr ⟨lw_p63, fun _ h => absurd h List.not_mem_nil⟩⟩⟩⟩⟩⟩⟩⟩⟩⟩⟩⟩⟩⟩⟩⟩
theorem lw_p64 : lw_okq (⟨"RopeTreatyModel", "begins", "(I)V"⟩, 21) := ⟨⟨by decide +kernel, by decide +kernel⟩, List.mem_of_getElem? (i := 702) (by decide +kernel), List.mem_of_getElem? (i := 1089) (by decide +kernel), List.mem_of_getElem? (i := 1090) (by decide +kernel)⟩
theorem lw_p65 : lw_okq (⟨"RopeTreatyModel", "plainSings", "(II)I"⟩, 21) := ⟨⟨by decide +kernel, by decide +kernel⟩, List.mem_of_getElem? (i := 702) (by decide +kernel), List.mem_of_getElem? (i := 1093) (by decide +kernel), List.mem_of_getElem? (i := 1094) (by decide +kernel)⟩
theorem lw_p66 : lw_okq (⟨"RopeTreatyModel", "jumps", "(II)I"⟩, 21) := ⟨⟨by decide +kernel, by decide +kernel⟩, List.mem_of_getElem? (i := 702) (by decide +kernel), List.mem_of_getElem? (i := 1097) (by decide +kernel), List.mem_of_getElem? (i := 1098) (by decide +kernel)⟩
theorem lw_p67 : lw_okq (⟨"RopeTreatyModel", "conJumps", "(II)I"⟩, 21) := ⟨⟨by decide +kernel, by decide +kernel⟩, List.mem_of_getElem? (i := 702) (by decide +kernel), List.mem_of_getElem? (i := 1101) (by decide +kernel), List.mem_of_getElem? (i := 1102) (by decide +kernel)⟩
theorem lw_p68 : lw_okq (⟨"RopeTreatyModel", "plainJumps", "(II)I"⟩, 21) := ⟨⟨by decide +kernel, by decide +kernel⟩, List.mem_of_getElem? (i := 702) (by decide +kernel), List.mem_of_getElem? (i := 1105) (by decide +kernel), List.mem_of_getElem? (i := 1106) (by decide +kernel)⟩
theorem lw_p69 : lw_okq (⟨"RopeTreatyModel", "claps", "(II)I"⟩, 21) := ⟨⟨by decide +kernel, by decide +kernel⟩, List.mem_of_getElem? (i := 702) (by decide +kernel), List.mem_of_getElem? (i := 1109) (by decide +kernel), List.mem_of_getElem? (i := 1110) (by decide +kernel)⟩
theorem lw_p70 : lw_okq (⟨"RopeTreatyModel", "plainClaps", "(II)I"⟩, 21) := ⟨⟨by decide +kernel, by decide +kernel⟩, List.mem_of_getElem? (i := 702) (by decide +kernel), List.mem_of_getElem? (i := 1113) (by decide +kernel), List.mem_of_getElem? (i := 1114) (by decide +kernel)⟩
theorem lw_p71 : lw_okq (⟨"RopeTreatyModel", "partsBy", "(II)I"⟩, 21) := ⟨⟨by decide +kernel, by decide +kernel⟩, List.mem_of_getElem? (i := 702) (by decide +kernel), List.mem_of_getElem? (i := 1117) (by decide +kernel), List.mem_of_getElem? (i := 1118) (by decide +kernel)⟩
theorem lw_p72 : lw_okq (⟨"RopeTreatyModel", "plainParts", "(II)I"⟩, 21) := ⟨⟨by decide +kernel, by decide +kernel⟩, List.mem_of_getElem? (i := 702) (by decide +kernel), List.mem_of_getElem? (i := 1121) (by decide +kernel), List.mem_of_getElem? (i := 1122) (by decide +kernel)⟩
theorem lw_p73 : lw_okq (⟨"RopeTreatyModel", "notMoved", "(IIIII)I"⟩, 21) := ⟨⟨by decide +kernel, by decide +kernel⟩, List.mem_of_getElem? (i := 702) (by decide +kernel), List.mem_of_getElem? (i := 1142) (by decide +kernel), List.mem_of_getElem? (i := 1143) (by decide +kernel)⟩
def lw_privs_5 : List (MethodName × Nat) := [(⟨"RopeTreatyModel", "begins", "(I)V"⟩, 21), (⟨"RopeTreatyModel", "plainSings", "(II)I"⟩, 21), (⟨"RopeTreatyModel", "jumps", "(II)I"⟩, 21), (⟨"RopeTreatyModel", "conJumps", "(II)I"⟩, 21), (⟨"RopeTreatyModel", "plainJumps", "(II)I"⟩, 21), (⟨"RopeTreatyModel", "claps", "(II)I"⟩, 21), (⟨"RopeTreatyModel", "plainClaps", "(II)I"⟩, 21), (⟨"RopeTreatyModel", "partsBy", "(II)I"⟩, 21), (⟨"RopeTreatyModel", "plainParts", "(II)I"⟩, 21), (⟨"RopeTreatyModel", "notMoved", "(IIIII)I"⟩, 21)]
theorem lw_r5 : ∀ q ∈ lw_privs_5, lw_okq q := List.forall_mem_cons.mpr ⟨lw_p64, List.forall_mem_cons.mpr ⟨lw_p65, List.forall_mem_cons.mpr ⟨lw_p66, List.forall_mem_cons.mpr ⟨lw_p67, List.forall_mem_cons.mpr ⟨lw_p68, List.forall_mem_cons.mpr ⟨lw_p69, List.forall_mem_cons.mpr ⟨lw_p70, List.forall_mem_cons.mpr ⟨lw_p71, List.forall_mem_cons.mpr ⟨lw_p72, List.forall_mem_cons.mpr ⟨lw_p73, fun _ h => absurd h List.not_mem_nil⟩⟩⟩⟩⟩⟩⟩⟩⟩⟩
def lw_privs : List (MethodName × Nat) := lw_privs_1 ++ (lw_privs_2 ++ (lw_privs_3 ++ (lw_privs_4 ++ (lw_privs_5))))
def lw_tbl : List Cond := k2_sels lw_privs ++ tables_1
theorem lw_privs_ok : ∀ q ∈ lw_privs, lw_okq q := by
  show ∀ q ∈ lw_privs_1 ++ (lw_privs_2 ++ (lw_privs_3 ++ (lw_privs_4 ++ (lw_privs_5)))), lw_okq q
  exact List.forall_mem_append.mpr ⟨lw_r1, List.forall_mem_append.mpr ⟨lw_r2, List.forall_mem_append.mpr ⟨lw_r3, List.forall_mem_append.mpr ⟨lw_r4, lw_r5⟩⟩⟩⟩
end
section
def RX0 : String := "RopeTreaty$Reader"
def TX0 : u_T := fun k => match k with
  | 0 => ("RopeTreaty$Reader", "code", "[I", true)
  | 1 => ("RopeTreaty$Reader", "codes", "I", false)
  | 2 => ("RopeTreaty$Reader", "bytes", "[I", true)
  | 3 => ("RopeTreaty$Reader", "length", "I", false)
  | 4 => ("RopeTreaty$Reader", "place", "I", false)
  | 5 => ("RopeTreaty$Reader", "use", "I", false)
  | _ => ("RopeTreaty$Reader", "failed", "Z", false)
def tyX0 : Nat → FieldType := fun k => match k with
  | 0 => .array .int
  | 1 => .int
  | 2 => .array .int
  | 3 => .int
  | 4 => .int
  | 5 => .int
  | _ => .boolean
abbrev wsX00 : List Cond := u_ws RX0 TX0 7
theorem nmX0 : ∀ a, a < 7 → ∀ b, b < 7 → a ≠ b → (TX0 a).2.1 ≠ (TX0 b).2.1 := by decide +kernel
theorem tyX0_ok : ∀ k, k < 7 → parseFieldDescriptor (TX0 k).2.2.1 = some (tyX0 k) := by decide +kernel
abbrev cX0_init : ByteArray := prog_2_method_1_code
def yX0_init : MethodName := ⟨RX0, "<init>", "()V"⟩
abbrev cX0_read : ByteArray := prog_2_method_2_code
def yX0_read : MethodName := ⟨RX0, "read", "(LRopeTreaty$Tape;I)I"⟩
abbrev cX0_readOr : ByteArray := prog_2_method_3_code
def yX0_readOr : MethodName := ⟨RX0, "readOr", "(I)V"⟩
abbrev cX0_readAnd : ByteArray := prog_2_method_4_code
def yX0_readAnd : MethodName := ⟨RX0, "readAnd", "(I)V"⟩
abbrev cX0_readLikeness : ByteArray := prog_2_method_5_code
def yX0_readLikeness : MethodName := ⟨RX0, "readLikeness", "(I)V"⟩
abbrev cX0_readSum : ByteArray := prog_2_method_6_code
def yX0_readSum : MethodName := ⟨RX0, "readSum", "(I)V"⟩
abbrev cX0_readProduct : ByteArray := prog_2_method_7_code
def yX0_readProduct : MethodName := ⟨RX0, "readProduct", "(I)V"⟩
abbrev cX0_readPart : ByteArray := prog_2_method_8_code
def yX0_readPart : MethodName := ⟨RX0, "readPart", "(I)V"⟩
abbrev cX0_readNumber : ByteArray := prog_2_method_9_code
def yX0_readNumber : MethodName := ⟨RX0, "readNumber", "()V"⟩
abbrev cX0_close : ByteArray := prog_2_method_10_code
def yX0_close : MethodName := ⟨RX0, "close", "()V"⟩
abbrev cX0_nextName : ByteArray := prog_2_method_11_code
def yX0_nextName : MethodName := ⟨RX0, "nextName", "()I"⟩
abbrev cX0_isDigit : ByteArray := prog_2_method_12_code
def yX0_isDigit : MethodName := ⟨RX0, "isDigit", "()Z"⟩
abbrev cX0_isNext : ByteArray := prog_2_method_13_code
def yX0_isNext : MethodName := ⟨RX0, "isNext", "(C)Z"⟩
abbrev cX0_write : ByteArray := prog_2_method_14_code
def yX0_write : MethodName := ⟨RX0, "write", "(I)V"⟩
def RX1 : String := "RopeTreaty$Rope"
def TX1 : u_T := fun k => match k with
  | 0 => ("RopeTreaty$Rope", "texts", "[LRopeTreaty$Text;", true)
  | 1 => ("RopeTreaty$Rope", "kind", "[I", true)
  | 2 => ("RopeTreaty$Rope", "mark", "[I", true)
  | 3 => ("RopeTreaty$Rope", "breath", "[I", true)
  | 4 => ("RopeTreaty$Rope", "side", "[I", true)
  | 5 => ("RopeTreaty$Rope", "in", "[I", true)
  | 6 => ("RopeTreaty$Rope", "arm", "[I", true)
  | 7 => ("RopeTreaty$Rope", "price", "[I", true)
  | 8 => ("RopeTreaty$Rope", "alone", "[I", true)
  | 9 => ("RopeTreaty$Rope", "jumpers", "I", false)
  | 10 => ("RopeTreaty$Rope", "beat", "I", false)
  | 11 => ("RopeTreaty$Rope", "treaty", "I", false)
  | 12 => ("RopeTreaty$Rope", "bar", "I", false)
  | 13 => ("RopeTreaty$Rope", "misses", "I", false)
  | _ => ("RopeTreaty$Rope", "z", "I", false)
def tyX1 : Nat → FieldType := fun k => match k with
  | 0 => .array (.object "RopeTreaty$Text")
  | 1 => .array .int
  | 2 => .array .int
  | 3 => .array .int
  | 4 => .array .int
  | 5 => .array .int
  | 6 => .array .int
  | 7 => .array .int
  | 8 => .array .int
  | 9 => .int
  | 10 => .int
  | 11 => .int
  | 12 => .int
  | 13 => .int
  | _ => .int
abbrev wsX10 : List Cond := u_ws RX1 TX1 15
theorem nmX1 : ∀ a, a < 15 → ∀ b, b < 15 → a ≠ b → (TX1 a).2.1 ≠ (TX1 b).2.1 := by decide +kernel
theorem tyX1_ok : ∀ k, k < 15 → parseFieldDescriptor (TX1 k).2.2.1 = some (tyX1 k) := by decide +kernel
abbrev cX1_init : ByteArray := prog_3_method_1_code
def yX1_init : MethodName := ⟨RX1, "<init>", "([LRopeTreaty$Text;)V"⟩
abbrev cX1_copy : ByteArray := prog_3_method_2_code
def yX1_copy : MethodName := ⟨RX1, "copy", "(LRopeTreaty$Rope;)V"⟩
abbrev cX1_has : ByteArray := prog_3_method_3_code
def yX1_has : MethodName := ⟨RX1, "has", "(I)Z"⟩
abbrev cX1_add : ByteArray := prog_3_method_4_code
def yX1_add : MethodName := ⟨RX1, "add", "(III)I"⟩
abbrev cX1_setKindAndMark : ByteArray := prog_3_method_5_code
def yX1_setKindAndMark : MethodName := ⟨RX1, "setKindAndMark", "(II)V"⟩
abbrev cX1_word : ByteArray := prog_3_method_6_code
def yX1_word : MethodName := ⟨RX1, "word", "()I"⟩
abbrev cX1_turns : ByteArray := prog_3_method_7_code
def yX1_turns : MethodName := ⟨RX1, "turns", "()Z"⟩
abbrev cX1_mayTalk : ByteArray := prog_3_method_8_code
def yX1_mayTalk : MethodName := ⟨RX1, "mayTalk", "()Z"⟩
abbrev cX1_howManyIn : ByteArray := prog_3_method_9_code
def yX1_howManyIn : MethodName := ⟨RX1, "howManyIn", "()I"⟩
abbrev cX1_setIn : ByteArray := prog_3_method_10_code
def yX1_setIn : MethodName := ⟨RX1, "setIn", "()I"⟩
abbrev cX1_takes : ByteArray := prog_3_method_11_code
def yX1_takes : MethodName := ⟨RX1, "takes", "(I)I"⟩
abbrev cX1_leans : ByteArray := prog_3_method_12_code
def yX1_leans : MethodName := ⟨RX1, "leans", "(II)I"⟩
abbrev cX1_costs : ByteArray := prog_3_method_13_code
def yX1_costs : MethodName := ⟨RX1, "costs", "(I)I"⟩
abbrev cX1_likes : ByteArray := prog_3_method_14_code
def yX1_likes : MethodName := ⟨RX1, "likes", "(II)I"⟩
abbrev cX1_isTaken : ByteArray := prog_3_method_15_code
def yX1_isTaken : MethodName := ⟨RX1, "isTaken", "(I)Z"⟩
abbrev cX1_leastLiking : ByteArray := prog_3_method_16_code
def yX1_leastLiking : MethodName := ⟨RX1, "leastLiking", "(I)I"⟩
abbrev cX1_whoBalks : ByteArray := prog_3_method_17_code
def yX1_whoBalks : MethodName := ⟨RX1, "whoBalks", "()I"⟩
abbrev cX1_onlyAgainst : ByteArray := prog_3_method_18_code
def yX1_onlyAgainst : MethodName := ⟨RX1, "onlyAgainst", "(I)I"⟩
abbrev cX1_pass : ByteArray := prog_3_method_19_code
def yX1_pass : MethodName := ⟨RX1, "pass", "()I"⟩
abbrev cX1_skip : ByteArray := prog_3_method_20_code
def yX1_skip : MethodName := ⟨RX1, "skip", "(I)I"⟩
abbrev cX1_passByDraws : ByteArray := prog_3_method_21_code
def yX1_passByDraws : MethodName := ⟨RX1, "passByDraws", "()I"⟩
abbrev cX1_draw : ByteArray := prog_3_method_22_code
def yX1_draw : MethodName := ⟨RX1, "draw", "()I"⟩
abbrev cX1_breathsRight : ByteArray := prog_3_method_23_code
def yX1_breathsRight : MethodName := ⟨RX1, "breathsRight", "(LRopeTreaty$Row;)I"⟩
abbrev cX1_costsRight : ByteArray := prog_3_method_24_code
def yX1_costsRight : MethodName := ⟨RX1, "costsRight", "(LRopeTreaty$Row;)I"⟩
abbrev cX1_takeBreaths : ByteArray := prog_3_method_25_code
def yX1_takeBreaths : MethodName := ⟨RX1, "takeBreaths", "(LRopeTreaty$Row;)I"⟩
def RX2 : String := "RopeTreaty$Row"
def TX2 : u_T := fun k => match k with
  | 0 => ("RopeTreaty$Row", "numbers", "[I", true)
  | 1 => ("RopeTreaty$Row", "bits", "I", false)
  | _ => ("RopeTreaty$Row", "length", "I", false)
def tyX2 : Nat → FieldType := fun k => match k with
  | 0 => .array .int
  | 1 => .int
  | _ => .int
abbrev wsX20 : List Cond := u_ws RX2 TX2 3
theorem nmX2 : ∀ a, a < 3 → ∀ b, b < 3 → a ≠ b → (TX2 a).2.1 ≠ (TX2 b).2.1 := by decide +kernel
theorem tyX2_ok : ∀ k, k < 3 → parseFieldDescriptor (TX2 k).2.2.1 = some (tyX2 k) := by decide +kernel
abbrev cX2_init : ByteArray := prog_4_method_1_code
def yX2_init : MethodName := ⟨RX2, "<init>", "()V"⟩
abbrev cX2_isMissing : ByteArray := prog_4_method_2_code
def yX2_isMissing : MethodName := ⟨RX2, "isMissing", "()Z"⟩
abbrev cX2_begin : ByteArray := prog_4_method_3_code
def yX2_begin : MethodName := ⟨RX2, "begin", "(II)V"⟩
abbrev cX2_lowest : ByteArray := prog_4_method_4_code
def yX2_lowest : MethodName := ⟨RX2, "lowest", "(I)I"⟩
abbrev cX2_holds : ByteArray := prog_4_method_5_code
def yX2_holds : MethodName := ⟨RX2, "holds", "(II)Z"⟩
abbrev cX2_copy : ByteArray := prog_4_method_6_code
def yX2_copy : MethodName := ⟨RX2, "copy", "(LRopeTreaty$Row;)V"⟩
def RX3 : String := "RopeTreaty$Tape"
def TX3 : u_T := fun k => match k with
  | 0 => ("RopeTreaty$Tape", "bytes", "[I", true)
  | _ => ("RopeTreaty$Tape", "length", "I", false)
def tyX3 : Nat → FieldType := fun k => match k with
  | 0 => .array .int
  | _ => .int
abbrev wsX30 : List Cond := u_ws RX3 TX3 2
theorem nmX3 : ∀ a, a < 2 → ∀ b, b < 2 → a ≠ b → (TX3 a).2.1 ≠ (TX3 b).2.1 := by decide +kernel
theorem tyX3_ok : ∀ k, k < 2 → parseFieldDescriptor (TX3 k).2.2.1 = some (tyX3 k) := by decide +kernel
abbrev cX3_init : ByteArray := prog_5_method_1_code
def yX3_init : MethodName := ⟨RX3, "<init>", "()V"⟩
abbrev cX3_add : ByteArray := prog_5_method_2_code
def yX3_add : MethodName := ⟨RX3, "add", "(JI)V"⟩
abbrev cX3_copy : ByteArray := prog_5_method_3_code
def yX3_copy : MethodName := ⟨RX3, "copy", "(LRopeTreaty$Tape;)V"⟩
def RX4 : String := "RopeTreaty$Text"
def TX4 : u_T := fun k => match k with
  | 0 => ("RopeTreaty$Text", "most", "I", true)
  | 1 => ("RopeTreaty$Text", "code", "[I", true)
  | 2 => ("RopeTreaty$Text", "stack", "[I", true)
  | _ => ("RopeTreaty$Text", "length", "I", false)
def tyX4 : Nat → FieldType := fun k => match k with
  | 0 => .int
  | 1 => .array .int
  | 2 => .array .int
  | _ => .int
abbrev wsX40 : List Cond := u_ws RX4 TX4 4
theorem nmX4 : ∀ a, a < 4 → ∀ b, b < 4 → a ≠ b → (TX4 a).2.1 ≠ (TX4 b).2.1 := by decide +kernel
theorem tyX4_ok : ∀ k, k < 4 → parseFieldDescriptor (TX4 k).2.2.1 = some (tyX4 k) := by decide +kernel
abbrev cX4_init : ByteArray := prog_6_method_1_code
def yX4_init : MethodName := ⟨RX4, "<init>", "(I)V"⟩
abbrev cX4_isTold : ByteArray := prog_6_method_2_code
def yX4_isTold : MethodName := ⟨RX4, "isTold", "()Z"⟩
abbrev cX4_learn : ByteArray := prog_6_method_3_code
def yX4_learn : MethodName := ⟨RX4, "learn", "([II)V"⟩
abbrev cX4_copy : ByteArray := prog_6_method_4_code
def yX4_copy : MethodName := ⟨RX4, "copy", "(LRopeTreaty$Text;)V"⟩
abbrev cX4_gives : ByteArray := prog_6_method_5_code
def yX4_gives : MethodName := ⟨RX4, "gives", "(III)I"⟩
abbrev cX4_work : ByteArray := prog_6_method_6_code
def yX4_work : MethodName := ⟨RX4, "work", "(III)I"⟩
abbrev cX4_meaning : ByteArray := prog_6_method_7_code
def yX4_meaning : MethodName := ⟨RX4, "meaning", "(IIII)I"⟩
abbrev cX4_join : ByteArray := prog_6_method_8_code
def yX4_join : MethodName := ⟨RX4, "join", "(III)I"⟩
def RX5 : String := "RopeTreaty$Throat"
def TX5 : u_T := fun k => match k with
  | 0 => ("RopeTreaty$Throat", "trace", "[I", true)
  | 1 => ("RopeTreaty$Throat", "begun", "I", false)
  | 2 => ("RopeTreaty$Throat", "parted", "Z", false)
  | 3 => ("RopeTreaty$Throat", "kind", "I", false)
  | 4 => ("RopeTreaty$Throat", "number", "I", false)
  | _ => ("RopeTreaty$Throat", "mark", "I", false)
def tyX5 : Nat → FieldType := fun k => match k with
  | 0 => .array .int
  | 1 => .int
  | 2 => .boolean
  | 3 => .int
  | 4 => .int
  | _ => .int
abbrev wsX50 : List Cond := u_ws RX5 TX5 6
theorem nmX5 : ∀ a, a < 6 → ∀ b, b < 6 → a ≠ b → (TX5 a).2.1 ≠ (TX5 b).2.1 := by decide +kernel
theorem tyX5_ok : ∀ k, k < 6 → parseFieldDescriptor (TX5 k).2.2.1 = some (tyX5 k) := by decide +kernel
abbrev cX5_init : ByteArray := prog_7_method_1_code
def yX5_init : MethodName := ⟨RX5, "<init>", "()V"⟩
abbrev cX5_speak : ByteArray := prog_7_method_2_code
def yX5_speak : MethodName := ⟨RX5, "speak", "(IIIII)I"⟩
abbrev cX5_say : ByteArray := prog_7_method_3_code
def yX5_say : MethodName := ⟨RX5, "say", "(IIII)I"⟩
abbrev cX5_bodyOf : ByteArray := prog_7_method_4_code
def yX5_bodyOf : MethodName := ⟨RX5, "bodyOf", "(II)I"⟩
abbrev cX5_work : ByteArray := prog_7_method_5_code
def yX5_work : MethodName := ⟨RX5, "work", "(III)I"⟩
abbrev cX5_part : ByteArray := prog_7_method_6_code
def yX5_part : MethodName := ⟨RX5, "part", "(I)I"⟩
def RX6 : String := "RopeTreaty"
def TX6 : u_T := fun k => match k with
  | 0 => ("RopeTreaty", "texts", "[LRopeTreaty$Text;", true)
  | 1 => ("RopeTreaty", "keptTexts", "[LRopeTreaty$Text;", true)
  | 2 => ("RopeTreaty", "now", "LRopeTreaty$Rope;", true)
  | 3 => ("RopeTreaty", "thought", "LRopeTreaty$Rope;", true)
  | 4 => ("RopeTreaty", "kept", "LRopeTreaty$Rope;", true)
  | 5 => ("RopeTreaty", "tape", "LRopeTreaty$Tape;", true)
  | 6 => ("RopeTreaty", "keptTape", "LRopeTreaty$Tape;", true)
  | 7 => ("RopeTreaty", "reader", "LRopeTreaty$Reader;", true)
  | 8 => ("RopeTreaty", "waiting", "LRopeTreaty$Row;", true)
  | 9 => ("RopeTreaty", "keptWaiting", "LRopeTreaty$Row;", true)
  | 10 => ("RopeTreaty", "sheets", "[LRopeTreaty$Row;", true)
  | 11 => ("RopeTreaty", "throat", "LRopeTreaty$Throat;", true)
  | 12 => ("RopeTreaty", "errors", "[I", true)
  | _ => ("RopeTreaty", "images", "I", false)
def tyX6 : Nat → FieldType := fun k => match k with
  | 0 => .array (.object "RopeTreaty$Text")
  | 1 => .array (.object "RopeTreaty$Text")
  | 2 => .object "RopeTreaty$Rope"
  | 3 => .object "RopeTreaty$Rope"
  | 4 => .object "RopeTreaty$Rope"
  | 5 => .object "RopeTreaty$Tape"
  | 6 => .object "RopeTreaty$Tape"
  | 7 => .object "RopeTreaty$Reader"
  | 8 => .object "RopeTreaty$Row"
  | 9 => .object "RopeTreaty$Row"
  | 10 => .array (.object "RopeTreaty$Row")
  | 11 => .object "RopeTreaty$Throat"
  | 12 => .array .int
  | _ => .int
abbrev wsX60 : List Cond := u_ws RX6 TX6 14
theorem nmX6 : ∀ a, a < 14 → ∀ b, b < 14 → a ≠ b → (TX6 a).2.1 ≠ (TX6 b).2.1 := by decide +kernel
theorem tyX6_ok : ∀ k, k < 14 → parseFieldDescriptor (TX6 k).2.2.1 = some (tyX6 k) := by decide +kernel
abbrev cX6_init : ByteArray := prog_1_method_1_code
def yX6_init : MethodName := ⟨RX6, "<init>", "()V"⟩
abbrev cX6_newTexts : ByteArray := prog_1_method_2_code
def yX6_newTexts : MethodName := ⟨RX6, "newTexts", "()[LRopeTreaty$Text;"⟩
abbrev cX6_jumper : ByteArray := prog_1_method_3_code
def yX6_jumper : MethodName := ⟨RX6, "jumper", "(III)I"⟩
abbrev cX6_jumperIs : ByteArray := prog_1_method_4_code
def yX6_jumperIs : MethodName := ⟨RX6, "jumperIs", "(II)I"⟩
abbrev cX6_become : ByteArray := prog_1_method_5_code
def yX6_become : MethodName := ⟨RX6, "become", "(II)I"⟩
abbrev cX6_as : ByteArray := prog_1_method_6_code
def yX6_as : MethodName := ⟨RX6, "as", "(II)I"⟩
abbrev cX6_jump : ByteArray := prog_1_method_7_code
def yX6_jump : MethodName := ⟨RX6, "jump", "(II)I"⟩
abbrev cX6_rest : ByteArray := prog_1_method_8_code
def yX6_rest : MethodName := ⟨RX6, "rest", "(II)I"⟩
abbrev cX6_spell : ByteArray := prog_1_method_9_code
def yX6_spell : MethodName := ⟨RX6, "spell", "(II)I"⟩
abbrev cX6_bar : ByteArray := prog_1_method_10_code
def yX6_bar : MethodName := ⟨RX6, "bar", "(I)I"⟩
abbrev cX6_liking : ByteArray := prog_1_method_11_code
def yX6_liking : MethodName := ⟨RX6, "liking", "(II)I"⟩
abbrev cX6_talk : ByteArray := prog_1_method_12_code
def yX6_talk : MethodName := ⟨RX6, "talk", "(II)I"⟩
abbrev cX6_feed : ByteArray := prog_1_method_13_code
def yX6_feed : MethodName := ⟨RX6, "feed", "(JI)I"⟩
abbrev cX6_text : ByteArray := prog_1_method_14_code
def yX6_text : MethodName := ⟨RX6, "text", "(I)I"⟩
abbrev cX6_untell : ByteArray := prog_1_method_15_code
def yX6_untell : MethodName := ⟨RX6, "untell", "(I)I"⟩
abbrev cX6_law : ByteArray := prog_1_method_16_code
def yX6_law : MethodName := ⟨RX6, "law", "(IIII)I"⟩
abbrev cX6_beats : ByteArray := prog_1_method_17_code
def yX6_beats : MethodName := ⟨RX6, "beats", "(I)I"⟩
abbrev cX6_loose : ByteArray := prog_1_method_18_code
def yX6_loose : MethodName := ⟨RX6, "loose", "(I)I"⟩
abbrev cX6_seed : ByteArray := prog_1_method_19_code
def yX6_seed : MethodName := ⟨RX6, "seed", "(I)I"⟩
abbrev cX6_then : ByteArray := prog_1_method_20_code
def yX6_then : MethodName := ⟨RX6, "then", "(III)I"⟩
abbrev cX6_lasts : ByteArray := prog_1_method_21_code
def yX6_lasts : MethodName := ⟨RX6, "lasts", "(I)I"⟩
abbrev cX6_agree : ByteArray := prog_1_method_22_code
def yX6_agree : MethodName := ⟨RX6, "agree", "(I)I"⟩
abbrev cX6_fairest : ByteArray := prog_1_method_23_code
def yX6_fairest : MethodName := ⟨RX6, "fairest", "(I)I"⟩
abbrev cX6_balks : ByteArray := prog_1_method_24_code
def yX6_balks : MethodName := ⟨RX6, "balks", "(I)I"⟩
abbrev cX6_soon : ByteArray := prog_1_method_25_code
def yX6_soon : MethodName := ⟨RX6, "soon", "(I)I"⟩
abbrev cX6_meets : ByteArray := prog_1_method_26_code
def yX6_meets : MethodName := ⟨RX6, "meets", "(IIII)I"⟩
abbrev cX6_odds : ByteArray := prog_1_method_27_code
def yX6_odds : MethodName := ⟨RX6, "odds", "(II)I"⟩
abbrev cX6_fits : ByteArray := prog_1_method_28_code
def yX6_fits : MethodName := ⟨RX6, "fits", "(I)I"⟩
abbrev cX6_voice : ByteArray := prog_1_method_29_code
def yX6_voice : MethodName := ⟨RX6, "voice", "(III)I"⟩
abbrev cX6_body : ByteArray := prog_1_method_30_code
def yX6_body : MethodName := ⟨RX6, "body", "(I)I"⟩
abbrev cX6_sheet : ByteArray := prog_1_method_31_code
def yX6_sheet : MethodName := ⟨RX6, "sheet", "(III)I"⟩
abbrev cX6_put : ByteArray := prog_1_method_32_code
def yX6_put : MethodName := ⟨RX6, "put", "(III)I"⟩
abbrev cX6_move : ByteArray := prog_1_method_33_code
def yX6_move : MethodName := ⟨RX6, "move", "(IIIII)I"⟩
abbrev cX6_breaths : ByteArray := prog_1_method_34_code
def yX6_breaths : MethodName := ⟨RX6, "breaths", "(I)I"⟩
abbrev cX6_judge : ByteArray := prog_1_method_35_code
def yX6_judge : MethodName := ⟨RX6, "judge", "(I)I"⟩
abbrev cX6_image : ByteArray := prog_1_method_36_code
def yX6_image : MethodName := ⟨RX6, "image", "()I"⟩
abbrev cX6_restore : ByteArray := prog_1_method_37_code
def yX6_restore : MethodName := ⟨RX6, "restore", "()I"⟩
abbrev cX6_tell : ByteArray := prog_1_method_38_code
def yX6_tell : MethodName := ⟨RX6, "tell", "(I)I"⟩
abbrev cX6_check : ByteArray := prog_1_method_39_code
def yX6_check : MethodName := ⟨RX6, "check", "()I"⟩
abbrev cX6_count : ByteArray := prog_1_method_40_code
def yX6_count : MethodName := ⟨RX6, "count", "(I)I"⟩
abbrev cX6_told : ByteArray := prog_1_method_41_code
def yX6_told : MethodName := ⟨RX6, "told", "(I)I"⟩
abbrev cX6_error : ByteArray := prog_1_method_42_code
def yX6_error : MethodName := ⟨RX6, "error", "(I)I"⟩
abbrev cX6_isWithin : ByteArray := prog_1_method_43_code
def yX6_isWithin : MethodName := ⟨RX6, "isWithin", "(II)Z"⟩
abbrev cX6_isKindAndMark : ByteArray := prog_1_method_44_code
def yX6_isKindAndMark : MethodName := ⟨RX6, "isKindAndMark", "(I)Z"⟩
abbrev cX6_isTreaty : ByteArray := prog_1_method_45_code
def yX6_isTreaty : MethodName := ⟨RX6, "isTreaty", "(I)Z"⟩
abbrev cX6_isUse : ByteArray := prog_1_method_46_code
def yX6_isUse : MethodName := ⟨RX6, "isUse", "(I)Z"⟩
abbrev cX6_isSheet : ByteArray := prog_1_method_47_code
def yX6_isSheet : MethodName := ⟨RX6, "isSheet", "(I)Z"⟩
abbrev cX6_isBits : ByteArray := prog_1_method_48_code
def yX6_isBits : MethodName := ⟨RX6, "isBits", "(I)Z"⟩
abbrev cX6_isRest : ByteArray := prog_1_method_49_code
def yX6_isRest : MethodName := ⟨RX6, "isRest", "(II)Z"⟩
abbrev cX6_isUnder : ByteArray := prog_1_method_50_code
def yX6_isUnder : MethodName := ⟨RX6, "isUnder", "(II)Z"⟩
def RX7 : String := "RopeTreatyModel"
def TX7 : u_T := fun k => match k with
  | 0 => ("RopeTreatyModel", "row", "[I", true)
  | 1 => ("RopeTreatyModel", "kept", "[I", true)
  | 2 => ("RopeTreatyModel", "before", "[I", true)
  | 3 => ("RopeTreatyModel", "images", "I", false)
  | 4 => ("RopeTreatyModel", "errors", "[I", true)
  | 5 => ("RopeTreatyModel", "bitsOf", "[I", true)
  | 6 => ("RopeTreatyModel", "sizeOf", "[I", true)
  | 7 => ("RopeTreatyModel", "cells", "[I", true)
  | 8 => ("RopeTreatyModel", "act", "[I", true)
  | 9 => ("RopeTreatyModel", "with", "[I", true)
  | 10 => ("RopeTreatyModel", "facts", "[I", true)
  | 11 => ("RopeTreatyModel", "pile", "[I", true)
  | 12 => ("RopeTreatyModel", "laid", "I", false)
  | 13 => ("RopeTreatyModel", "here", "I", false)
  | 14 => ("RopeTreatyModel", "opened", "I", false)
  | 15 => ("RopeTreatyModel", "bad", "Z", false)
  | 16 => ("RopeTreatyModel", "using", "I", false)
  | 17 => ("RopeTreatyModel", "costs", "[I", true)
  | 18 => ("RopeTreatyModel", "trace", "[I", true)
  | 19 => ("RopeTreatyModel", "traced", "I", false)
  | _ => ("RopeTreatyModel", "isParted", "Z", false)
def tyX7 : Nat → FieldType := fun k => match k with
  | 0 => .array .int
  | 1 => .array .int
  | 2 => .array .int
  | 3 => .int
  | 4 => .array .int
  | 5 => .array .int
  | 6 => .array .int
  | 7 => .array .int
  | 8 => .array .int
  | 9 => .array .int
  | 10 => .array .int
  | 11 => .array .int
  | 12 => .int
  | 13 => .int
  | 14 => .int
  | 15 => .boolean
  | 16 => .int
  | 17 => .array .int
  | 18 => .array .int
  | 19 => .int
  | _ => .boolean
abbrev wsX70 : List Cond := u_ws RX7 TX7 21
theorem nmX7 : ∀ a, a < 21 → ∀ b, b < 21 → a ≠ b → (TX7 a).2.1 ≠ (TX7 b).2.1 := by decide +kernel
theorem tyX7_ok : ∀ k, k < 21 → parseFieldDescriptor (TX7 k).2.2.1 = some (tyX7 k) := by decide +kernel
abbrev cX7_init : ByteArray := prog_9_method_1_code
def yX7_init : MethodName := ⟨RX7, "<init>", "()V"⟩
abbrev cX7_error : ByteArray := prog_9_method_2_code
def yX7_error : MethodName := ⟨RX7, "error", "(I)I"⟩
abbrev cX7_in : ByteArray := prog_9_method_3_code
def yX7_in : MethodName := ⟨RX7, "in", "(III)Z"⟩
abbrev cX7_held : ByteArray := prog_9_method_4_code
def yX7_held : MethodName := ⟨RX7, "held", "(III)I"⟩
abbrev cX7_copyAll : ByteArray := prog_9_method_5_code
def yX7_copyAll : MethodName := ⟨RX7, "copyAll", "([I[I)V"⟩
abbrev cX7_thinks : ByteArray := prog_9_method_6_code
def yX7_thinks : MethodName := ⟨RX7, "thinks", "()V"⟩
abbrev cX7_putsBack : ByteArray := prog_9_method_7_code
def yX7_putsBack : MethodName := ⟨RX7, "putsBack", "()V"⟩
abbrev cX7_bits : ByteArray := prog_9_method_8_code
def yX7_bits : MethodName := ⟨RX7, "bits", "(I)I"⟩
abbrev cX7_isJumper : ByteArray := prog_9_method_9_code
def yX7_isJumper : MethodName := ⟨RX7, "isJumper", "(I)Z"⟩
abbrev cX7_isTreaty : ByteArray := prog_9_method_10_code
def yX7_isTreaty : MethodName := ⟨RX7, "isTreaty", "(I)Z"⟩
abbrev cX7_becomes : ByteArray := prog_9_method_11_code
def yX7_becomes : MethodName := ⟨RX7, "becomes", "(II)I"⟩
abbrev cX7_of : ByteArray := prog_9_method_12_code
def yX7_of : MethodName := ⟨RX7, "of", "(II)I"⟩
abbrev cX7_lets : ByteArray := prog_9_method_13_code
def yX7_lets : MethodName := ⟨RX7, "lets", "(III)V"⟩
abbrev cX7_isIn : ByteArray := prog_9_method_14_code
def yX7_isIn : MethodName := ⟨RX7, "isIn", "(I)Z"⟩
abbrev cX7_allIn : ByteArray := prog_9_method_15_code
def yX7_allIn : MethodName := ⟨RX7, "allIn", "()I"⟩
abbrev cX7_word : ByteArray := prog_9_method_16_code
def yX7_word : MethodName := ⟨RX7, "word", "()I"⟩
abbrev cX7_doesTurn : ByteArray := prog_9_method_17_code
def yX7_doesTurn : MethodName := ⟨RX7, "doesTurn", "()Z"⟩
abbrev cX7_takesOf : ByteArray := prog_9_method_18_code
def yX7_takesOf : MethodName := ⟨RX7, "takesOf", "(I)I"⟩
abbrev cX7_costsOf : ByteArray := prog_9_method_19_code
def yX7_costsOf : MethodName := ⟨RX7, "costsOf", "(I)I"⟩
abbrev cX7_leansOf : ByteArray := prog_9_method_20_code
def yX7_leansOf : MethodName := ⟨RX7, "leansOf", "(II)I"⟩
abbrev cX7_likesOf : ByteArray := prog_9_method_21_code
def yX7_likesOf : MethodName := ⟨RX7, "likesOf", "(II)I"⟩
abbrev cX7_doesTake : ByteArray := prog_9_method_22_code
def yX7_doesTake : MethodName := ⟨RX7, "doesTake", "(II)Z"⟩
abbrev cX7_isTaken : ByteArray := prog_9_method_23_code
def yX7_isTaken : MethodName := ⟨RX7, "isTaken", "(I)Z"⟩
abbrev cX7_isKm : ByteArray := prog_9_method_24_code
def yX7_isKm : MethodName := ⟨RX7, "isKm", "(I)Z"⟩
abbrev cX7_jumper : ByteArray := prog_9_method_25_code
def yX7_jumper : MethodName := ⟨RX7, "jumper", "(III)I"⟩
abbrev cX7_jumperIs : ByteArray := prog_9_method_26_code
def yX7_jumperIs : MethodName := ⟨RX7, "jumperIs", "(II)I"⟩
abbrev cX7_become : ByteArray := prog_9_method_27_code
def yX7_become : MethodName := ⟨RX7, "become", "(II)I"⟩
abbrev cX7_as : ByteArray := prog_9_method_28_code
def yX7_as : MethodName := ⟨RX7, "as", "(II)I"⟩
abbrev cX7_jump : ByteArray := prog_9_method_29_code
def yX7_jump : MethodName := ⟨RX7, "jump", "(II)I"⟩
abbrev cX7_rest : ByteArray := prog_9_method_30_code
def yX7_rest : MethodName := ⟨RX7, "rest", "(II)I"⟩
abbrev cX7_spell : ByteArray := prog_9_method_31_code
def yX7_spell : MethodName := ⟨RX7, "spell", "(II)I"⟩
abbrev cX7_bar : ByteArray := prog_9_method_32_code
def yX7_bar : MethodName := ⟨RX7, "bar", "(I)I"⟩
abbrev cX7_liking : ByteArray := prog_9_method_33_code
def yX7_liking : MethodName := ⟨RX7, "liking", "(II)I"⟩
abbrev cX7_mayTalk : ByteArray := prog_9_method_34_code
def yX7_mayTalk : MethodName := ⟨RX7, "mayTalk", "(I)Z"⟩
abbrev cX7_talks : ByteArray := prog_9_method_35_code
def yX7_talks : MethodName := ⟨RX7, "talks", "(I)Z"⟩
abbrev cX7_talk : ByteArray := prog_9_method_36_code
def yX7_talk : MethodName := ⟨RX7, "talk", "(II)I"⟩
abbrev cX7_feed : ByteArray := prog_9_method_37_code
def yX7_feed : MethodName := ⟨RX7, "feed", "(JI)I"⟩
abbrev cX7_look : ByteArray := prog_9_method_38_code
def yX7_look : MethodName := ⟨RX7, "look", "()I"⟩
abbrev cX7_lays : ByteArray := prog_9_method_39_code
def yX7_lays : MethodName := ⟨RX7, "lays", "(II)V"⟩
abbrev cX7_nameOf : ByteArray := prog_9_method_40_code
def yX7_nameOf : MethodName := ⟨RX7, "nameOf", "(I)I"⟩
abbrev cX7_number : ByteArray := prog_9_method_41_code
def yX7_number : MethodName := ⟨RX7, "number", "()V"⟩
abbrev cX7_opens : ByteArray := prog_9_method_42_code
def yX7_opens : MethodName := ⟨RX7, "opens", "(I)V"⟩
abbrev cX7_one : ByteArray := prog_9_method_43_code
def yX7_one : MethodName := ⟨RX7, "one", "()V"⟩
abbrev cX7_times : ByteArray := prog_9_method_44_code
def yX7_times : MethodName := ⟨RX7, "times", "()V"⟩
abbrev cX7_sum : ByteArray := prog_9_method_45_code
def yX7_sum : MethodName := ⟨RX7, "sum", "()V"⟩
abbrev cX7_compares : ByteArray := prog_9_method_46_code
def yX7_compares : MethodName := ⟨RX7, "compares", "()V"⟩
abbrev cX7_all : ByteArray := prog_9_method_47_code
def yX7_all : MethodName := ⟨RX7, "all", "()V"⟩
abbrev cX7_any : ByteArray := prog_9_method_48_code
def yX7_any : MethodName := ⟨RX7, "any", "()V"⟩
abbrev cX7_text : ByteArray := prog_9_method_49_code
def yX7_text : MethodName := ⟨RX7, "text", "(I)I"⟩
abbrev cX7_untell : ByteArray := prog_9_method_50_code
def yX7_untell : MethodName := ⟨RX7, "untell", "(I)I"⟩
abbrev cX7_twoOf : ByteArray := prog_9_method_51_code
def yX7_twoOf : MethodName := ⟨RX7, "twoOf", "(III)I"⟩
abbrev cX7_works : ByteArray := prog_9_method_52_code
def yX7_works : MethodName := ⟨RX7, "works", "(I)I"⟩
abbrev cX7_gives : ByteArray := prog_9_method_53_code
def yX7_gives : MethodName := ⟨RX7, "gives", "(IIII)I"⟩
abbrev cX7_law : ByteArray := prog_9_method_54_code
def yX7_law : MethodName := ⟨RX7, "law", "(IIII)I"⟩
abbrev cX7_misses : ByteArray := prog_9_method_55_code
def yX7_misses : MethodName := ⟨RX7, "misses", "(I)Z"⟩
abbrev cX7_goes : ByteArray := prog_9_method_56_code
def yX7_goes : MethodName := ⟨RX7, "goes", "()I"⟩
abbrev cX7_beats : ByteArray := prog_9_method_57_code
def yX7_beats : MethodName := ⟨RX7, "beats", "(I)I"⟩
abbrev cX7_draw : ByteArray := prog_9_method_58_code
def yX7_draw : MethodName := ⟨RX7, "draw", "()I"⟩
abbrev cX7_drawn : ByteArray := prog_9_method_59_code
def yX7_drawn : MethodName := ⟨RX7, "drawn", "()Z"⟩
abbrev cX7_loose : ByteArray := prog_9_method_60_code
def yX7_loose : MethodName := ⟨RX7, "loose", "(I)I"⟩
abbrev cX7_seed : ByteArray := prog_9_method_61_code
def yX7_seed : MethodName := ⟨RX7, "seed", "(I)I"⟩
abbrev cX7_goesFor : ByteArray := prog_9_method_62_code
def yX7_goesFor : MethodName := ⟨RX7, "goesFor", "(I)V"⟩
abbrev cX7_then : ByteArray := prog_9_method_63_code
def yX7_then : MethodName := ⟨RX7, "then", "(III)I"⟩
abbrev cX7_lasts : ByteArray := prog_9_method_64_code
def yX7_lasts : MethodName := ⟨RX7, "lasts", "(I)I"⟩
abbrev cX7_agree : ByteArray := prog_9_method_65_code
def yX7_agree : MethodName := ⟨RX7, "agree", "(I)I"⟩
abbrev cX7_leastLiking : ByteArray := prog_9_method_66_code
def yX7_leastLiking : MethodName := ⟨RX7, "leastLiking", "(I)I"⟩
abbrev cX7_fairest : ByteArray := prog_9_method_67_code
def yX7_fairest : MethodName := ⟨RX7, "fairest", "(I)I"⟩
abbrev cX7_whoAlone : ByteArray := prog_9_method_68_code
def yX7_whoAlone : MethodName := ⟨RX7, "whoAlone", "(I)I"⟩
abbrev cX7_balksOf : ByteArray := prog_9_method_69_code
def yX7_balksOf : MethodName := ⟨RX7, "balksOf", "(I)I"⟩
abbrev cX7_balks : ByteArray := prog_9_method_70_code
def yX7_balks : MethodName := ⟨RX7, "balks", "(I)I"⟩
abbrev cX7_soon : ByteArray := prog_9_method_71_code
def yX7_soon : MethodName := ⟨RX7, "soon", "(I)I"⟩
abbrev cX7_meets : ByteArray := prog_9_method_72_code
def yX7_meets : MethodName := ⟨RX7, "meets", "(IIII)I"⟩
abbrev cX7_odds : ByteArray := prog_9_method_73_code
def yX7_odds : MethodName := ⟨RX7, "odds", "(II)I"⟩
abbrev cX7_isSo : ByteArray := prog_9_method_74_code
def yX7_isSo : MethodName := ⟨RX7, "isSo", "(I)Z"⟩
abbrev cX7_fits : ByteArray := prog_9_method_75_code
def yX7_fits : MethodName := ⟨RX7, "fits", "(I)I"⟩
abbrev cX7_begins : ByteArray := prog_9_method_76_code
def yX7_begins : MethodName := ⟨RX7, "begins", "(I)V"⟩
abbrev cX7_plainSings : ByteArray := prog_9_method_77_code
def yX7_plainSings : MethodName := ⟨RX7, "plainSings", "(II)I"⟩
abbrev cX7_masterSings : ByteArray := prog_9_method_78_code
def yX7_masterSings : MethodName := ⟨RX7, "masterSings", "(II)I"⟩
abbrev cX7_sings : ByteArray := prog_9_method_79_code
def yX7_sings : MethodName := ⟨RX7, "sings", "(II)I"⟩
abbrev cX7_plainJumps : ByteArray := prog_9_method_80_code
def yX7_plainJumps : MethodName := ⟨RX7, "plainJumps", "(II)I"⟩
abbrev cX7_conJumps : ByteArray := prog_9_method_81_code
def yX7_conJumps : MethodName := ⟨RX7, "conJumps", "(II)I"⟩
abbrev cX7_jumps : ByteArray := prog_9_method_82_code
def yX7_jumps : MethodName := ⟨RX7, "jumps", "(II)I"⟩
abbrev cX7_plainClaps : ByteArray := prog_9_method_83_code
def yX7_plainClaps : MethodName := ⟨RX7, "plainClaps", "(II)I"⟩
abbrev cX7_claps : ByteArray := prog_9_method_84_code
def yX7_claps : MethodName := ⟨RX7, "claps", "(II)I"⟩
abbrev cX7_plainParts : ByteArray := prog_9_method_85_code
def yX7_plainParts : MethodName := ⟨RX7, "plainParts", "(II)I"⟩
abbrev cX7_partsBy : ByteArray := prog_9_method_86_code
def yX7_partsBy : MethodName := ⟨RX7, "partsBy", "(II)I"⟩
abbrev cX7_voice : ByteArray := prog_9_method_87_code
def yX7_voice : MethodName := ⟨RX7, "voice", "(III)I"⟩
abbrev cX7_body : ByteArray := prog_9_method_88_code
def yX7_body : MethodName := ⟨RX7, "body", "(I)I"⟩
abbrev cX7_isSheet : ByteArray := prog_9_method_89_code
def yX7_isSheet : MethodName := ⟨RX7, "isSheet", "(I)Z"⟩
abbrev cX7_sheet : ByteArray := prog_9_method_90_code
def yX7_sheet : MethodName := ⟨RX7, "sheet", "(III)I"⟩
abbrev cX7_notThere : ByteArray := prog_9_method_91_code
def yX7_notThere : MethodName := ⟨RX7, "notThere", "(I)I"⟩
abbrev cX7_put : ByteArray := prog_9_method_92_code
def yX7_put : MethodName := ⟨RX7, "put", "(III)I"⟩
abbrev cX7_notMoved : ByteArray := prog_9_method_93_code
def yX7_notMoved : MethodName := ⟨RX7, "notMoved", "(IIIII)I"⟩
abbrev cX7_move : ByteArray := prog_9_method_94_code
def yX7_move : MethodName := ⟨RX7, "move", "(IIIII)I"⟩
abbrev cX7_breaths : ByteArray := prog_9_method_95_code
def yX7_breaths : MethodName := ⟨RX7, "breaths", "(I)I"⟩
abbrev cX7_judge : ByteArray := prog_9_method_96_code
def yX7_judge : MethodName := ⟨RX7, "judge", "(I)I"⟩
abbrev cX7_image : ByteArray := prog_9_method_97_code
def yX7_image : MethodName := ⟨RX7, "image", "()I"⟩
abbrev cX7_restore : ByteArray := prog_9_method_98_code
def yX7_restore : MethodName := ⟨RX7, "restore", "()I"⟩
abbrev cX7_tell : ByteArray := prog_9_method_99_code
def yX7_tell : MethodName := ⟨RX7, "tell", "(I)I"⟩
abbrev cX7_check : ByteArray := prog_9_method_100_code
def yX7_check : MethodName := ⟨RX7, "check", "()I"⟩
abbrev cX7_count : ByteArray := prog_9_method_101_code
def yX7_count : MethodName := ⟨RX7, "count", "(I)I"⟩
abbrev cX7_told : ByteArray := prog_9_method_102_code
def yX7_told : MethodName := ⟨RX7, "told", "(I)I"⟩
def RL : String := "RopeTreatyLaw"
abbrev cL_law : ByteArray := code
def yL_law : MethodName := ⟨RL, "law", "([I)Z"⟩
abbrev vwCl : List vw_C := [(RX0, TX0, 7), (RX1, TX1, 15), (RX2, TX2, 3), (RX3, TX3, 2), (RX4, TX4, 4), (RX5, TX5, 6), (RX6, TX6, 14), (RX7, TX7, 21)]
end
section
/-! ===== the words that every method may ask, and the state of a module ===== -/
def tblG : List Cond := lw_tbl.filter goodWord
theorem wdG {i : Nat} {w : Cond} (h : lw_tbl[i]? = some w) (hg : goodWord w = true) : w ∈ tblG := List.mem_filter.mpr ⟨List.mem_of_getElem? h, hg⟩
theorem tblG_good : tblG.all goodWord = true := List.all_eq_true.mpr fun _ hw => (List.mem_filter.mp hw).2
theorem tblG_in {ws : List Cond} (h : ∀ w ∈ ws, w ∈ tblG) : GoodIn tblG ws := fun w hw => ⟨h w hw, good_of_word ((List.mem_filter.mp (h w hw)).2)⟩
theorem tblG_cons {big : List Cond} (h : ∀ w ∈ tblG, w ∈ big) : GoodIn big tblG := fun w hw => ⟨h w hw, good_of_word ((List.mem_filter.mp hw).2)⟩
abbrev St : Type := (Nat → Nat → Int32) × (Nat → Nat → Int32)
def sF (σ : St) (o k : Nat) (v : Int32) : St := (fun o' k' => if o' = o ∧ k' = k then v else σ.1 o' k', σ.2)
def sA (σ : St) (a i : Nat) (v : Int32) : St := (σ.1, fun a' i' => if a' = a ∧ i' = i then v else σ.2 a' i')
def sC (σ : St) (a1 i1 a2 i2 n : Nat) : St := (σ.1, fun a' i' => if a' = a2 then va_cpy (σ.2 a1) (σ.2 a2) i1 i2 n i' else σ.2 a' i')
abbrev ShE : Type := Nat ⊕ ((Nat × List Nat) ⊕ (Nat × List (Option Nat)))
def shV (ad : Nat → Nat) (σ : St) (o k : Nat) (f : Option Nat) : Value := match f with
  | none => .int (σ.1 o k)
  | some r => .ref (ad r)
def shF (ad : Nat → Nat) (σ : St) (o : Nat) (fs : List (Option Nat)) : List Value := fs.mapIdx (fun k f => shV ad σ o k f)
def shE (ad : Nat → Nat) (ca : Nat → ClassId) (σ : St) (o : Nat) (e : ShE) : va_E := match e with
  | .inl n => .inl (ca 0, n, .inl (σ.2 o))
  | .inr (.inl q) => .inl (ca q.1, q.2.length, .inr (.inr (.inr (.inr (fun i => (q.2[i]?).map ad)))))
  | .inr (.inr q) => .inr (q.1, shF ad σ o q.2)
def shW (sh : List ShE) (ad : Nat → Nat) (ca : Nat → ClassId) (σ : St) : va_W := sh.mapIdx (fun o e => (ad o, shE ad ca σ o e))
theorem shW_get {sh : List ShE} {ad : Nat → Nat} {ca : Nat → ClassId} {σ : St} {o : Nat} {e : ShE} (h : sh[o]? = some e) : (shW sh ad ca σ)[o]? = some (ad o, shE ad ca σ o e) := by
  unfold shW
  rw [List.getElem?_mapIdx, h]
  rfl
theorem shF_get {ad : Nat → Nat} {σ : St} {o k : Nat} {fs : List (Option Nat)} {f : Option Nat} (h : fs[k]? = some f) : (shF ad σ o fs)[k]? = some (shV ad σ o k f) := by
  unfold shF
  rw [List.getElem?_mapIdx, h]
  rfl
theorem shF_put {ad : Nat → Nat} {σ : St} {o k : Nat} {fs : List (Option Nat)} (h : fs[k]? = some none) (v : Int32) : (shF ad σ o fs).set k (.int v) = shF ad (sF σ o k v) o fs := by
  apply List.ext_getElem?
  intro i
  rw [List.getElem?_set]
  unfold shF
  rw [List.length_mapIdx, List.getElem?_mapIdx, List.getElem?_mapIdx]
  have hk : k < fs.length := (List.getElem?_eq_some_iff.mp h).1
  by_cases hi : k = i
  · subst hi
    rw [if_pos rfl, if_pos hk, h]
    simp [shV, sF]
  · rw [if_neg hi]
    cases hf : fs[i]? with
    | none => rfl
    | some f =>
      cases f with
      | none => simp [shV, sF, Ne.symm hi]
      | some r => rfl
theorem shE_F {ad : Nat → Nat} {ca : Nat → ClassId} {σ : St} {o o' k : Nat} {v : Int32} {e : ShE} (h : o' ≠ o) : shE ad ca (sF σ o k v) o' e = shE ad ca σ o' e := by
  rcases e with n | q | q
  · rfl
  · rfl
  · simp only [shE]
    congr 2
    unfold shF
    apply List.ext_getElem?
    intro i
    rw [List.getElem?_mapIdx, List.getElem?_mapIdx]
    cases hf : q.2[i]? with
    | none => rfl
    | some f =>
      cases f with
      | none => simp [shV, sF, h]
      | some r => rfl
theorem shW_put {sh : List ShE} {ad : Nat → Nat} {ca : Nat → ClassId} {σ : St} {o k ci : Nat} {fs : List (Option Nat)} (h : sh[o]? = some (.inr (.inr (ci, fs)))) (hf : fs[k]? = some none) (v : Int32) :
    (shW sh ad ca σ).set o (ad o, .inr (ci, (shF ad σ o fs).set k (.int v))) = shW sh ad ca (sF σ o k v) := by
  apply List.ext_getElem?
  intro i
  rw [List.getElem?_set]
  have hl : o < (shW sh ad ca σ).length := (List.getElem?_eq_some_iff.mp (shW_get h)).1
  by_cases hi : o = i
  · subst hi
    rw [if_pos rfl, if_pos hl, shW_get h, shF_put hf]
    rfl
  · rw [if_neg hi]
    unfold shW
    rw [List.getElem?_mapIdx, List.getElem?_mapIdx]
    cases hs : sh[i]? with
    | none => rfl
    | some e => simp only [Option.map_some]; rw [shE_F (Ne.symm hi)]
theorem shE_A {ad : Nat → Nat} {ca : Nat → ClassId} {σ σ' : St} {o' : Nat} {e : ShE} (h1 : σ'.1 = σ.1) (h2 : σ'.2 o' = σ.2 o') : shE ad ca σ' o' e = shE ad ca σ o' e := by
  rcases e with n | q | q
  · simp only [shE, h2]
  · rfl
  · simp only [shE]
    congr 2
    unfold shF
    congr 1
    funext k f
    cases f with
    | none => simp [shV, h1]
    | some r => rfl
theorem shW_row {sh : List ShE} {ad : Nat → Nat} {ca : Nat → ClassId} {σ σ' : St} {a n : Nat} {g : Nat → Int32} (h : sh[a]? = some (.inl n)) (h1 : σ'.1 = σ.1) (h2 : ∀ b, b ≠ a → σ'.2 b = σ.2 b) (hg : σ'.2 a = g) :
    (shW sh ad ca σ).set a (ad a, .inl (ca 0, n, .inl g)) = shW sh ad ca σ' := by
  apply List.ext_getElem?
  intro i
  rw [List.getElem?_set]
  have hl : a < (shW sh ad ca σ).length := (List.getElem?_eq_some_iff.mp (shW_get h)).1
  by_cases hi : a = i
  · subst hi
    rw [if_pos rfl, if_pos hl, shW_get h]
    simp only [shE, hg]
  · rw [if_neg hi]
    unfold shW
    rw [List.getElem?_mapIdx, List.getElem?_mapIdx]
    cases hs : sh[i]? with
    | none => rfl
    | some e => simp only [Option.map_some]; rw [shE_A h1 (h2 i (Ne.symm hi))]
theorem shW_ast {sh : List ShE} {ad : Nat → Nat} {ca : Nat → ClassId} {σ : St} {a n i : Nat} {v : Int32} (h : sh[a]? = some (.inl n)) :
    (shW sh ad ca σ).set a (ad a, .inl (ca 0, n, .inl (upd (σ.2 a) i v))) = shW sh ad ca (sA σ a i v) :=
  shW_row h rfl (fun b hb => by funext j; simp [sA, hb]) (by funext j; simp [sA, upd])
theorem shW_cpy {sh : List ShE} {ad : Nat → Nat} {ca : Nat → ClassId} {σ : St} {a b n i j k : Nat} (h : sh[b]? = some (.inl n)) :
    (shW sh ad ca σ).set b (ad b, .inl (ca 0, n, .inl (va_cpy (σ.2 a) (σ.2 b) i j k))) = shW sh ad ca (sC σ a i b j k) :=
  shW_row h rfl (fun c hc => by funext j; simp [sC, hc]) (by funext j; simp [sC])
/-- which cells are the module's own -/
def fA (sh : List ShE) (ad : Nat → Nat) : Nat → Prop := fun q => ∃ o, o < sh.length ∧ q = ad o
theorem shW_at {sh : List ShE} {ad : Nat → Nat} {ca : Nat → ClassId} {σ : St} {k : Nat} {q : Nat × va_E} (h : (shW sh ad ca σ)[k]? = some q) : k < sh.length ∧ q.1 = ad k := by
  unfold shW at h
  rw [List.getElem?_mapIdx] at h
  cases hs : sh[k]? with
  | none => rw [hs] at h; cases h
  | some e =>
    rw [hs] at h
    cases h
    exact ⟨(List.getElem?_eq_some_iff.mp hs).1, rfl⟩
def adI (sh : List ShE) (ad : Nat → Nat) : Prop := ∀ o o' : Nat, o < sh.length → o' < sh.length → ad o = ad o' → o = o'
theorem shW_D {sh : List ShE} {ad : Nat → Nat} {ca : Nat → ClassId} (σ : St) (h : adI sh ad) : va_D (fA sh ad) (shW sh ad ca σ) := by
  refine ⟨fun i j p q hp hq he => ?_, fun k q hq => ?_⟩
  · obtain ⟨h1, h2⟩ := shW_at hp
    obtain ⟨h3, h4⟩ := shW_at hq
    exact h i j h1 h3 (by rw [← h2, ← h4]; exact he)
  · obtain ⟨h1, h2⟩ := shW_at hq
    exact ⟨k, h1, h2⟩
end
section
/-! ===== what a module knows of the machine, and the two judgements ===== -/
abbrev tbA : List Int32 := [-1, 0, 0, 0, 1, 2, 0]
abbrev tbB : List Int32 := [10, 11, 12, 13, 20, 0, 0, 21, 0, 30, 0, 0, 0, 0, 40, 0, 50, 0, 51, 0, 0, 60, 0, 0, 70, 71, 0, 0]
abbrev tbN : List Int32 := [99, 98, 112, 108, 116, 115]
def sttL : List (String × String × String × FieldType × List Int32) := [("RopeTreaty", "ABOVE", "[I", .int, tbA), ("RopeTreaty$Throat", "BODIES", "[I", .int, tbB), ("RopeTreaty$Reader", "NAMES", "[C", .char, tbN)]
def Stt (sh : List ShE) (ad : Nat → Nat) (U : State) : Prop := ∀ (k : Nat) (q : String × String × String × FieldType × List Int32), sttL[k]? = some q → va_Z q.1 q.2.1 q.2.2.1 (.ref (ad (900 + k))) (fA sh ad) U U.heap ∧ va_T q.2.2.2.1 (ad (900 + k)) q.2.2.2.2.length (fun j => .int (q.2.2.2.2.getD j 0)) (fA sh ad) U U.heap
theorem Stt.to {sh : List ShE} {ad : Nat → Nat} {u U : State} (hvm : u.vm.Alike U.vm) (hh : ∀ a : Nat, a < u.heap.size → ¬ fA sh ad a → U.heap[a]? = u.heap[a]?) (h : Stt sh ad u) : Stt sh ad U := fun k q hq => ⟨((h k q hq).1.kept hh).moved hvm, ((h k q hq).2.kept hh).moved hvm⟩
def nstM : List (String × Nat × MethodName × String) := [("RopeTreaty$Throat", 44, ⟨"RopeTreaty", "isWithin", "(II)Z"⟩, "RopeTreaty"), ("RopeTreaty$Rope", 145, ⟨"RopeTreaty", "isWithin", "(II)Z"⟩, "RopeTreaty")]
def Nst (U : State) : Prop := (∀ q ∈ nstM, va_Nw (.methodLinkNest q.1 q.2.1 q.2.2.1 q.2.2.2) U) ∧ va_Nw (.fieldLinkNest "RopeTreaty$Throat" 51 "RopeTreaty" "ABOVE" "[I" "RopeTreaty") U
theorem Nst.warm {s U : State} (hW : s.WarmedH U.vm) (h : Nst s) : Nst U := ⟨fun q hq => (h.1 q hq).warmM hW, h.2.warmF hW⟩
theorem Nst.same {s U : State} (e : s.vm = U.vm) (h : Nst s) : Nst U := ⟨fun q hq => (h.1 q hq).same rfl e, h.2.same rfl e⟩
def Tys (ca : Nat → ClassId) : List (ClassId × FieldType) := [(ca 0, .int), (ca 1, .object RX4), (ca 2, .object RX2)]
def Kx (sh : List ShE) (D : va_G) (ca : Nat → ClassId) (ad : Nat → Nat) (U : State) : Prop := va_K D vwCl (Tys ca) U ∧ adI sh ad ∧ Stt sh ad U ∧ Nst U
theorem Kx.warm {sh : List ShE} {D : va_G} {ca : Nat → ClassId} {ad : Nat → Nat} {s U : State} (h : Kx sh D ca ad s) (hW : s.WarmedH U.vm) (hh : ∀ a : Nat, a < s.heap.size → ¬ fA sh ad a → U.heap[a]? = s.heap[a]?) : Kx sh D ca ad U := ⟨va_K.moved hW.alike h.1, h.2.1, h.2.2.1.to hW.alike hh, h.2.2.2.warm hW⟩
theorem Kx.calling {sh : List ShE} {D : va_G} {ca : Nat → ClassId} {ad : Nat → Nat} {U : State} (h : Kx sh D ca ad U) (g : JFrame) (mk : MethodId) (a : Array Value) : Kx sh D ca ad (U.calling g mk a) := ⟨va_K.moved (u := U) (U := U.calling g mk a) (Vm.Alike.refl U.vm) h.1, h.2.1, h.2.2.1.to (u := U) (U := U.calling g mk a) (Vm.Alike.refl U.vm) (fun _ _ _ => rfl), h.2.2.2.same rfl⟩
abbrev Md : Type := MethodName × ByteArray × Nat × Option FieldType
def mws (md : Md) : List Cond := Cond.code md.1 md.2.1 md.2.2.1 md.2.2.2 :: tblG
def rmd (d : Nat) : Room := { frames := d, cells := 0, slots := 0, locals := 60 * d }
def cvv (ad : Nat → Nat) (v : Value) : Value := match v with
  | .ref k => .ref (ad k)
  | v => v
def cvq (ad : Nat → Nat) (q : Nat × Value) : Nat × Value := (q.1, cvv ad q.2)
def rvv (rt : Option FieldType) (r : Int32) : Option Value := match rt with
  | none => none
  | some _ => some (.int r)
def Pxx (sh : List ShE) (D : va_G) (ca : Nat → ClassId) (ad : Nat → Nat) (σ : St) (U : State) : Prop := va_P D vwCl (shW sh ad ca σ) U.heap ∧ Kx sh D ca ad U
def Qxx (rt : Option FieldType) (r : Int32) (σ' : St) (sh : List ShE) (D : va_G) (ca : Nat → ClassId) (ad : Nat → Nat) : Array Value → State → Outcome → State → Prop := fun _ st oc t => oc = .returned (rvv rt r) ∧ va_P D vwCl (shW sh ad ca σ') t.heap ∧ va_F (fA sh ad) st t
/-- what a method answers: at every room of d frames or more -/
def Spc (l : Launch) (sh : List ShE) (d : Nat) (md : Md) (args : List Value) (σ : St) (X : Option (Int32 × St)) : Prop :=
  ∀ (r : Int32) (σ' : St), X = some (r, σ') → ∀ d' : Nat, d ≤ d' → ∀ (D : va_G) (ca : Nat → ClassId) (ad : Nat → Nat), Met l md.1 (mws md) (rmd d') (va_Pc (args.map (cvv ad)) (Pxx sh D ca ad σ)) (Qxx md.2.2.2 r σ' sh D ca ad) 0 0 (fA sh ad)
def Cxx (sh : List ShE) (md : Md) (D : va_G) (ca : Nat → ClassId) (ad : Nat → Nat) (p : Program) (s : State) (m : MethodId) (args : Array Value) (meth : Method) (c : Code) : Prop :=
  p.tables.exec = Jvm.exec ∧ c.code = md.2.1 ∧ c.maxLocals = md.2.2.1 ∧ meth.sig.returnType = md.2.2.2 ∧ meth.locks = false ∧ s.vm.findClass md.1.cls = some m.cls ∧ (∀ w ∈ tblG, w.before args s = true) ∧ Kx sh D ca ad s
/-- what a method answers from a place within it on -/
def Ux (l : Launch) (sh : List ShE) (d : Nat) (md : Md) (pc : Nat) (L : List (Nat × Value)) (S : List Value) (σ : St) (X : Option (Int32 × St)) : Prop :=
  ∀ (r : Int32) (σ' : St), X = some (r, σ') → ∀ d' : Nat, d ≤ d' → ∀ (D : va_G) (ca : Nat → ClassId) (ad : Nat → Nat) (p : Program) (e : Env) (s : State) (m : MethodId) (args : Array Value) (below : List Frame) (meth : Method) (c : Code), Cxx sh md D ca ad p s m args meth c →
    ∀ (H : Heap) (locs : List Loc) (ls : Array Slot), va_P D vwCl (shW sh ad ca σ) H → va_S (fA sh ad) s.heap H locs → lv_has ls md.2.2.1 (L.map (cvq ad)) →
    W p l e (rmd d') s m args below meth c H locs 0 0 (MQ below (Qxx md.2.2.2 r σ' sh D ca ad) args s 0 0 (fA sh ad)) (F0 m pc ls (S.map (cvv ad)))
theorem cvv_cat (ad : Nat → Nat) (v : Value) : (cvv ad v).category = v.category := by cases v <;> rfl
theorem lg_sl_cv (ad : Nat → Nat) (vs : List Value) : (lg_sl (vs.map (cvv ad))).length = (lg_sl vs).length := by
  induction vs with
  | nil => rfl
  | cons v vs ih =>
    unfold lg_sl at ih ⊢
    rw [List.map_cons, List.flatMap_cons, List.flatMap_cons, List.length_append, List.length_append, ih, cvv_cat]
    split <;> rfl
theorem lv_args_cv (ad : Nat → Nat) (vs : List Value) : ∀ i : Nat, lv_args i (vs.map (cvv ad)) = (lv_args i vs).map (cvq ad) := by
  induction vs with
  | nil => intro i; rfl
  | cons v vs ih =>
    intro i
    rw [List.map_cons, lv_args, lv_args, List.map_cons, ih, cvv_cat]
    rfl
theorem Spc_of_Ux {l : Launch} {sh : List ShE} {d : Nat} {md : Md} {args : List Value} {σ : St} {X : Option (Int32 × St)} (L : List (Nat × Value)) (hcls : plainName md.1.cls = true) (hL : lv_args 0 args = L) (hn : (lg_sl args).length ≤ md.2.2.1) (h : Ux l sh d md 0 L [] σ X) : Spc l sh d md args σ X := by
  intro r σ' hX d' hd' D ca ad
  refine Met.ofW (cc := md.2.1) (maxL := md.2.2.1) (ret := md.2.2.2) hcls rfl ?_
  intro p e s m args' below meth c s₁ B hml hv
  obtain ⟨rfl, hP, hK⟩ := hv
  have hx := B.exec
  have hb := B.bytes
  have hr := B.returns
  have hts := atoms_spec (ws := mws md) B.pre
  have hown : s.vm.findClass md.1.cls = some m.cls := findClass_of_methodNamed B.named
  have hlocks := B.notSynchronized
  have hl := lv_entry (args.map (cvv ad)) (n := md.2.2.1) (by rw [lg_sl_cv]; exact hn)
  rw [lg_entry_eq]
  generalize (lg_sl (args.map (cvv ad)) ++ List.replicate (md.2.2.1 - (lg_sl (args.map (cvv ad))).length) Slot.unset).toArray = ls at hl ⊢
  rw [lv_args_cv, hL] at hl
  exact h r σ' hX d' hd' D ca ad p e s m _ below meth c ⟨hx, hb, hml, hr, hlocks, hown, fun w hw => hts w (List.mem_cons_of_mem _ hw), hK⟩ s.heap [] ls hP va_S.rf hl
theorem Spc.mono {l : Launch} {sh : List ShE} {d d1 : Nat} {md : Md} {args : List Value} {σ : St} {X : Option (Int32 × St)} (h : Spc l sh d md args σ X) (hd : d ≤ d1) : Spc l sh d1 md args σ X := fun r σ' hX d' hd' => h r σ' hX d' (Nat.le_trans hd hd')
/-! locals -/
def lvk (L : List (Nat × Value)) (i : Nat) : Option Value := match L with
  | [] => none
  | q :: L => if q.1 = i then some q.2 else lvk L i
def lst (L : List (Nat × Value)) (i : Nat) (v : Value) : List (Nat × Value) := (i, v) :: L.filter (fun q => !(q.1 == i) && !(q.1 + 1 == i && q.2.category == 2))
theorem lvk_at {L : List (Nat × Value)} {i : Nat} {v : Value} (h : lvk L i = some v) : ∃ k : Nat, L[k]? = some (i, v) := by
  induction L with
  | nil => cases h
  | cons q L ih =>
    unfold lvk at h
    split at h
    · rename_i e
      cases h
      exact ⟨0, by subst e; rfl⟩
    · obtain ⟨k, hk⟩ := ih h
      exact ⟨k + 1, hk⟩
theorem lvk_cv {L : List (Nat × Value)} {ad : Nat → Nat} {i : Nat} {v : Value} (h : lvk L i = some v) : ∃ k : Nat, (L.map (cvq ad))[k]? = some (i, cvv ad v) := by
  obtain ⟨k, hk⟩ := lvk_at h
  exact ⟨k, by rw [List.getElem?_map, hk]; rfl⟩
theorem lx_at {ls : Array Slot} {n : Nat} {L : List (Nat × Value)} {ad : Nat → Nat} {i : Nat} {v : Value} (hl : lv_has ls n (L.map (cvq ad))) (h : lvk L i = some v) : ls[i]? = some (.val (cvv ad v)) := by
  obtain ⟨k, hk⟩ := lvk_cv (ad := ad) h
  exact lv_at hl k hk
theorem lst_cv {L L' : List (Nat × Value)} {ad : Nat → Nat} {i : Nat} {v : Value} (h : lst L i v = L') : (i, cvv ad v) :: (L.map (cvq ad)).filter (fun q => !(q.1 == i) && !(q.1 + 1 == i && q.2.category == 2)) = L'.map (cvq ad) := by
  subst h
  unfold lst
  rw [List.map_cons, List.filter_map]
  congr 2
  congr 1
  funext q
  simp [cvq, cvv_cat]
/-! results -/
def grd (b : Bool) (X : Option (Int32 × St)) : Option (Int32 × St) := match b with
  | true => X
  | false => none
def bnd (x : Option (Int32 × St)) (K : Int32 → St → Option (Int32 × St)) : Option (Int32 × St) := match x with
  | none => none
  | some q => K q.1 q.2
def nam (x : Int32) (K : Int32 → Option (Int32 × St)) : Option (Int32 × St) := K x
def inb (i : Int32) (n : Nat) : Bool := decide (0 ≤ i.toInt ∧ i.toInt < n)
def isB (v : Int32) : Bool := decide (v = 0 ∨ v = 1)
def nz (v : Int32) : Bool := decide (¬ v = 0)
def cpb (sp dp n : Int32) (n0 n1 : Nat) : Bool := decide (0 ≤ sp.toInt ∧ 0 ≤ dp.toInt ∧ 0 ≤ n.toInt ∧ sp.toInt + n.toInt ≤ n0 ∧ dp.toInt + n.toInt ≤ n1)
theorem grd_some {b : Bool} {X : Option (Int32 × St)} {q : Int32 × St} (h : grd b X = some q) : b = true ∧ X = some q := by
  cases b with
  | true => exact ⟨rfl, h⟩
  | false => cases h
theorem bnd_some {x : Option (Int32 × St)} {K : Int32 → St → Option (Int32 × St)} {q : Int32 × St} (h : bnd x K = some q) : ∃ r1 σ1, x = some (r1, σ1) ∧ K r1 σ1 = some q := by
  cases x with
  | none => cases h
  | some y => exact ⟨y.1, y.2, rfl, h⟩
theorem inb_in {i : Int32} {n : Nat} (h : inb i n = true) : vp_in i n := vp_in_iff.mpr (of_decide_eq_true h)
theorem nz_ne {v : Int32} (h : nz v = true) : ¬ v = 0 := of_decide_eq_true h
theorem isB_n {v : Int32} (h : isB v = true) : narrow .boolean (.int v) = .int v ∧ fits .boolean (.int v) = true := by
  rcases of_decide_eq_true h with rfl | rfl
  · decide +kernel
  · decide +kernel
end
section
/-! ===== a row an instruction ===== -/
def irm (x y : Int32) : Int32 := x - x / y * y
def iush (x y : Int32) : Int32 := (x.toUInt32 >>> (y.toUInt32 &&& Int32.toUInt32 31)).toInt32
def lush (x : Int64) (y : Int32) : Int64 := (x.toUInt64 >>> (y.toInt64.toUInt64 &&& Int64.toUInt64 63)).toInt64
def lsh (x : Int64) (y : Int32) : Int64 := x >>> (y.toInt64 &&& 63)
def i2b (x : Int32) : Int32 := x.toInt8.toInt32
def i2s (x : Int32) : Int32 := x.toInt16.toInt32
def imx (x y : Int32) : Int32 := if x < y then y else x
def imn (x y : Int32) : Int32 := if y < x then y else x
def nas (σ : St) (K : St → Option (Int32 × St)) : Option (Int32 × St) := K σ
def wid (q : Nat) (K : Nat → Option (Int32 × St)) : Option (Int32 × St) := K q
theorem lv_wk {ls : Array Slot} {n : Nat} {l l' : List (Nat × Value)} (h : lv_has ls n l) (ks : List Nat) (hk : lv_pick l ks = l') : lv_has ls n l' := lv_sub h ks hk
section Rows
variable {l : Launch} {sh : List ShE} {d : Nat} {md : Md} {pc : Nat} {L : List (Nat × Value)} {S : List Value} {σ : St} {X Y : Option (Int32 × St)}
theorem ux_none : Ux l sh d md pc L S σ none := fun r σ' h => by cases h
theorem ux_iconst {n : Int} (v : Int32) (hd : decode md.2.1 pc = .ok (.iconst n, 1)) (hv : Int32.ofInt n = v) (k : Ux l sh d md (pc + 1) L (.int v :: S) σ X) : Ux l sh d md pc L S σ X := by
  intro r σ' hX d' hd' D ca ad p e s m args below meth c C H locs ls hP hS hl
  exact lv_iconst C.1 C.2.1 hd hv (k r σ' hX d' hd' D ca ad p e s m args below meth c C H locs ls hP hS hl)
theorem ux_bipush {n : Int} (v : Int32) (hd : decode md.2.1 pc = .ok (.bipush n, 2)) (hv : (Int8.ofInt n).toInt32 = v) (k : Ux l sh d md (pc + 2) L (.int v :: S) σ X) : Ux l sh d md pc L S σ X := by
  intro r σ' hX d' hd' D ca ad p e s m args below meth c C H locs ls hP hS hl
  exact lv_bipush C.1 C.2.1 hd hv (k r σ' hX d' hd' D ca ad p e s m args below meth c C H locs ls hP hS hl)
theorem ux_sipush {n : Int} (v : Int32) (hd : decode md.2.1 pc = .ok (.sipush n, 3)) (hv : (Int16.ofInt n).toInt32 = v) (k : Ux l sh d md (pc + 3) L (.int v :: S) σ X) : Ux l sh d md pc L S σ X := by
  intro r σ' hX d' hd' D ca ad p e s m args below meth c C H locs ls hP hS hl
  exact lv_sipush C.1 C.2.1 hd hv (k r σ' hX d' hd' D ca ad p e s m args below meth c C H locs ls hP hS hl)
theorem ux_iload_n {j : Fin 4} {x : Int32} (hd : decode md.2.1 pc = .ok (.iload_n j, 1)) (hi : lvk L j.val = some (.int x)) (k : Ux l sh d md (pc + 1) L (.int x :: S) σ X) : Ux l sh d md pc L S σ X := by
  intro r σ' hX d' hd' D ca ad p e s m args below meth c C H locs ls hP hS hl
  exact lv_iload_n C.1 C.2.1 hd rfl (lx_at hl hi) (k r σ' hX d' hd' D ca ad p e s m args below meth c C H locs ls hP hS hl)
theorem ux_iload {i : Nat} {x : Int32} (hd : decode md.2.1 pc = .ok (.iload i, 2)) (hi : lvk L i = some (.int x)) (k : Ux l sh d md (pc + 2) L (.int x :: S) σ X) : Ux l sh d md pc L S σ X := by
  intro r σ' hX d' hd' D ca ad p e s m args below meth c C H locs ls hP hS hl
  exact lv_iload C.1 C.2.1 hd (lx_at hl hi) (k r σ' hX d' hd' D ca ad p e s m args below meth c C H locs ls hP hS hl)
theorem ux_aload_n {j : Fin 4} {x : Nat} (hd : decode md.2.1 pc = .ok (.aload_n j, 1)) (hi : lvk L j.val = some (.ref x)) (k : Ux l sh d md (pc + 1) L (.ref x :: S) σ X) : Ux l sh d md pc L S σ X := by
  intro r σ' hX d' hd' D ca ad p e s m args below meth c C H locs ls hP hS hl
  exact lv_aload_n C.1 C.2.1 hd rfl (lx_at hl hi) (k r σ' hX d' hd' D ca ad p e s m args below meth c C H locs ls hP hS hl)
theorem ux_aload {i : Nat} {x : Nat} (hd : decode md.2.1 pc = .ok (.aload i, 2)) (hi : lvk L i = some (.ref x)) (k : Ux l sh d md (pc + 2) L (.ref x :: S) σ X) : Ux l sh d md pc L S σ X := by
  intro r σ' hX d' hd' D ca ad p e s m args below meth c C H locs ls hP hS hl
  exact lv_aload C.1 C.2.1 hd (lx_at hl hi) (k r σ' hX d' hd' D ca ad p e s m args below meth c C H locs ls hP hS hl)
theorem ux_lload_n {j : Fin 4} {x : Int64} (hd : decode md.2.1 pc = .ok (.lload_n j, 1)) (hi : lvk L j.val = some (.long x)) (k : Ux l sh d md (pc + 1) L (.long x :: S) σ X) : Ux l sh d md pc L S σ X := by
  intro r σ' hX d' hd' D ca ad p e s m args below meth c C H locs ls hP hS hl
  exact lv_lload_n C.1 C.2.1 hd rfl (lx_at hl hi) (k r σ' hX d' hd' D ca ad p e s m args below meth c C H locs ls hP hS hl)
theorem ux_lload {i : Nat} {x : Int64} (hd : decode md.2.1 pc = .ok (.lload i, 2)) (hi : lvk L i = some (.long x)) (k : Ux l sh d md (pc + 2) L (.long x :: S) σ X) : Ux l sh d md pc L S σ X := by
  intro r σ' hX d' hd' D ca ad p e s m args below meth c C H locs ls hP hS hl
  exact lv_lload C.1 C.2.1 hd (lx_at hl hi) (k r σ' hX d' hd' D ca ad p e s m args below meth c C H locs ls hP hS hl)
theorem ux_istore_n {j : Fin 4} {x : Int32} (L' : List (Nat × Value)) (hd : decode md.2.1 pc = .ok (.istore_n j, 1)) (hn : j.val < md.2.2.1) (hL : lst L j.val (.int x) = L') (k : Ux l sh d md (pc + 1) L' S σ X) : Ux l sh d md pc L (.int x :: S) σ X := by
  intro r σ' hX d' hd' D ca ad p e s m args below meth c C H locs ls hP hS hl
  exact lv_istore_n C.1 C.2.1 hd rfl hl hn (lst_cv hL) (fun ls hl => (k r σ' hX d' hd' D ca ad p e s m args below meth c C H locs ls hP hS hl))
theorem ux_istore {i : Nat} {x : Int32} (L' : List (Nat × Value)) (hd : decode md.2.1 pc = .ok (.istore i, 2)) (hn : i < md.2.2.1) (hL : lst L i (.int x) = L') (k : Ux l sh d md (pc + 2) L' S σ X) : Ux l sh d md pc L (.int x :: S) σ X := by
  intro r σ' hX d' hd' D ca ad p e s m args below meth c C H locs ls hP hS hl
  exact lv_istore C.1 C.2.1 hd hl hn (lst_cv hL) (fun ls hl => (k r σ' hX d' hd' D ca ad p e s m args below meth c C H locs ls hP hS hl))
theorem ux_astore_n {j : Fin 4} {x : Nat} (L' : List (Nat × Value)) (hd : decode md.2.1 pc = .ok (.astore_n j, 1)) (hn : j.val < md.2.2.1) (hL : lst L j.val (.ref x) = L') (k : Ux l sh d md (pc + 1) L' S σ X) : Ux l sh d md pc L (.ref x :: S) σ X := by
  intro r σ' hX d' hd' D ca ad p e s m args below meth c C H locs ls hP hS hl
  exact lv_astore_n C.1 C.2.1 hd rfl hl hn (lst_cv hL) (fun ls hl => (k r σ' hX d' hd' D ca ad p e s m args below meth c C H locs ls hP hS hl))
theorem ux_astore {i : Nat} {x : Nat} (L' : List (Nat × Value)) (hd : decode md.2.1 pc = .ok (.astore i, 2)) (hn : i < md.2.2.1) (hL : lst L i (.ref x) = L') (k : Ux l sh d md (pc + 2) L' S σ X) : Ux l sh d md pc L (.ref x :: S) σ X := by
  intro r σ' hX d' hd' D ca ad p e s m args below meth c C H locs ls hP hS hl
  exact lv_astore C.1 C.2.1 hd hl hn (lst_cv hL) (fun ls hl => (k r σ' hX d' hd' D ca ad p e s m args below meth c C H locs ls hP hS hl))
theorem ux_iinc {i : Nat} {n : Int} {x : Int32} (v : Int32) (L' : List (Nat × Value)) (hd : decode md.2.1 pc = .ok (.iinc i n, 3)) (hi : lvk L i = some (.int x)) (hv : x + Int32.ofInt n = v) (hn : i < md.2.2.1) (hL : lst L i (.int v) = L') (k : Ux l sh d md (pc + 3) L' S σ X) : Ux l sh d md pc L S σ X := by
  intro r σ' hX d' hd' D ca ad p e s m args below meth c C H locs ls hP hS hl
  obtain ⟨q, hq⟩ := lvk_cv (ad := ad) hi
  exact lv_iinc C.1 C.2.1 hd hl hq hv hn (lst_cv hL) (fun ls hl => (k r σ' hX d' hd' D ca ad p e s m args below meth c C H locs ls hP hS hl))
theorem ux_iadd {x y : Int32} (hd : decode md.2.1 pc = .ok (.iadd, 1))  (k : Ux l sh d md (pc + 1) L (.int (x + y) :: S) σ X) : Ux l sh d md pc L (.int y :: .int x :: S) σ X := by
  intro r σ' hX d' hd' D ca ad p e s m args below meth c C H locs ls hP hS hl
  exact lv_iadd C.1 C.2.1 hd (k r σ' hX d' hd' D ca ad p e s m args below meth c C H locs ls hP hS hl)
theorem ux_isub {x y : Int32} (hd : decode md.2.1 pc = .ok (.isub, 1))  (k : Ux l sh d md (pc + 1) L (.int (x - y) :: S) σ X) : Ux l sh d md pc L (.int y :: .int x :: S) σ X := by
  intro r σ' hX d' hd' D ca ad p e s m args below meth c C H locs ls hP hS hl
  exact lv_isub C.1 C.2.1 hd (k r σ' hX d' hd' D ca ad p e s m args below meth c C H locs ls hP hS hl)
theorem ux_imul {x y : Int32} (hd : decode md.2.1 pc = .ok (.imul, 1))  (k : Ux l sh d md (pc + 1) L (.int (x * y) :: S) σ X) : Ux l sh d md pc L (.int y :: .int x :: S) σ X := by
  intro r σ' hX d' hd' D ca ad p e s m args below meth c C H locs ls hP hS hl
  exact lv_imul C.1 C.2.1 hd (k r σ' hX d' hd' D ca ad p e s m args below meth c C H locs ls hP hS hl)
theorem ux_iand {x y : Int32} (hd : decode md.2.1 pc = .ok (.iand, 1))  (k : Ux l sh d md (pc + 1) L (.int (x &&& y) :: S) σ X) : Ux l sh d md pc L (.int y :: .int x :: S) σ X := by
  intro r σ' hX d' hd' D ca ad p e s m args below meth c C H locs ls hP hS hl
  exact lv_iand C.1 C.2.1 hd (k r σ' hX d' hd' D ca ad p e s m args below meth c C H locs ls hP hS hl)
theorem ux_ior {x y : Int32} (hd : decode md.2.1 pc = .ok (.ior, 1))  (k : Ux l sh d md (pc + 1) L (.int (x ||| y) :: S) σ X) : Ux l sh d md pc L (.int y :: .int x :: S) σ X := by
  intro r σ' hX d' hd' D ca ad p e s m args below meth c C H locs ls hP hS hl
  exact lv_ior C.1 C.2.1 hd (k r σ' hX d' hd' D ca ad p e s m args below meth c C H locs ls hP hS hl)
theorem ux_ixor {x y : Int32} (hd : decode md.2.1 pc = .ok (.ixor, 1))  (k : Ux l sh d md (pc + 1) L (.int (x ^^^ y) :: S) σ X) : Ux l sh d md pc L (.int y :: .int x :: S) σ X := by
  intro r σ' hX d' hd' D ca ad p e s m args below meth c C H locs ls hP hS hl
  exact lv_ixor C.1 C.2.1 hd (k r σ' hX d' hd' D ca ad p e s m args below meth c C H locs ls hP hS hl)
theorem ux_ishl {x y : Int32} (hd : decode md.2.1 pc = .ok (.ishl, 1))  (k : Ux l sh d md (pc + 1) L (.int (x <<< (y &&& 31)) :: S) σ X) : Ux l sh d md pc L (.int y :: .int x :: S) σ X := by
  intro r σ' hX d' hd' D ca ad p e s m args below meth c C H locs ls hP hS hl
  exact lv_ishl C.1 C.2.1 hd (k r σ' hX d' hd' D ca ad p e s m args below meth c C H locs ls hP hS hl)
theorem ux_ineg {x : Int32} (hd : decode md.2.1 pc = .ok (.ineg, 1))  (k : Ux l sh d md (pc + 1) L (.int (-x) :: S) σ X) : Ux l sh d md pc L (.int x :: S) σ X := by
  intro r σ' hX d' hd' D ca ad p e s m args below meth c C H locs ls hP hS hl
  exact lv_ineg C.1 C.2.1 hd (k r σ' hX d' hd' D ca ad p e s m args below meth c C H locs ls hP hS hl)
theorem ux_iushr {x y : Int32} (hd : decode md.2.1 pc = .ok (.iushr, 1)) (k : Ux l sh d md (pc + 1) L (.int (iush x y) :: S) σ X) : Ux l sh d md pc L (.int y :: .int x :: S) σ X := by
  intro r σ' hX d' hd' D ca ad p e s m args below meth c C H locs ls hP hS hl
  exact lv_iushr C.1 C.2.1 hd rfl (k r σ' hX d' hd' D ca ad p e s m args below meth c C H locs ls hP hS hl)
theorem ux_lushr {x : Int64} {y : Int32} (hd : decode md.2.1 pc = .ok (.lushr, 1)) (k : Ux l sh d md (pc + 1) L (.long (lush x y) :: S) σ X) : Ux l sh d md pc L (.int y :: .long x :: S) σ X := by
  intro r σ' hX d' hd' D ca ad p e s m args below meth c C H locs ls hP hS hl
  exact lv_lushr C.1 C.2.1 hd rfl (k r σ' hX d' hd' D ca ad p e s m args below meth c C H locs ls hP hS hl)
theorem ux_lshr {x : Int64} {y : Int32} (hd : decode md.2.1 pc = .ok (.lshr, 1)) (k : Ux l sh d md (pc + 1) L (.long (lsh x y) :: S) σ X) : Ux l sh d md pc L (.int y :: .long x :: S) σ X := by
  intro r σ' hX d' hd' D ca ad p e s m args below meth c C H locs ls hP hS hl
  exact lv_lshr C.1 C.2.1 hd rfl (k r σ' hX d' hd' D ca ad p e s m args below meth c C H locs ls hP hS hl)
theorem ux_land {x y : Int64} (hd : decode md.2.1 pc = .ok (.land, 1)) (k : Ux l sh d md (pc + 1) L (.long (x &&& y) :: S) σ X) : Ux l sh d md pc L (.long y :: .long x :: S) σ X := by
  intro r σ' hX d' hd' D ca ad p e s m args below meth c C H locs ls hP hS hl
  exact lv_land C.1 C.2.1 hd (k r σ' hX d' hd' D ca ad p e s m args below meth c C H locs ls hP hS hl)
theorem ux_l2i {x : Int64} (hd : decode md.2.1 pc = .ok (.l2i, 1)) (k : Ux l sh d md (pc + 1) L (.int (Int64.toInt32 x) :: S) σ X) : Ux l sh d md pc L (.long x :: S) σ X := by
  intro r σ' hX d' hd' D ca ad p e s m args below meth c C H locs ls hP hS hl
  exact lv_l2i C.1 C.2.1 hd rfl (k r σ' hX d' hd' D ca ad p e s m args below meth c C H locs ls hP hS hl)
theorem ux_i2b {x : Int32} (hd : decode md.2.1 pc = .ok (.i2b, 1)) (k : Ux l sh d md (pc + 1) L (.int (i2b x) :: S) σ X) : Ux l sh d md pc L (.int x :: S) σ X := by
  intro r σ' hX d' hd' D ca ad p e s m args below meth c C H locs ls hP hS hl
  exact lv_i2b C.1 C.2.1 hd rfl (k r σ' hX d' hd' D ca ad p e s m args below meth c C H locs ls hP hS hl)
theorem ux_i2s {x : Int32} (hd : decode md.2.1 pc = .ok (.i2s, 1)) (k : Ux l sh d md (pc + 1) L (.int (i2s x) :: S) σ X) : Ux l sh d md pc L (.int x :: S) σ X := by
  intro r σ' hX d' hd' D ca ad p e s m args below meth c C H locs ls hP hS hl
  exact lv_i2s C.1 C.2.1 hd rfl (k r σ' hX d' hd' D ca ad p e s m args below meth c C H locs ls hP hS hl)
theorem ux_idiv {x y : Int32} (hd : decode md.2.1 pc = .ok (.idiv, 1)) (k : Ux l sh d md (pc + 1) L (.int (x / y) :: S) σ X) : Ux l sh d md pc L (.int y :: .int x :: S) σ (grd (nz y) X) := by
  intro r σ' hX d' hd' D ca ad p e s m args below meth c C H locs ls hP hS hl
  exact lv_idiv C.1 C.2.1 hd (nz_ne (grd_some hX).1) (k r σ' (grd_some hX).2 d' hd' D ca ad p e s m args below meth c C H locs ls hP hS hl)
theorem ux_irem {x y : Int32} (hd : decode md.2.1 pc = .ok (.irem, 1)) (k : Ux l sh d md (pc + 1) L (.int (irm x y) :: S) σ X) : Ux l sh d md pc L (.int y :: .int x :: S) σ (grd (nz y) X) := by
  intro r σ' hX d' hd' D ca ad p e s m args below meth c C H locs ls hP hS hl
  exact lv_irem C.1 C.2.1 hd (nz_ne (grd_some hX).1) (k r σ' (grd_some hX).2 d' hd' D ca ad p e s m args below meth c C H locs ls hP hS hl)
theorem ux_dup {x : Int32} (hd : decode md.2.1 pc = .ok (.dup, 1))  (k : Ux l sh d md (pc + 1) L (.int x :: .int x :: S) σ X) : Ux l sh d md pc L (.int x :: S) σ X := by
  intro r σ' hX d' hd' D ca ad p e s m args below meth c C H locs ls hP hS hl
  exact lv_dup C.1 C.2.1 hd rfl (k r σ' hX d' hd' D ca ad p e s m args below meth c C H locs ls hP hS hl)
theorem ux_dupr {x : Nat} (hd : decode md.2.1 pc = .ok (.dup, 1))  (k : Ux l sh d md (pc + 1) L (.ref x :: .ref x :: S) σ X) : Ux l sh d md pc L (.ref x :: S) σ X := by
  intro r σ' hX d' hd' D ca ad p e s m args below meth c C H locs ls hP hS hl
  exact lv_dup C.1 C.2.1 hd rfl (k r σ' hX d' hd' D ca ad p e s m args below meth c C H locs ls hP hS hl)
theorem ux_pop {x : Int32} (hd : decode md.2.1 pc = .ok (.pop, 1))  (k : Ux l sh d md (pc + 1) L S σ X) : Ux l sh d md pc L (.int x :: S) σ X := by
  intro r σ' hX d' hd' D ca ad p e s m args below meth c C H locs ls hP hS hl
  exact lv_pop C.1 C.2.1 hd rfl (k r σ' hX d' hd' D ca ad p e s m args below meth c C H locs ls hP hS hl)
theorem ux_dup2 {x : Int32} {y : Nat} (hd : decode md.2.1 pc = .ok (.dup2, 1))  (k : Ux l sh d md (pc + 1) L (.int x :: .ref y :: .int x :: .ref y :: S) σ X) : Ux l sh d md pc L (.int x :: .ref y :: S) σ X := by
  intro r σ' hX d' hd' D ca ad p e s m args below meth c C H locs ls hP hS hl
  exact lv_dup2_11 C.1 C.2.1 hd rfl rfl (k r σ' hX d' hd' D ca ad p e s m args below meth c C H locs ls hP hS hl)
theorem ux_dupx1 {x : Int32} {y : Nat} (hd : decode md.2.1 pc = .ok (.dup_x1, 1)) (k : Ux l sh d md (pc + 1) L (.int x :: .ref y :: .int x :: S) σ X) : Ux l sh d md pc L (.int x :: .ref y :: S) σ X := by
  intro r σ' hX d' hd' D ca ad p e s m args below meth c C H locs ls hP hS hl
  exact lv_dup_x1 C.1 C.2.1 hd rfl rfl (k r σ' hX d' hd' D ca ad p e s m args below meth c C H locs ls hP hS hl)
theorem ux_goto {off : Int} (tgt : Nat) (hd : decode md.2.1 pc = .ok (.goto off, 3)) (ht : (pc : Int) + off = (tgt : Int)) (k : Ux l sh d md tgt L S σ X) : Ux l sh d md pc L S σ X := by
  intro r σ' hX d' hd' D ca ad p e s m args below meth c C H locs ls hP hS hl
  exact lv_goto C.1 C.2.1 hd ht (k r σ' hX d' hd' D ca ad p e s m args below meth c C H locs ls hP hS hl)
theorem ux_icmp_eq {x y : Int32} {off : Int} (tgt : Nat) (hd : decode md.2.1 pc = .ok (.if_icmp .eq off, 3)) (ht : (pc : Int) + off = (tgt : Int)) (kt : x = y → Ux l sh d md tgt L S σ X) (kf : ¬ x = y → Ux l sh d md (pc + 3) L S σ Y) : Ux l sh d md pc L (.int y :: .int x :: S) σ (if x = y then X else Y) := by
  intro r σ' hX d' hd' D ca ad p e s m args below meth c C H locs ls hP hS hl
  exact lv_icmp_eq C.1 C.2.1 hd ht (fun h => kt h r σ' (by rw [if_pos h] at hX; exact hX) d' hd' D ca ad p e s m args below meth c C H locs ls hP hS hl) (fun h => kf h r σ' (by rw [if_neg h] at hX; exact hX) d' hd' D ca ad p e s m args below meth c C H locs ls hP hS hl)
theorem ux_icmp_lt {x y : Int32} {off : Int} (tgt : Nat) (hd : decode md.2.1 pc = .ok (.if_icmp .lt off, 3)) (ht : (pc : Int) + off = (tgt : Int)) (kt : x < y → Ux l sh d md tgt L S σ X) (kf : ¬ x < y → Ux l sh d md (pc + 3) L S σ Y) : Ux l sh d md pc L (.int y :: .int x :: S) σ (if x < y then X else Y) := by
  intro r σ' hX d' hd' D ca ad p e s m args below meth c C H locs ls hP hS hl
  exact lv_icmp_lt C.1 C.2.1 hd ht (fun h => kt h r σ' (by rw [if_pos h] at hX; exact hX) d' hd' D ca ad p e s m args below meth c C H locs ls hP hS hl) (fun h => kf h r σ' (by rw [if_neg h] at hX; exact hX) d' hd' D ca ad p e s m args below meth c C H locs ls hP hS hl)
theorem ux_icmp_ge {x y : Int32} {off : Int} (tgt : Nat) (hd : decode md.2.1 pc = .ok (.if_icmp .ge off, 3)) (ht : (pc : Int) + off = (tgt : Int)) (kt : y ≤ x → Ux l sh d md tgt L S σ X) (kf : ¬ y ≤ x → Ux l sh d md (pc + 3) L S σ Y) : Ux l sh d md pc L (.int y :: .int x :: S) σ (if y ≤ x then X else Y) := by
  intro r σ' hX d' hd' D ca ad p e s m args below meth c C H locs ls hP hS hl
  exact lv_icmp_ge C.1 C.2.1 hd ht (fun h => kt h r σ' (by rw [if_pos h] at hX; exact hX) d' hd' D ca ad p e s m args below meth c C H locs ls hP hS hl) (fun h => kf h r σ' (by rw [if_neg h] at hX; exact hX) d' hd' D ca ad p e s m args below meth c C H locs ls hP hS hl)
theorem ux_icmp_gt {x y : Int32} {off : Int} (tgt : Nat) (hd : decode md.2.1 pc = .ok (.if_icmp .gt off, 3)) (ht : (pc : Int) + off = (tgt : Int)) (kt : y < x → Ux l sh d md tgt L S σ X) (kf : ¬ y < x → Ux l sh d md (pc + 3) L S σ Y) : Ux l sh d md pc L (.int y :: .int x :: S) σ (if y < x then X else Y) := by
  intro r σ' hX d' hd' D ca ad p e s m args below meth c C H locs ls hP hS hl
  exact lv_icmp_gt C.1 C.2.1 hd ht (fun h => kt h r σ' (by rw [if_pos h] at hX; exact hX) d' hd' D ca ad p e s m args below meth c C H locs ls hP hS hl) (fun h => kf h r σ' (by rw [if_neg h] at hX; exact hX) d' hd' D ca ad p e s m args below meth c C H locs ls hP hS hl)
theorem ux_icmp_le {x y : Int32} {off : Int} (tgt : Nat) (hd : decode md.2.1 pc = .ok (.if_icmp .le off, 3)) (ht : (pc : Int) + off = (tgt : Int)) (kt : x ≤ y → Ux l sh d md tgt L S σ X) (kf : ¬ x ≤ y → Ux l sh d md (pc + 3) L S σ Y) : Ux l sh d md pc L (.int y :: .int x :: S) σ (if x ≤ y then X else Y) := by
  intro r σ' hX d' hd' D ca ad p e s m args below meth c C H locs ls hP hS hl
  exact lv_icmp_le C.1 C.2.1 hd ht (fun h => kt h r σ' (by rw [if_pos h] at hX; exact hX) d' hd' D ca ad p e s m args below meth c C H locs ls hP hS hl) (fun h => kf h r σ' (by rw [if_neg h] at hX; exact hX) d' hd' D ca ad p e s m args below meth c C H locs ls hP hS hl)
theorem ux_if_eq {x : Int32} {off : Int} (tgt : Nat) (hd : decode md.2.1 pc = .ok (.ifCond .eq off, 3)) (ht : (pc : Int) + off = (tgt : Int)) (kt : x = 0 → Ux l sh d md tgt L S σ X) (kf : ¬ x = 0 → Ux l sh d md (pc + 3) L S σ Y) : Ux l sh d md pc L (.int x :: S) σ (if x = 0 then X else Y) := by
  intro r σ' hX d' hd' D ca ad p e s m args below meth c C H locs ls hP hS hl
  exact lv_if_eq C.1 C.2.1 hd ht (fun h => kt h r σ' (by rw [if_pos h] at hX; exact hX) d' hd' D ca ad p e s m args below meth c C H locs ls hP hS hl) (fun h => kf h r σ' (by rw [if_neg h] at hX; exact hX) d' hd' D ca ad p e s m args below meth c C H locs ls hP hS hl)
theorem ux_if_lt {x : Int32} {off : Int} (tgt : Nat) (hd : decode md.2.1 pc = .ok (.ifCond .lt off, 3)) (ht : (pc : Int) + off = (tgt : Int)) (kt : x < 0 → Ux l sh d md tgt L S σ X) (kf : ¬ x < 0 → Ux l sh d md (pc + 3) L S σ Y) : Ux l sh d md pc L (.int x :: S) σ (if x < 0 then X else Y) := by
  intro r σ' hX d' hd' D ca ad p e s m args below meth c C H locs ls hP hS hl
  exact lv_if_lt C.1 C.2.1 hd ht (fun h => kt h r σ' (by rw [if_pos h] at hX; exact hX) d' hd' D ca ad p e s m args below meth c C H locs ls hP hS hl) (fun h => kf h r σ' (by rw [if_neg h] at hX; exact hX) d' hd' D ca ad p e s m args below meth c C H locs ls hP hS hl)
theorem ux_if_ge {x : Int32} {off : Int} (tgt : Nat) (hd : decode md.2.1 pc = .ok (.ifCond .ge off, 3)) (ht : (pc : Int) + off = (tgt : Int)) (kt : 0 ≤ x → Ux l sh d md tgt L S σ X) (kf : ¬ 0 ≤ x → Ux l sh d md (pc + 3) L S σ Y) : Ux l sh d md pc L (.int x :: S) σ (if 0 ≤ x then X else Y) := by
  intro r σ' hX d' hd' D ca ad p e s m args below meth c C H locs ls hP hS hl
  exact lv_if_ge C.1 C.2.1 hd ht (fun h => kt h r σ' (by rw [if_pos h] at hX; exact hX) d' hd' D ca ad p e s m args below meth c C H locs ls hP hS hl) (fun h => kf h r σ' (by rw [if_neg h] at hX; exact hX) d' hd' D ca ad p e s m args below meth c C H locs ls hP hS hl)
theorem ux_if_gt {x : Int32} {off : Int} (tgt : Nat) (hd : decode md.2.1 pc = .ok (.ifCond .gt off, 3)) (ht : (pc : Int) + off = (tgt : Int)) (kt : 0 < x → Ux l sh d md tgt L S σ X) (kf : ¬ 0 < x → Ux l sh d md (pc + 3) L S σ Y) : Ux l sh d md pc L (.int x :: S) σ (if 0 < x then X else Y) := by
  intro r σ' hX d' hd' D ca ad p e s m args below meth c C H locs ls hP hS hl
  exact lv_if_gt C.1 C.2.1 hd ht (fun h => kt h r σ' (by rw [if_pos h] at hX; exact hX) d' hd' D ca ad p e s m args below meth c C H locs ls hP hS hl) (fun h => kf h r σ' (by rw [if_neg h] at hX; exact hX) d' hd' D ca ad p e s m args below meth c C H locs ls hP hS hl)
theorem ux_if_le {x : Int32} {off : Int} (tgt : Nat) (hd : decode md.2.1 pc = .ok (.ifCond .le off, 3)) (ht : (pc : Int) + off = (tgt : Int)) (kt : x ≤ 0 → Ux l sh d md tgt L S σ X) (kf : ¬ x ≤ 0 → Ux l sh d md (pc + 3) L S σ Y) : Ux l sh d md pc L (.int x :: S) σ (if x ≤ 0 then X else Y) := by
  intro r σ' hX d' hd' D ca ad p e s m args below meth c C H locs ls hP hS hl
  exact lv_if_le C.1 C.2.1 hd ht (fun h => kt h r σ' (by rw [if_pos h] at hX; exact hX) d' hd' D ca ad p e s m args below meth c C H locs ls hP hS hl) (fun h => kf h r σ' (by rw [if_neg h] at hX; exact hX) d' hd' D ca ad p e s m args below meth c C H locs ls hP hS hl)
theorem ux_icmp_ne {x y : Int32} {off : Int} (tgt : Nat) (hd : decode md.2.1 pc = .ok (.if_icmp .ne off, 3)) (ht : (pc : Int) + off = (tgt : Int)) (kt : x = y → Ux l sh d md (pc + 3) L S σ X) (kf : ¬ x = y → Ux l sh d md tgt L S σ Y) : Ux l sh d md pc L (.int y :: .int x :: S) σ (if x = y then X else Y) := by
  intro r σ' hX d' hd' D ca ad p e s m args below meth c C H locs ls hP hS hl
  exact lv_icmp_ne C.1 C.2.1 hd ht (fun h => kf h r σ' (by rw [if_neg h] at hX; exact hX) d' hd' D ca ad p e s m args below meth c C H locs ls hP hS hl) (fun h => kt h r σ' (by rw [if_pos h] at hX; exact hX) d' hd' D ca ad p e s m args below meth c C H locs ls hP hS hl)
theorem ux_if_ne {x : Int32} {off : Int} (tgt : Nat) (hd : decode md.2.1 pc = .ok (.ifCond .ne off, 3)) (ht : (pc : Int) + off = (tgt : Int)) (kt : x = 0 → Ux l sh d md (pc + 3) L S σ X) (kf : ¬ x = 0 → Ux l sh d md tgt L S σ Y) : Ux l sh d md pc L (.int x :: S) σ (if x = 0 then X else Y) := by
  intro r σ' hX d' hd' D ca ad p e s m args below meth c C H locs ls hP hS hl
  exact lv_if_ne C.1 C.2.1 hd ht (fun h => kf h r σ' (by rw [if_neg h] at hX; exact hX) d' hd' D ca ad p e s m args below meth c C H locs ls hP hS hl) (fun h => kt h r σ' (by rw [if_pos h] at hX; exact hX) d' hd' D ca ad p e s m args below meth c C H locs ls hP hS hl)
theorem ux_case {x : Int32} (v : Int32) (kt : x = v → Ux l sh d md pc L (.int v :: S) σ X) (kf : ¬ x = v → Ux l sh d md pc L (.int x :: S) σ Y) : Ux l sh d md pc L (.int x :: S) σ (if x = v then X else Y) := by
  by_cases h : x = v
  · rw [if_pos h]; subst h; exact kt rfl
  · rw [if_neg h]; exact kf h
theorem ux_tabIn {dflt lo hi : Int} {offs : Array Int} {len : Nat} {x : Int32} {off : Int} (tgt : Nat) (hd : decode md.2.1 pc = .ok (.tableswitch dflt lo hi offs, len)) (h1 : ¬ x.toInt < lo) (h2 : ¬ hi < x.toInt) (ho : offs[(x.toInt - lo).toNat]? = some off) (ht : (pc : Int) + off = (tgt : Int)) (k : Ux l sh d md tgt L S σ X) : Ux l sh d md pc L (.int x :: S) σ X := by
  intro r σ' hX d' hd' D ca ad p e s m args below meth c C H locs ls hP hS hl
  exact lv_tableIn C.1 C.2.1 hd h1 h2 ho ht (k r σ' hX d' hd' D ca ad p e s m args below meth c C H locs ls hP hS hl)
theorem ux_tabOut {dflt lo hi : Int} {offs : Array Int} {len : Nat} {x : Int32} (tgt : Nat) (hd : decode md.2.1 pc = .ok (.tableswitch dflt lo hi offs, len)) (h : x.toInt < lo ∨ hi < x.toInt) (ht : (pc : Int) + dflt = (tgt : Int)) (k : Ux l sh d md tgt L S σ X) : Ux l sh d md pc L (.int x :: S) σ X := by
  intro r σ' hX d' hd' D ca ad p e s m args below meth c C H locs ls hP hS hl
  exact lv_tableOut C.1 C.2.1 hd h ht (k r σ' hX d' hd' D ca ad p e s m args below meth c C H locs ls hP hS hl)
theorem ux_look {dflt : Int} {ps : Array (Int × Int)} {len : Nat} {x : Int32} {off : Int} (tgt : Nat) (hd : decode md.2.1 pc = .ok (.lookupswitch dflt ps, len)) (hp : (ps.toList.zip (ps.toList.drop 1)).all (fun (a, next) => a.1 < next.1) = true) (ho : Op.lookupswitch.offset ps.toList dflt x.toInt = off) (ht : (pc : Int) + off = (tgt : Int)) (k : Ux l sh d md tgt L S σ X) : Ux l sh d md pc L (.int x :: S) σ X := by
  intro r σ' hX d' hd' D ca ad p e s m args below meth c C H locs ls hP hS hl
  exact lv_lookup C.1 C.2.1 hd hp ho ht (k r σ' hX d' hd' D ca ad p e s m args below meth c C H locs ls hP hS hl)
theorem ux_ldc {index : Nat} (v : Int32) (hw : Cond.constant md.1.cls index v ∈ tblG) (hd : decode md.2.1 pc = .ok (.ldc index, 2)) (k : Ux l sh d md (pc + 2) L (.int v :: S) σ X) : Ux l sh d md pc L S σ X := by
  intro r σ' hX d' hd' D ca ad p e s m args below meth c C H locs ls hP hS hl
  exact lv_ldc C.1 C.2.1 C.2.2.2.2.2.1 (C.2.2.2.2.2.2.1 _ hw) hd (k r σ' hX d' hd' D ca ad p e s m args below meth c C H locs ls hP hS hl)
theorem ux_ldc2 {index : Nat} (v : Int64) (hw : Cond.constantLong md.1.cls index v ∈ tblG) (hd : decode md.2.1 pc = .ok (.ldc2_w index, 3)) (k : Ux l sh d md (pc + 3) L (.long v :: S) σ X) : Ux l sh d md pc L S σ X := by
  intro r σ' hX d' hd' D ca ad p e s m args below meth c C H locs ls hP hS hl
  exact lv_ldc2 C.1 C.2.1 C.2.2.2.2.2.1 (C.2.2.2.2.2.2.1 _ hw) hd (k r σ' hX d' hd' D ca ad p e s m args below meth c C H locs ls hP hS hl)
theorem ux_nam {x : Int32} {K : Int32 → Option (Int32 × St)} (k : ∀ y : Int32, Ux l sh d md pc L (.int y :: S) σ (K y)) : Ux l sh d md pc L (.int x :: S) σ (nam x K) := k x
def FC (ci : Nat) (C : String) (T : u_T) (N : Nat) (ty0 : Nat → FieldType) : Prop := (∀ w ∈ u_ws C T N, w ∈ tblG) ∧ vwCl[ci]? = some (C, T, N) ∧ (∀ k, k < N → parseFieldDescriptor (T k).2.2.1 = some (ty0 k)) ∧ ∀ a, a < N → ∀ b, b < N → a ≠ b → (T a).2.1 ≠ (T b).2.1
theorem ux_get {ci N : Nat} {CC : String} {T : u_T} {ty0 : Nat → FieldType} {index o : Nat} {fs : List (Option Nat)} (fc : FC ci CC T N ty0) (j : Nat) (hj : j < N) (hw : Cond.fieldLink md.1.cls index (T j).1 (T j).2.1 (T j).2.2.1 ∈ tblG) (ho : sh[o]? = some (.inr (.inr (ci, fs)))) (hf : fs[j]? = some none) (hd : decode md.2.1 pc = .ok (.getfield index, 3)) (k : Ux l sh d md (pc + 3) L (.int (σ.1 o j) :: S) σ X) : Ux l sh d md pc L (.ref o :: S) σ X := by
  intro r σ' hX d' hd' D ca ad p e s m args below meth c C H locs ls hP hS hl
  refine va_get (Ts := tblG) (cl := vwCl) (tys := Tys ca) (ws := shW sh ad ca σ) (D := D) C.1 C.2.1 C.2.2.2.2.2.2.1 fc.1 C.2.2.2.2.2.1 C.2.2.2.2.2.2.2.1 hP o (shW_get ho) fc.2.1 j hj (C.2.2.2.2.2.2.1 _ hw) (fun _ h => h) (shF_get hf) hd ?_
  exact (k r σ' hX d' hd' D ca ad p e s m args below meth c C H locs ls hP hS hl)
theorem ux_getr {ci N : Nat} {CC : String} {T : u_T} {ty0 : Nat → FieldType} {index o : Nat} {fs : List (Option Nat)} (fc : FC ci CC T N ty0) (j : Nat) (hj : j < N) {q : Nat} (hw : Cond.fieldLink md.1.cls index (T j).1 (T j).2.1 (T j).2.2.1 ∈ tblG) (ho : sh[o]? = some (.inr (.inr (ci, fs)))) (hf : fs[j]? = some (some q)) (hd : decode md.2.1 pc = .ok (.getfield index, 3)) (k : Ux l sh d md (pc + 3) L (.ref q :: S) σ X) : Ux l sh d md pc L (.ref o :: S) σ X := by
  intro r σ' hX d' hd' D ca ad p e s m args below meth c C H locs ls hP hS hl
  refine va_get (Ts := tblG) (cl := vwCl) (tys := Tys ca) (ws := shW sh ad ca σ) (D := D) C.1 C.2.1 C.2.2.2.2.2.2.1 fc.1 C.2.2.2.2.2.1 C.2.2.2.2.2.2.2.1 hP o (shW_get ho) fc.2.1 j hj (C.2.2.2.2.2.2.1 _ hw) (fun _ h => h) (shF_get hf) hd ?_
  exact (k r σ' hX d' hd' D ca ad p e s m args below meth c C H locs ls hP hS hl)
theorem ux_put {ci N : Nat} {CC : String} {T : u_T} {ty0 : Nat → FieldType} {index o : Nat} {fs : List (Option Nat)} (fc : FC ci CC T N ty0) (j : Nat) (hj : j < N) {ty : FieldType} {v : Int32} (hw : Cond.fieldLink md.1.cls index (T j).1 (T j).2.1 (T j).2.2.1 ∈ tblG) (hfin : (T j).2.2.2 = false) (hpd : parseFieldDescriptor (T j).2.2.1 = some ty) (hnf : narrow ty (.int v) = .int v ∧ fits ty (.int v) = true) (ho : sh[o]? = some (.inr (.inr (ci, fs)))) (hf : fs[j]? = some none) (hd : decode md.2.1 pc = .ok (.putfield index, 3)) (k : Ux l sh d md (pc + 3) L S (sF σ o j v) X) : Ux l sh d md pc L (.int v :: .ref o :: S) σ X := by
  intro r σ' hX d' hd' D ca ad p e s m args below meth c C H locs ls hP hS hl
  have hlen : j < (shF ad σ o fs).length := by unfold shF; rw [List.length_mapIdx]; exact (List.getElem?_eq_some_iff.mp hf).1
  refine va_put (own := md.1.cls) (Ts := tblG) (cl := vwCl) (tys := Tys ca) (ws := shW sh ad ca σ) (D := D) (A := fA sh ad) C.1 C.2.1 C.2.2.2.2.2.2.1 fc.1 ty0 fc.2.2.1 fc.2.2.2 C.2.2.2.2.2.1 C.2.2.2.2.2.2.2.1 hP (shW_D σ C.2.2.2.2.2.2.2.2.1) hS o (shW_get ho) fc.2.1 j hj (C.2.2.2.2.2.2.1 _ hw) (fun _ h => h) hfin hpd hnf.1 hnf.2 hlen hd (fun H locs hP _ hS => ?_)
  have hP : va_P D vwCl (shW sh ad ca (sF σ o j v)) H := by rw [← shW_put ho hf]; exact hP
  exact (k r σ' hX d' hd' D ca ad p e s m args below meth c C H locs ls hP hS hl)
theorem ux_iald {a n : Nat} {i : Int32} (ha : sh[a]? = some (.inl n)) (hd : decode md.2.1 pc = .ok (.iaload, 1)) (k : Ux l sh d md (pc + 1) L (.int (σ.2 a i.toNatClampNeg) :: S) σ X) : Ux l sh d md pc L (.int i :: .ref a :: S) σ (grd (inb i n) X) := by
  intro r σ' hX d' hd' D ca ad p e s m args below meth c C H locs ls hP hS hl
  exact va_iald (cl := vwCl) (tys := Tys ca) (ws := shW sh ad ca σ) (D := D) C.1 C.2.1 C.2.2.2.2.2.2.2.1 hP a 0 (shW_get ha) rfl (inb_in (grd_some hX).1) hd (k r σ' (grd_some hX).2 d' hd' D ca ad p e s m args below meth c C H locs ls hP hS hl)
theorem ux_iast {a n : Nat} {i v : Int32} (ha : sh[a]? = some (.inl n)) (hd : decode md.2.1 pc = .ok (.iastore, 1)) (k : Ux l sh d md (pc + 1) L S (sA σ a i.toNatClampNeg v) X) : Ux l sh d md pc L (.int v :: .int i :: .ref a :: S) σ (grd (inb i n) X) := by
  intro r σ' hX d' hd' D ca ad p e s m args below meth c C H locs ls hP hS hl
  refine va_iast (cl := vwCl) (tys := Tys ca) (ws := shW sh ad ca σ) (D := D) (A := fA sh ad) C.1 C.2.1 C.2.2.2.2.2.2.2.1 hP (shW_D σ C.2.2.2.2.2.2.2.2.1) hS a 0 (shW_get ha) rfl (inb_in (grd_some hX).1) hd (fun H locs hP _ hS => ?_)
  rw [shW_ast ha] at hP
  exact (k r σ' (grd_some hX).2 d' hd' D ca ad p e s m args below meth c C H locs ls hP hS hl)
theorem ux_alen {a n : Nat} (v : Int32) (ha : sh[a]? = some (.inl n)) (hv : Int32.ofNat n = v) (hd : decode md.2.1 pc = .ok (.arraylength, 1)) (k : Ux l sh d md (pc + 1) L (.int v :: S) σ X) : Ux l sh d md pc L (.ref a :: S) σ X := by
  intro r σ' hX d' hd' D ca ad p e s m args below meth c C H locs ls hP hS hl
  exact va_alen (cl := vwCl) (tys := Tys ca) (ws := shW sh ad ca σ) (D := D) C.1 C.2.1 C.2.2.2.2.2.2.2.1 hP a 0 (shW_get ha) rfl hv hd (k r σ' hX d' hd' D ca ad p e s m args below meth c C H locs ls hP hS hl)
theorem getD_mem {rs : List Nat} {i : Nat} (h : i < rs.length) : rs.getD i 0 ∈ rs ∧ rs[i]? = some (rs.getD i 0) := by
  rw [List.getD_eq_getElem?_getD, List.getElem?_eq_getElem h]
  exact ⟨List.getElem_mem h, rfl⟩
theorem ux_aald {a t : Nat} {rs : List Nat} {i : Int32} {KK : Nat → Option (Int32 × St)} (ha : sh[a]? = some (.inr (.inl (t, rs)))) {CC : String} (ht : ∀ ca, (Tys ca)[t]? = some (ca t, .object CC)) (hd : decode md.2.1 pc = .ok (.aaload, 1)) (k : ∀ q, q ∈ rs → Ux l sh d md (pc + 1) L (.ref q :: S) σ (KK q)) : Ux l sh d md pc L (.int i :: .ref a :: S) σ (grd (inb i rs.length) (wid (rs.getD i.toNatClampNeg 0) KK)) := by
  intro r σ' hX d' hd' D ca ad p e s m args below meth c C H locs ls hP hS hl
  have hin := inb_in (grd_some hX).1
  have hlt : i.toNatClampNeg < rs.length := Nat.not_le.mp fun q => hin (Or.inr q)
  obtain ⟨hm, he⟩ := getD_mem hlt
  have hk := k _ hm r σ' (grd_some hX).2 d' hd' D ca ad p e s m args below meth c C H locs ls hP hS hl
  have hv : va_rf ((rs[i.toNatClampNeg]?).map ad) = .ref (ad (rs.getD i.toNatClampNeg 0)) := by rw [he]; rfl
  refine va_aldq (cl := vwCl) (tys := Tys ca) (ws := shW sh ad ca σ) (D := D) C.1 C.2.1 C.2.2.2.2.2.2.2.1 hP a t (C := CC) (f := fun i => (rs[i]?).map ad) (shW_get ha) (ht ca) hin hd ?_
  rw [hv]
  exact hk
theorem ux_gets {index kk : Nat} {q : String × String × String × FieldType × List Int32} (hq : sttL[kk]? = some q) (hw : Cond.fieldLink md.1.cls index q.1 q.2.1 q.2.2.1 ∈ tblG) (hd : decode md.2.1 pc = .ok (.getstatic index, 3)) (k : Ux l sh d md (pc + 3) L (.ref (900 + kk) :: S) σ X) : Ux l sh d md pc L S σ X := by
  intro r σ' hX d' hd' D ca ad p e s m args below meth c C H locs ls hP hS hl
  exact va_gets C.1 C.2.1 (C.2.2.2.2.2.2.2.2.2.1 kk q hq).1 hS C.2.2.2.2.2.1 (C.2.2.2.2.2.2.1 _ hw) (fun _ h => h) hd (k r σ' hX d' hd' D ca ad p e s m args below meth c C H locs ls hP hS hl)
theorem ux_getsN {q : String × String × String × FieldType × List Int32} (hcls : md.1.cls = "RopeTreaty$Throat") (hd : decode md.2.1 pc = .ok (.getstatic 51, 3)) (k : Ux l sh d md (pc + 3) L (.ref 900 :: S) σ X) : Ux l sh d md pc L S σ X := by
  intro r σ' hX d' hd' D ca ad p e s m args below meth c C H locs ls hP hS hl
  have hown := C.2.2.2.2.2.1
  rw [hcls] at hown
  exact va_getsN C.1 C.2.1 (C.2.2.2.2.2.2.2.2.2.1 0 _ rfl).1 hS hown (va_Nw.use rfl C.2.2.2.2.2.2.2.2.2.2.2) (fun _ h => h) hd (k r σ' hX d' hd' D ca ad p e s m args below meth c C H locs ls hP hS hl)
theorem ux_tald {kk n : Nat} {i : Int32} {q1 q2 q3 : String} {tab : List Int32} (hq : sttL[kk]? = some (q1, q2, q3, .int, tab)) (hn : tab.length = n) (hd : decode md.2.1 pc = .ok (.iaload, 1)) (k : Ux l sh d md (pc + 1) L (.int (tab.getD i.toNatClampNeg 0) :: S) σ X) : Ux l sh d md pc L (.int i :: .ref (900 + kk) :: S) σ (grd (inb i n) X) := by
  intro r σ' hX d' hd' D ca ad p e s m args below meth c C H locs ls hP hS hl
  have hT := (C.2.2.2.2.2.2.2.2.2.1 kk _ hq).2
  subst hn
  exact va_ti C.1 C.2.1 hT hS (inb_in (grd_some hX).1) rfl hd (k r σ' (grd_some hX).2 d' hd' D ca ad p e s m args below meth c C H locs ls hP hS hl)
theorem ux_tcald {kk n : Nat} {i : Int32} {q1 q2 q3 : String} {tab : List Int32} (hq : sttL[kk]? = some (q1, q2, q3, .char, tab)) (hn : tab.length = n) (hd : decode md.2.1 pc = .ok (.caload, 1)) (k : Ux l sh d md (pc + 1) L (.int (tab.getD i.toNatClampNeg 0) :: S) σ X) : Ux l sh d md pc L (.int i :: .ref (900 + kk) :: S) σ (grd (inb i n) X) := by
  intro r σ' hX d' hd' D ca ad p e s m args below meth c C H locs ls hP hS hl
  have hT := (C.2.2.2.2.2.2.2.2.2.1 kk _ hq).2
  subst hn
  exact va_tc C.1 C.2.1 hT hS (inb_in (grd_some hX).1) rfl hd (k r σ' (grd_some hX).2 d' hd' D ca ad p e s m args below meth c C H locs ls hP hS hl)
theorem ux_tlen {kk : Nat} {q : String × String × String × FieldType × List Int32} (v : Int32) (hq : sttL[kk]? = some q) (hv : Int32.ofNat q.2.2.2.2.length = v) (hd : decode md.2.1 pc = .ok (.arraylength, 1)) (k : Ux l sh d md (pc + 1) L (.int v :: S) σ X) : Ux l sh d md pc L (.ref (900 + kk) :: S) σ X := by
  intro r σ' hX d' hd' D ca ad p e s m args below meth c C H locs ls hP hS hl
  exact va_tlen C.1 C.2.1 (C.2.2.2.2.2.2.2.2.2.1 kk q hq).2 hS hv hd (k r σ' hX d' hd' D ca ad p e s m args below meth c C H locs ls hP hS hl)
theorem ux_ldcw {index : Nat} (v : Int32) (hw : Cond.constant md.1.cls index v ∈ tblG) (hd : decode md.2.1 pc = .ok (.ldc_w index, 3)) (k : Ux l sh d md (pc + 3) L (.int v :: S) σ X) : Ux l sh d md pc L S σ X := by
  intro r σ' hX d' hd' D ca ad p e s m args below meth c C H locs ls hP hS hl
  exact lv_ldcw C.1 C.2.1 C.2.2.2.2.2.1 (C.2.2.2.2.2.2.1 _ hw) hd (k r σ' hX d' hd' D ca ad p e s m args below meth c C H locs ls hP hS hl)
theorem ux_iincN {i : Nat} {n : Int} {x : Int32} {K : Int32 → Option (Int32 × St)} (v : Int32) (L' : Int32 → List (Nat × Value)) (hd : decode md.2.1 pc = .ok (.iinc i n, 3)) (hi : lvk L i = some (.int x)) (hv : Int32.ofInt n = v) (hn : i < md.2.2.1) (hL : ∀ y, lst L i (.int y) = L' y) (k : ∀ y : Int32, Ux l sh d md (pc + 3) (L' y) S σ (K y)) : Ux l sh d md pc L S σ (nam (x + v) K) := by
  intro r σ' hX d' hd' D ca ad p e s m args below meth c C H locs ls hP hS hl
  obtain ⟨q, hq⟩ := lvk_cv (ad := ad) hi
  subst hv
  exact lv_iinc C.1 C.2.1 hd hl hq rfl hn (lst_cv (hL _)) (fun ls hl => k _ r σ' hX d' hd' D ca ad p e s m args below meth c C H locs ls hP hS hl)
theorem ux_nas {τ : St} {K : St → Option (Int32 × St)} (k : ∀ ρ : St, Ux l sh d md pc L S ρ (K ρ)) : Ux l sh d md pc L S τ (nas τ K) := k τ
theorem pick_cv {ad : Nat → Nat} {L : List (Nat × Value)} (ks : List Nat) : lv_pick (L.map (cvq ad)) ks = (lv_pick L ks).map (cvq ad) := by
  unfold lv_pick
  rw [List.map_filterMap]
  congr 1
  funext k
  rw [List.getElem?_map]
theorem ux_wk (L' : List (Nat × Value)) (ks : List Nat) (hk : lv_pick L ks = L') (k : Ux l sh d md pc L' S σ X) : Ux l sh d md pc L S σ X := by
  intro r σ' hX d' hd' D ca ad p e s m args below meth c C H locs ls hP hS hl
  subst hk
  exact k r σ' hX d' hd' D ca ad p e s m args below meth c C H locs ls hP hS (lv_sub hl ks (pick_cv ks))
theorem ux_putg {ci N : Nat} {CC : String} {T : u_T} {ty0 : Nat → FieldType} {index o : Nat} {fs : List (Option Nat)} (fc : FC ci CC T N ty0) (j : Nat) (hj : j < N) {v : Int32} (hw : Cond.fieldLink md.1.cls index (T j).1 (T j).2.1 (T j).2.2.1 ∈ tblG) (hfin : (T j).2.2.2 = false) (hpd : parseFieldDescriptor (T j).2.2.1 = some .boolean) (ho : sh[o]? = some (.inr (.inr (ci, fs)))) (hf : fs[j]? = some none) (hd : decode md.2.1 pc = .ok (.putfield index, 3)) (k : Ux l sh d md (pc + 3) L S (sF σ o j v) X) : Ux l sh d md pc L (.int v :: .ref o :: S) σ (grd (isB v) X) := by
  intro r σ' hX d' hd' D ca ad p e s m args below meth c C H locs ls hP hS hl
  exact ux_put fc j hj hw hfin hpd (isB_n (grd_some hX).1) ho hf hd k r σ' (grd_some hX).2 d' hd' D ca ad p e s m args below meth c C H locs ls hP hS hl
theorem ux_iret {v : Int32} (hrt : md.2.2.2 = some .int) (hd : decode md.2.1 pc = .ok (.ireturn, 1)) : Ux l sh d md pc L [.int v] σ (some (v, σ)) := by
  intro r σ' hX d' hd' D ca ad p e s m args below meth c C H locs ls hP hS hl
  obtain ⟨y, cc, nL, rt⟩ := md
  cases hrt
  cases hX
  exact W.iret C.1 C.2.1 C.2.2.2.1 (fun t ht hW => ⟨rfl, by rw [ht]; exact hP, hS.F ht⟩) hS.2.2 hd C.2.2.2.2.1
theorem ux_zret {v : Int32} (hrt : md.2.2.2 = some .boolean) (hd : decode md.2.1 pc = .ok (.ireturn, 1)) (hn : narrow .boolean (.int v) = .int v ∧ fits .boolean (.int v) = true) : Ux l sh d md pc L [.int v] σ (some (v, σ)) := by
  intro r σ' hX d' hd' D ca ad p e s m args below meth c C H locs ls hP hS hl
  obtain ⟨y, cc, nL, rt⟩ := md
  cases hrt
  cases hX
  exact W.zret C.1 C.2.1 C.2.2.2.1 hn.1 (fun t ht hW => ⟨rfl, by rw [ht]; exact hP, hS.F ht⟩) hS.2.2 hd C.2.2.2.2.1
theorem ux_zretg {v : Int32} (hrt : md.2.2.2 = some .boolean) (hd : decode md.2.1 pc = .ok (.ireturn, 1)) : Ux l sh d md pc L [.int v] σ (grd (isB v) (some (v, σ))) := by
  intro r σ' hX d' hd' D ca ad p e s m args below meth c C H locs ls hP hS hl
  have hb := isB_n (grd_some hX).1
  have hX := (grd_some hX).2
  obtain ⟨y, cc, nL, rt⟩ := md
  cases hrt
  cases hX
  exact W.zret C.1 C.2.1 C.2.2.2.1 hb.1 (fun t ht hW => ⟨rfl, by rw [ht]; exact hP, hS.F ht⟩) hS.2.2 hd C.2.2.2.2.1
theorem ux_vret (hrt : md.2.2.2 = none) (hd : decode md.2.1 pc = .ok (.return_, 1)) : Ux l sh d md pc L [] σ (some (0, σ)) := by
  intro r σ' hX d' hd' D ca ad p e s m args below meth c C H locs ls hP hS hl
  obtain ⟨y, cc, nL, rt⟩ := md
  cases hrt
  cases hX
  exact W.vret C.1 C.2.1 C.2.2.2.1 (fun t ht hW => ⟨rfl, by rw [ht]; exact hP, hS.F ht⟩) hS.2.2 hd C.2.2.2.2.1
end Rows
end
section
/-! ===== calls ===== -/
section Calls
variable {l : Launch} {sh : List ShE} {d : Nat} {md : Md} {pc : Nat} {L : List (Nat × Value)} {S : List Value} {σ : St} {X Y : Option (Int32 × St)}
theorem pxx_blind {sh : List ShE} {D : va_G} {ca : Nat → ClassId} {ad : Nat → Nat} {σ : St} {av : List Value} : FrameBlind (va_Pc av (Pxx sh D ca ad σ)) := fun a U g mk h => ⟨h.1, h.2.1, h.2.2.calling g mk a⟩
theorem pxx_at {sh : List ShE} {D : va_G} {ca : Nat → ClassId} {ad : Nat → Nat} {σ : St} {s U : State} {H : Heap} {locs : List Loc} (hP : va_P D vwCl (shW sh ad ca σ) H) (hS : va_S (fA sh ad) s.heap H locs) (hK : Kx sh D ca ad s) (hU : U.heap = H) (hW : s.WarmedH U.vm) : Pxx sh D ca ad σ U := ⟨by rw [hU]; exact hP, hK.warm hW (fun a h1 h2 => by rw [hU]; exact hS.2.1 a h1 h2)⟩
theorem rmd_ok {d1 d' nL : Nat} (h : d1 + 1 ≤ d') (hn : nL ≤ 40) : (rmd (d' - 1)).frames + 1 ≤ (rmd d').frames ∧ 8 + (nL + 11) + (rmd (d' - 1)).locals ≤ (rmd d').locals := by
  show d' - 1 + 1 ≤ d' ∧ 8 + (nL + 11) + 60 * (d' - 1) ≤ 60 * d'
  omega
theorem cxx_fix {sh : List ShE} {md : Md} {D : va_G} {ca : Nat → ClassId} {ad : Nat → Nat} {p : Program} {s : State} {m : MethodId} {args : Array Value} {meth : Method} {c : Code} (C : Cxx sh md D ca ad p s m args meth c) : CallFix p m c md.2.1 md.2.2.1 s args tblG md.1.cls := ⟨C.1, C.2.1, C.2.2.1, C.2.2.2.2.2.1, C.2.2.2.2.2.2.1⟩
/-- words of an instance method, of a static one -/
def CV (cd : Md) (n : Nat) : Prop := Cond.code cd.1 cd.2.1 cd.2.2.1 cd.2.2.2 ∈ tblG ∧ Cond.instanceMethod cd.1 ∈ tblG ∧ Cond.selects cd.1.cls cd.1 cd.1 ∈ tblG ∧ Cond.initialized cd.1.cls ∈ tblG ∧ (cd.1.cls ≠ "java/lang/invoke/MethodHandle" ∧ cd.1.cls ≠ "java/lang/invoke/VarHandle" ∧ (parseMethodDescriptor cd.1.desc).map (fun d => d.parameters.length) = some n) ∧ cd.2.2.1 ≤ 40
def CS (cd : Md) (n : Nat) : Prop := Cond.code cd.1 cd.2.1 cd.2.2.1 cd.2.2.2 ∈ tblG ∧ Cond.static cd.1 ∈ tblG ∧ Cond.initialized cd.1.cls ∈ tblG ∧ (cd.1.cls ≠ "java/lang/invoke/MethodHandle" ∧ cd.1.cls ≠ "java/lang/invoke/VarHandle" ∧ (parseMethodDescriptor cd.1.desc).map (fun d => d.parameters.length) = some n) ∧ cd.2.2.1 ≤ 40
theorem mws_in {cd : Md} (h : Cond.code cd.1 cd.2.1 cd.2.2.1 cd.2.2.2 ∈ tblG) : GoodIn tblG (mws cd) := tblG_in fun w hw => (List.mem_cons.mp hw).elim (fun e => by rw [e]; exact h) id
theorem after_call {sh : List ShE} {rt : Option FieldType} {r1 : Int32} {σ1 : St} {D : va_G} {ca : Nat → ClassId} {ad : Nat → Nat} {s st₀ t T' : State} {H : Heap} {locs L2 : List Loc} (hS : va_S (fA sh ad) s.heap H locs) (hL : ∀ q ∈ L2, fA sh ad q.base) (h0 : st₀.heap = H) (e1 : T'.heap = t.heap) (hF : va_F (fA sh ad) st₀ t) : va_S (fA sh ad) s.heap T'.heap (locs ++ L2) := by
  refine ⟨Nat.le_trans hS.1 (by rw [e1, ← h0]; exact hF.1), fun q h1 h2 => ?_, fun q hq => (List.mem_append.mp hq).elim (hS.2.2 q) (hL q)⟩
  rw [e1, hF.2 q (by rw [h0]; exact Nat.lt_of_lt_of_le h1 hS.1) h2, h0]
  exact hS.2.1 q h1 h2
theorem ux_callVi {ty : FieldType} {cd : Md} {d1 n index ci o : Nat} {As : List Value} {fs : List (Option Nat)} {q : vw_C} {XX : Option (Int32 × St)} {KK : Int32 → St → Option (Int32 × St)} (hM : Spc l sh d1 cd (.ref o :: As) σ XX) (hdd : d1 + 1 ≤ d) (cv : CV cd n) (hw : Cond.methodLink md.1.cls index cd.1 ∈ tblG) (hrt : cd.2.2.2 = some ty) (hn : As.length = n) (ho : sh[o]? = some (.inr (.inr (ci, fs)))) (hc : vwCl[ci]? = some q) (hq : q.1 = cd.1.cls) (hroom : (S.map fun v => v.category).sum ≤ 8) (hd : decode md.2.1 pc = .ok (.invokevirtual index, 3)) (k : ∀ (r1 : Int32) (σ1 : St), XX = some (r1, σ1) → Ux l sh d md (pc + 3) L (.int r1 :: S) σ1 (KK r1 σ1)) : Ux l sh d md pc L (As.reverse ++ .ref o :: S) σ (bnd XX KK) := by
  intro r σ' hX d' hd' D ca ad p e s m args below meth c C H locs ls hP hS hl
  obtain ⟨r1, σ1, hX1, hK⟩ := bnd_some hX
  have hm1 := hM r1 σ1 hX1 (d' - 1) (by omega) D ca ad
  have hts := C.2.2.2.2.2.2.1
  have hsh : (S.map (cvv ad)).map (fun v => v.category) = S.map (fun v => v.category) := by rw [List.map_map]; congr 1; funext v; exact cvv_cat ad v
  have hrecv := va_recv (cl := vwCl) (tys := Tys ca) (ws := shW sh ad ca σ) (D := D) C.2.2.2.2.2.2.2.1 hP (q0 := o) hc (shW_get ho)
  rw [hq] at hrecv
  have hrun := va_runV (C := cd.1.cls) (n := n) (b := ad o) (As := As.map (cvv ad)) (rest := S.map (cvv ad)) (g := F0 m pc ls ((As.reverse ++ .ref o :: S).map (cvv ad))) (l := l) (e := e) (below := below) (meth := meth) (locs := locs) (cells := 0) (slots := 0) (H := H) (R := rmd d') (cxx_fix C) hm1
    (by
      have hb : CallB (rmd d') s args md.1.cls index cd.1 cd.2.1 cd.2.2.1 cd.2.2.2 (mws cd) (rmd (d' - 1)) 0 0 n := callB_of (Ts := tblG) n hts (mws_in cv.1) rfl rfl rfl (hts _ cv.2.2.2.1) (hts _ hw) cv.2.2.2.2.1 (rmd_ok (d1 := d1) (by omega) cv.2.2.2.2.2)
      exact ⟨hb, hts _ cv.2.1, hts _ cv.2.2.1⟩)
    ⟨pxx_blind, hrecv, fun U hU hW => ⟨rfl, pxx_at hP hS C.2.2.2.2.2.2.2 hU hW⟩⟩ rfl (by rw [List.length_map]; exact hn) hl.1 (by simp [List.map_append, List.map_reverse, cvv]) (by rw [hsh]; exact (show 2 * JFrame.monitorRoom _ + _ ≤ 8 from by first | (simpa [JFrame.monitorRoom] using hroom) | exact hroom)) hd ⟨Nat.zero_le _, Nat.zero_le _⟩
  intro T hT X0
  obtain ⟨v, st₀, t, T', L2, h0, X', hL, e1, e2, ⟨ho, hP1, hF⟩, st⟩ := hrun T hT X0
  rw [hrt] at ho
  cases ho
  obtain ⟨t2, a1, b1⟩ := k r1 σ1 hX1 r σ' hK d' hd' D ca ad p e s m args below meth c C T'.heap (locs ++ L2) ls (by rw [e1]; exact hP1) (after_call (rt := cd.2.2.2) (r1 := r1) (σ1 := σ1) (D := D) (ca := ca) hS hL h0 e1 hF) hl T' rfl X'
  exact ⟨t2, st t2 a1, b1⟩
theorem ux_callSi {ty : FieldType} {cd : Md} {d1 n index : Nat} {As : List Value} {XX : Option (Int32 × St)} {KK : Int32 → St → Option (Int32 × St)}  (hM : Spc l sh d1 cd As σ XX) (hdd : d1 + 1 ≤ d) (cv : CS cd n) (hw : Cond.methodLink md.1.cls index cd.1 ∈ tblG) (hrt : cd.2.2.2 = some ty) (hn : As.length = n) (hroom : (S.map fun v => v.category).sum ≤ 8) (hd : decode md.2.1 pc = .ok (.invokestatic index, 3)) (k : ∀ (r1 : Int32) (σ1 : St), XX = some (r1, σ1) → Ux l sh d md (pc + 3) L (.int r1 :: S) σ1 (KK r1 σ1)) : Ux l sh d md pc L (As.reverse ++ S) σ (bnd XX KK) := by
  intro r σ' hX d' hd' D ca ad p e s m args below meth c C H locs ls hP hS hl
  obtain ⟨r1, σ1, hX1, hK⟩ := bnd_some hX
  have hm1 := hM r1 σ1 hX1 (d' - 1) (by omega) D ca ad
  have hts := C.2.2.2.2.2.2.1
  have hsh : (S.map (cvv ad)).map (fun v => v.category) = S.map (fun v => v.category) := by rw [List.map_map]; congr 1; funext v; exact cvv_cat ad v
  have hrun := va_runS (n := n) (As := As.map (cvv ad)) (rest := S.map (cvv ad)) (g := F0 m pc ls ((As.reverse ++ S).map (cvv ad))) (l := l) (e := e) (below := below) (meth := meth) (locs := locs) (cells := 0) (slots := 0) (H := H) (R := rmd d') (cxx_fix C) hm1
    ⟨callB_of (Ts := tblG) n hts (mws_in cv.1) rfl rfl rfl (hts _ cv.2.2.1) (hts _ hw) cv.2.2.2.1 (rmd_ok (d1 := d1) (by omega) cv.2.2.2.2), hts _ cv.2.1⟩
    ⟨pxx_blind, fun U hU hW => ⟨rfl, pxx_at hP hS C.2.2.2.2.2.2.2 hU hW⟩⟩ rfl (by rw [List.length_map]; exact hn) hl.1 (by simp [List.map_append, List.map_reverse]) (by rw [hsh]; exact (show 2 * JFrame.monitorRoom _ + _ ≤ 8 from by first | (simpa [JFrame.monitorRoom] using hroom) | exact hroom)) hd ⟨Nat.zero_le _, Nat.zero_le _⟩
  intro T hT X0
  obtain ⟨v, st₀, t, T', L2, h0, X', hL, e1, e2, ⟨ho, hP1, hF⟩, st⟩ := hrun T hT X0
  rw [hrt] at ho
  cases ho
  obtain ⟨t2, a1, b1⟩ := k r1 σ1 hX1 r σ' hK d' hd' D ca ad p e s m args below meth c C T'.heap (locs ++ L2) ls (by rw [e1]; exact hP1) (after_call (rt := cd.2.2.2) (r1 := r1) (σ1 := σ1) (D := D) (ca := ca) hS hL h0 e1 hF) hl T' rfl X'
  exact ⟨t2, st t2 a1, b1⟩
theorem ux_callNi {ty : FieldType} {cd : Md} {d1 n index : Nat} {As : List Value} {XX : Option (Int32 × St)} {KK : Int32 → St → Option (Int32 × St)} {host : String} (hM : Spc l sh d1 cd As σ XX) (hdd : d1 + 1 ≤ d) (cv : CS cd n) (hw : (md.1.cls, index, cd.1, host) ∈ nstM) (hrt : cd.2.2.2 = some ty) (hn : As.length = n) (hroom : (S.map fun v => v.category).sum ≤ 8) (hd : decode md.2.1 pc = .ok (.invokestatic index, 3)) (k : ∀ (r1 : Int32) (σ1 : St), XX = some (r1, σ1) → Ux l sh d md (pc + 3) L (.int r1 :: S) σ1 (KK r1 σ1)) : Ux l sh d md pc L (As.reverse ++ S) σ (bnd XX KK) := by
  intro r σ' hX d' hd' D ca ad p e s m args below meth c C H locs ls hP hS hl
  obtain ⟨r1, σ1, hX1, hK⟩ := bnd_some hX
  have hm1 := hM r1 σ1 hX1 (d' - 1) (by omega) D ca ad
  have hts := C.2.2.2.2.2.2.1
  have hsh : (S.map (cvv ad)).map (fun v => v.category) = S.map (fun v => v.category) := by rw [List.map_map]; congr 1; funext v; exact cvv_cat ad v
  have hrun := va_runSN (host := host) (n := n) (As := As.map (cvv ad)) (rest := S.map (cvv ad)) (g := F0 m pc ls ((As.reverse ++ S).map (cvv ad))) (l := l) (e := e) (below := below) (meth := meth) (locs := locs) (cells := 0) (slots := 0) (H := H) (R := rmd d') (cxx_fix C) hm1
    ⟨va_cnB (Ts := tblG) n hts (mws_in cv.1) rfl rfl rfl (C.2.2.2.2.2.2.2.2.2.2.1 _ hw) (hts _ cv.2.2.1) cv.2.2.2.1 (rmd_ok (d1 := d1) (by omega) cv.2.2.2.2), hts _ cv.2.1, trivial⟩
    ⟨pxx_blind, fun U hU hW => ⟨rfl, pxx_at hP hS C.2.2.2.2.2.2.2 hU hW⟩⟩ rfl (by rw [List.length_map]; exact hn) hl.1 (by simp [List.map_append, List.map_reverse]) (by rw [hsh]; exact (show 2 * JFrame.monitorRoom _ + _ ≤ 8 from by first | (simpa [JFrame.monitorRoom] using hroom) | exact hroom)) hd ⟨Nat.zero_le _, Nat.zero_le _⟩
  intro T hT X0
  obtain ⟨v, st₀, t, T', L2, h0, X', hL, e1, e2, ⟨ho, hP1, hF⟩, st⟩ := hrun T hT X0
  rw [hrt] at ho
  cases ho
  obtain ⟨t2, a1, b1⟩ := k r1 σ1 hX1 r σ' hK d' hd' D ca ad p e s m args below meth c C T'.heap (locs ++ L2) ls (by rw [e1]; exact hP1) (after_call (rt := cd.2.2.2) (r1 := r1) (σ1 := σ1) (D := D) (ca := ca) hS hL h0 e1 hF) hl T' rfl X'
  exact ⟨t2, st t2 a1, b1⟩
theorem ux_callVv {cd : Md} {d1 n index ci o : Nat} {As : List Value} {fs : List (Option Nat)} {q : vw_C} {XX : Option (Int32 × St)} {KK : Int32 → St → Option (Int32 × St)} (hM : Spc l sh d1 cd (.ref o :: As) σ XX) (hdd : d1 + 1 ≤ d) (cv : CV cd n) (hw : Cond.methodLink md.1.cls index cd.1 ∈ tblG) (hrt : cd.2.2.2 = none) (hn : As.length = n) (ho : sh[o]? = some (.inr (.inr (ci, fs)))) (hc : vwCl[ci]? = some q) (hq : q.1 = cd.1.cls) (hroom : (S.map fun v => v.category).sum ≤ 8) (hd : decode md.2.1 pc = .ok (.invokevirtual index, 3)) (k : ∀ (r1 : Int32) (σ1 : St), XX = some (r1, σ1) → Ux l sh d md (pc + 3) L S σ1 (KK r1 σ1)) : Ux l sh d md pc L (As.reverse ++ .ref o :: S) σ (bnd XX KK) := by
  intro r σ' hX d' hd' D ca ad p e s m args below meth c C H locs ls hP hS hl
  obtain ⟨r1, σ1, hX1, hK⟩ := bnd_some hX
  have hm1 := hM r1 σ1 hX1 (d' - 1) (by omega) D ca ad
  have hts := C.2.2.2.2.2.2.1
  have hsh : (S.map (cvv ad)).map (fun v => v.category) = S.map (fun v => v.category) := by rw [List.map_map]; congr 1; funext v; exact cvv_cat ad v
  have hrecv := va_recv (cl := vwCl) (tys := Tys ca) (ws := shW sh ad ca σ) (D := D) C.2.2.2.2.2.2.2.1 hP (q0 := o) hc (shW_get ho)
  rw [hq] at hrecv
  have hrun := va_runV (C := cd.1.cls) (n := n) (b := ad o) (As := As.map (cvv ad)) (rest := S.map (cvv ad)) (g := F0 m pc ls ((As.reverse ++ .ref o :: S).map (cvv ad))) (l := l) (e := e) (below := below) (meth := meth) (locs := locs) (cells := 0) (slots := 0) (H := H) (R := rmd d') (cxx_fix C) hm1
    (by
      have hb : CallB (rmd d') s args md.1.cls index cd.1 cd.2.1 cd.2.2.1 cd.2.2.2 (mws cd) (rmd (d' - 1)) 0 0 n := callB_of (Ts := tblG) n hts (mws_in cv.1) rfl rfl rfl (hts _ cv.2.2.2.1) (hts _ hw) cv.2.2.2.2.1 (rmd_ok (d1 := d1) (by omega) cv.2.2.2.2.2)
      exact ⟨hb, hts _ cv.2.1, hts _ cv.2.2.1⟩)
    ⟨pxx_blind, hrecv, fun U hU hW => ⟨rfl, pxx_at hP hS C.2.2.2.2.2.2.2 hU hW⟩⟩ rfl (by rw [List.length_map]; exact hn) hl.1 (by simp [List.map_append, List.map_reverse, cvv]) (by rw [hsh]; exact (show 2 * JFrame.monitorRoom _ + _ ≤ 8 from by first | (simpa [JFrame.monitorRoom] using hroom) | exact hroom)) hd ⟨Nat.zero_le _, Nat.zero_le _⟩
  intro T hT X0
  obtain ⟨v, st₀, t, T', L2, h0, X', hL, e1, e2, ⟨ho, hP1, hF⟩, st⟩ := hrun T hT X0
  rw [hrt] at ho
  cases ho
  obtain ⟨t2, a1, b1⟩ := k r1 σ1 hX1 r σ' hK d' hd' D ca ad p e s m args below meth c C T'.heap (locs ++ L2) ls (by rw [e1]; exact hP1) (after_call (rt := cd.2.2.2) (r1 := r1) (σ1 := σ1) (D := D) (ca := ca) hS hL h0 e1 hF) hl T' rfl X'
  exact ⟨t2, st t2 a1, b1⟩
theorem ux_callSv {cd : Md} {d1 n index : Nat} {As : List Value} {XX : Option (Int32 × St)} {KK : Int32 → St → Option (Int32 × St)}  (hM : Spc l sh d1 cd As σ XX) (hdd : d1 + 1 ≤ d) (cv : CS cd n) (hw : Cond.methodLink md.1.cls index cd.1 ∈ tblG) (hrt : cd.2.2.2 = none) (hn : As.length = n) (hroom : (S.map fun v => v.category).sum ≤ 8) (hd : decode md.2.1 pc = .ok (.invokestatic index, 3)) (k : ∀ (r1 : Int32) (σ1 : St), XX = some (r1, σ1) → Ux l sh d md (pc + 3) L S σ1 (KK r1 σ1)) : Ux l sh d md pc L (As.reverse ++ S) σ (bnd XX KK) := by
  intro r σ' hX d' hd' D ca ad p e s m args below meth c C H locs ls hP hS hl
  obtain ⟨r1, σ1, hX1, hK⟩ := bnd_some hX
  have hm1 := hM r1 σ1 hX1 (d' - 1) (by omega) D ca ad
  have hts := C.2.2.2.2.2.2.1
  have hsh : (S.map (cvv ad)).map (fun v => v.category) = S.map (fun v => v.category) := by rw [List.map_map]; congr 1; funext v; exact cvv_cat ad v
  have hrun := va_runS (n := n) (As := As.map (cvv ad)) (rest := S.map (cvv ad)) (g := F0 m pc ls ((As.reverse ++ S).map (cvv ad))) (l := l) (e := e) (below := below) (meth := meth) (locs := locs) (cells := 0) (slots := 0) (H := H) (R := rmd d') (cxx_fix C) hm1
    ⟨callB_of (Ts := tblG) n hts (mws_in cv.1) rfl rfl rfl (hts _ cv.2.2.1) (hts _ hw) cv.2.2.2.1 (rmd_ok (d1 := d1) (by omega) cv.2.2.2.2), hts _ cv.2.1⟩
    ⟨pxx_blind, fun U hU hW => ⟨rfl, pxx_at hP hS C.2.2.2.2.2.2.2 hU hW⟩⟩ rfl (by rw [List.length_map]; exact hn) hl.1 (by simp [List.map_append, List.map_reverse]) (by rw [hsh]; exact (show 2 * JFrame.monitorRoom _ + _ ≤ 8 from by first | (simpa [JFrame.monitorRoom] using hroom) | exact hroom)) hd ⟨Nat.zero_le _, Nat.zero_le _⟩
  intro T hT X0
  obtain ⟨v, st₀, t, T', L2, h0, X', hL, e1, e2, ⟨ho, hP1, hF⟩, st⟩ := hrun T hT X0
  rw [hrt] at ho
  cases ho
  obtain ⟨t2, a1, b1⟩ := k r1 σ1 hX1 r σ' hK d' hd' D ca ad p e s m args below meth c C T'.heap (locs ++ L2) ls (by rw [e1]; exact hP1) (after_call (rt := cd.2.2.2) (r1 := r1) (σ1 := σ1) (D := D) (ca := ca) hS hL h0 e1 hF) hl T' rfl X'
  exact ⟨t2, st t2 a1, b1⟩
theorem ux_callNv {cd : Md} {d1 n index : Nat} {As : List Value} {XX : Option (Int32 × St)} {KK : Int32 → St → Option (Int32 × St)} {host : String} (hM : Spc l sh d1 cd As σ XX) (hdd : d1 + 1 ≤ d) (cv : CS cd n) (hw : (md.1.cls, index, cd.1, host) ∈ nstM) (hrt : cd.2.2.2 = none) (hn : As.length = n) (hroom : (S.map fun v => v.category).sum ≤ 8) (hd : decode md.2.1 pc = .ok (.invokestatic index, 3)) (k : ∀ (r1 : Int32) (σ1 : St), XX = some (r1, σ1) → Ux l sh d md (pc + 3) L S σ1 (KK r1 σ1)) : Ux l sh d md pc L (As.reverse ++ S) σ (bnd XX KK) := by
  intro r σ' hX d' hd' D ca ad p e s m args below meth c C H locs ls hP hS hl
  obtain ⟨r1, σ1, hX1, hK⟩ := bnd_some hX
  have hm1 := hM r1 σ1 hX1 (d' - 1) (by omega) D ca ad
  have hts := C.2.2.2.2.2.2.1
  have hsh : (S.map (cvv ad)).map (fun v => v.category) = S.map (fun v => v.category) := by rw [List.map_map]; congr 1; funext v; exact cvv_cat ad v
  have hrun := va_runSN (host := host) (n := n) (As := As.map (cvv ad)) (rest := S.map (cvv ad)) (g := F0 m pc ls ((As.reverse ++ S).map (cvv ad))) (l := l) (e := e) (below := below) (meth := meth) (locs := locs) (cells := 0) (slots := 0) (H := H) (R := rmd d') (cxx_fix C) hm1
    ⟨va_cnB (Ts := tblG) n hts (mws_in cv.1) rfl rfl rfl (C.2.2.2.2.2.2.2.2.2.2.1 _ hw) (hts _ cv.2.2.1) cv.2.2.2.1 (rmd_ok (d1 := d1) (by omega) cv.2.2.2.2), hts _ cv.2.1, trivial⟩
    ⟨pxx_blind, fun U hU hW => ⟨rfl, pxx_at hP hS C.2.2.2.2.2.2.2 hU hW⟩⟩ rfl (by rw [List.length_map]; exact hn) hl.1 (by simp [List.map_append, List.map_reverse]) (by rw [hsh]; exact (show 2 * JFrame.monitorRoom _ + _ ≤ 8 from by first | (simpa [JFrame.monitorRoom] using hroom) | exact hroom)) hd ⟨Nat.zero_le _, Nat.zero_le _⟩
  intro T hT X0
  obtain ⟨v, st₀, t, T', L2, h0, X', hL, e1, e2, ⟨ho, hP1, hF⟩, st⟩ := hrun T hT X0
  rw [hrt] at ho
  cases ho
  obtain ⟨t2, a1, b1⟩ := k r1 σ1 hX1 r σ' hK d' hd' D ca ad p e s m args below meth c C T'.heap (locs ++ L2) ls (by rw [e1]; exact hP1) (after_call (rt := cd.2.2.2) (r1 := r1) (σ1 := σ1) (D := D) (ca := ca) hS hL h0 e1 hF) hl T' rfl X'
  exact ⟨t2, st t2 a1, b1⟩
theorem ux_mmax {x y : Int32} {index : Nat} (hdd : 1 ≤ d) (hroom : (S.map fun v => v.category).sum ≤ 8) (hw : Cond.methodLink md.1.cls index Lib.Math.max.name ∈ tblG) (hst : Cond.static Lib.Math.max.name ∈ tblG) (hin : Cond.initialized "java/lang/Math" ∈ tblG) (hco : Cond.code Lib.Math.max.name Lib.Math.max.code 2 (some .int) ∈ tblG) (hd : decode md.2.1 pc = .ok (.invokestatic index, 3)) (k : Ux l sh d md (pc + 3) L (.int (if x < y then y else x) :: S) σ X) : Ux l sh d md pc L (.int y :: .int x :: S) σ X := by
  intro r σ' hX d' hd' D ca ad p e s m args below meth c C H locs ls hP hS hl
  have hts := C.2.2.2.2.2.2.1
  have hsh : (S.map (cvv ad)).map (fun v => v.category) = S.map (fun v => v.category) := by rw [List.map_map]; congr 1; funext v; exact cvv_cat ad v
  refine va_mmax C.1 C.2.1 (by rw [C.2.2.1]; exact hl.1.symm) C.2.2.2.2.2.1 (hts _ hw) (hts _ hst) (hts _ hin) (hts _ hco) (show 1 ≤ d' by omega) (by rw [hsh]; show _ ≤ 60 * d'; omega) (Nat.zero_le _) (Nat.zero_le _) hd ?_
  exact k r σ' hX d' hd' D ca ad p e s m args below meth c C H locs ls hP hS hl
theorem ux_mmin {x y : Int32} {index : Nat} (hdd : 1 ≤ d) (hroom : (S.map fun v => v.category).sum ≤ 8) (hw : Cond.methodLink md.1.cls index Lib.Math.min.name ∈ tblG) (hst : Cond.static Lib.Math.min.name ∈ tblG) (hin : Cond.initialized "java/lang/Math" ∈ tblG) (hco : Cond.code Lib.Math.min.name Lib.Math.min.code 2 (some .int) ∈ tblG) (hd : decode md.2.1 pc = .ok (.invokestatic index, 3)) (k : Ux l sh d md (pc + 3) L (.int (if y < x then y else x) :: S) σ X) : Ux l sh d md pc L (.int y :: .int x :: S) σ X := by
  intro r σ' hX d' hd' D ca ad p e s m args below meth c C H locs ls hP hS hl
  have hts := C.2.2.2.2.2.2.1
  have hsh : (S.map (cvv ad)).map (fun v => v.category) = S.map (fun v => v.category) := by rw [List.map_map]; congr 1; funext v; exact cvv_cat ad v
  refine va_mmin C.1 C.2.1 (by rw [C.2.2.1]; exact hl.1.symm) C.2.2.2.2.2.1 (hts _ hw) (hts _ hst) (hts _ hin) (hts _ hco) (show 1 ≤ d' by omega) (by rw [hsh]; show _ ≤ 60 * d'; omega) (Nat.zero_le _) (Nat.zero_le _) hd ?_
  exact k r σ' hX d' hd' D ca ad p e s m args below meth c C H locs ls hP hS hl
theorem cpb_some {sp dp n : Int32} {n0 n1 : Nat} (h : cpb sp dp n n0 n1 = true) : ¬ sp < 0 ∧ ¬ dp < 0 ∧ ¬ n < 0 ∧ sp.toNatClampNeg + n.toNatClampNeg ≤ n0 ∧ dp.toNatClampNeg + n.toNatClampNeg ≤ n1 := by
  obtain ⟨h1, h2, h3, h4, h5⟩ := of_decide_eq_true h
  have z : (0 : Int32).toInt = 0 := rfl
  have c : ∀ x : Int32, 0 ≤ x.toInt → (x.toNatClampNeg : Int) = x.toInt := fun x hx => by
    show ((x.toInt.toNat : Nat) : Int) = x.toInt
    omega
  have l : ∀ x : Int32, 0 ≤ x.toInt → ¬ x < 0 := fun x hx q => by
    have := Int32.lt_iff_toInt_lt.mp q
    rw [z] at this
    omega
  refine ⟨l _ h1, l _ h2, l _ h3, ?_, ?_⟩
  · have := c sp h1
    have := c n h3
    omega
  · have := c dp h2
    have := c n h3
    omega
theorem acopy_words : nativeFrameWords "java/lang/System" "arraycopy" 5 ≤ 100 := by decide +kernel
theorem ux_acopy {sp dp n : Int32} {a0 a1 n0 n1 index : Nat} (hdd : 2 ≤ d) (hroom : (S.map fun v => v.category).sum ≤ 8) (hw : Cond.methodLink md.1.cls index arraycopyName ∈ tblG) (hnat : Cond.native arraycopyName ∈ tblG) (hst : Cond.static arraycopyName ∈ tblG) (hin : Cond.initialized "java/lang/System" ∈ tblG) (h0 : sh[a0]? = some (.inl n0)) (h1 : sh[a1]? = some (.inl n1)) (hd : decode md.2.1 pc = .ok (.invokestatic index, 3)) (k : Ux l sh d md (pc + 3) L S (sC σ a0 sp.toNatClampNeg a1 dp.toNatClampNeg n.toNatClampNeg) X) : Ux l sh d md pc L (.int n :: .int dp :: .ref a1 :: .int sp :: .ref a0 :: S) σ (grd (cpb sp dp n n0 n1) X) := by
  intro r σ' hX d' hd' D ca ad p e s m args below meth c C H locs ls hP hS hl
  have hts := C.2.2.2.2.2.2.1
  have hsh : (S.map (cvv ad)).map (fun v => v.category) = S.map (fun v => v.category) := by rw [List.map_map]; congr 1; funext v; exact cvv_cat ad v
  obtain ⟨g1, g2, g3, g4, g5⟩ := cpb_some (grd_some hX).1
  have hloc : (S.map fun v => v.category).sum + (nativeFrameWords "java/lang/System" "arraycopy" 5 + 11) ≤ (rmd d').locals := by
    show _ ≤ 60 * d'
    have := acopy_words
    omega
  refine va_copyi (cl := vwCl) (tys := Tys ca) (ws := shW sh ad ca σ) (D := D) (A := fA sh ad) C.1 C.2.1 (by rw [C.2.2.1]; exact hl.1.symm) C.2.2.2.2.2.1 (hts _ hw) (hts _ hnat) (hts _ hst) (hts _ hin) C.2.2.2.2.2.2.2.1 hP (shW_D σ C.2.2.2.2.2.2.2.2.1) hS a0 a1 0 0 (shW_get h0) (shW_get h1) rfl rfl rfl g1 g2 g3 g4 g5 (fun _ _ => rfl) (show 1 ≤ d' by omega) (by rw [hsh]; exact hloc) hd (fun H locs hP _ hS => ?_)
  have hP : va_P D vwCl (shW sh ad ca (sC σ a0 sp.toNatClampNeg a1 dp.toNatClampNeg n.toNatClampNeg)) H := by rw [← shW_cpy h1]; exact hP
  exact k r σ' (grd_some hX).2 d' hd' D ca ad p e s m args below meth c C H locs ls hP hS hl
end Calls
end
section
/-! ===== the shapes of the two modules: which cells they are made of ===== -/
def shC : List ShE := [
  .inr (.inr (6, [some 1, some 2, some 15, some 24, some 33, some 42, some 44, some 46, some 49, some 51, some 53, some 62, some 64, none])),
  .inr (.inl (1, [3, 6])), .inr (.inl (1, [9, 12])),
  .inr (.inr (4, [none, some 4, some 5, none])), .inl 60, .inl 60,
  .inr (.inr (4, [none, some 7, some 8, none])), .inl 60, .inl 60,
  .inr (.inr (4, [none, some 10, some 11, none])), .inl 60, .inl 60,
  .inr (.inr (4, [none, some 13, some 14, none])), .inl 60, .inl 60,
  .inr (.inr (1, [some 1, some 16, some 17, some 18, some 19, some 20, some 21, some 22, some 23, none, none, none, none, none, none])), .inl 6, .inl 6, .inl 6, .inl 6, .inl 6, .inl 2, .inl 6, .inl 6,
  .inr (.inr (1, [some 1, some 25, some 26, some 27, some 28, some 29, some 30, some 31, some 32, none, none, none, none, none, none])), .inl 6, .inl 6, .inl 6, .inl 6, .inl 6, .inl 2, .inl 6, .inl 6,
  .inr (.inr (1, [some 2, some 34, some 35, some 36, some 37, some 38, some 39, some 40, some 41, none, none, none, none, none, none])), .inl 6, .inl 6, .inl 6, .inl 6, .inl 6, .inl 2, .inl 6, .inl 6,
  .inr (.inr (3, [some 43, none])), .inl 60,
  .inr (.inr (3, [some 45, none])), .inl 60,
  .inr (.inr (0, [some 47, none, some 48, none, none, none, none])), .inl 60, .inl 60,
  .inr (.inr (2, [some 50, none, none])), .inl 24,
  .inr (.inr (2, [some 52, none, none])), .inl 24,
  .inr (.inl (2, [54, 56, 58, 60])),
  .inr (.inr (2, [some 55, none, none])), .inl 24,
  .inr (.inr (2, [some 57, none, none])), .inl 24,
  .inr (.inr (2, [some 59, none, none])), .inl 24,
  .inr (.inr (2, [some 61, none, none])), .inl 24,
  .inr (.inr (5, [some 63, none, none, none, none, none])), .inl 30,
  .inl 7]
def shM : List ShE := [.inr (.inr (7, [some 1, some 2, some 3, none, some 4, some 5, some 6, some 7, some 8, some 9, some 10, some 11, none, none, none, none, none, some 12, some 13, none, none])), .inl 366, .inl 366, .inl 366, .inl 7, .inl 4, .inl 4, .inl 96, .inl 60, .inl 60, .inl 3, .inl 60, .inl 6, .inl 30]
def isTx (o : Nat) : Prop := o = 3 ∨ o = 6 ∨ o = 9 ∨ o = 12
def isRp (o : Nat) : Prop := o = 15 ∨ o = 24 ∨ o = 33
def isTp (o : Nat) : Prop := o = 42 ∨ o = 44
def isRw (o : Nat) : Prop := o = 49 ∨ o = 51 ∨ o = 54 ∨ o = 56 ∨ o = 58 ∨ o = 60
abbrev isA60 (a : Nat) : Prop := shC[a]? = some (.inl 60)
abbrev isA366 (a : Nat) : Prop := shM[a]? = some (.inl 366)
def rpt (o : Nat) : Nat := if o = 33 then 2 else 1
def rpx (o : Nat) : List Nat := if o = 33 then [9, 12] else [3, 6]
theorem rpO {o : Nat} (h : isRp o) : shC[o]? = some (.inr (.inr (1, [some (rpt o), some (o + 1), some (o + 2), some (o + 3), some (o + 4), some (o + 5), some (o + 6), some (o + 7), some (o + 8), none, none, none, none, none, none]))) := by rcases h with rfl | rfl | rfl <;> rfl
theorem rpX {o : Nat} (h : isRp o) : shC[rpt o]? = some (.inr (.inl (1, rpx o))) := by rcases h with rfl | rfl | rfl <;> rfl
theorem rpx_tx {o q : Nat} (h : q ∈ rpx o) : isTx q := by
  unfold rpx at h
  unfold isTx
  split at h <;> simp at h <;> omega
theorem mem_tx {q : Nat} (h : q ∈ [3, 6]) : isTx q := by unfold isTx; simp at h; omega
theorem mem_ktx {q : Nat} (h : q ∈ [9, 12]) : isTx q := by unfold isTx; simp at h; omega
theorem mem_rw {q : Nat} (h : q ∈ [54, 56, 58, 60]) : isRw q := by unfold isRw; simp at h; omega
theorem rpA1 {o : Nat} (h : isRp o) : shC[o + 1]? = some (.inl 6) := by rcases h with rfl | rfl | rfl <;> rfl
theorem rpA2 {o : Nat} (h : isRp o) : shC[o + 2]? = some (.inl 6) := by rcases h with rfl | rfl | rfl <;> rfl
theorem rpA3 {o : Nat} (h : isRp o) : shC[o + 3]? = some (.inl 6) := by rcases h with rfl | rfl | rfl <;> rfl
theorem rpA4 {o : Nat} (h : isRp o) : shC[o + 4]? = some (.inl 6) := by rcases h with rfl | rfl | rfl <;> rfl
theorem rpA5 {o : Nat} (h : isRp o) : shC[o + 5]? = some (.inl 6) := by rcases h with rfl | rfl | rfl <;> rfl
theorem rpA6 {o : Nat} (h : isRp o) : shC[o + 6]? = some (.inl 2) := by rcases h with rfl | rfl | rfl <;> rfl
theorem rpA7 {o : Nat} (h : isRp o) : shC[o + 7]? = some (.inl 6) := by rcases h with rfl | rfl | rfl <;> rfl
theorem rpA8 {o : Nat} (h : isRp o) : shC[o + 8]? = some (.inl 6) := by rcases h with rfl | rfl | rfl <;> rfl
theorem txO {o : Nat} (h : isTx o) : shC[o]? = some (.inr (.inr (4, [none, some (o + 1), some (o + 2), none]))) := by rcases h with rfl | rfl | rfl | rfl <;> rfl
theorem txA1 {o : Nat} (h : isTx o) : shC[o + 1]? = some (.inl 60) := by rcases h with rfl | rfl | rfl | rfl <;> rfl
theorem txA2 {o : Nat} (h : isTx o) : shC[o + 2]? = some (.inl 60) := by rcases h with rfl | rfl | rfl | rfl <;> rfl
theorem tpO {o : Nat} (h : isTp o) : shC[o]? = some (.inr (.inr (3, [some (o + 1), none]))) := by rcases h with rfl | rfl <;> rfl
theorem tpA {o : Nat} (h : isTp o) : shC[o + 1]? = some (.inl 60) := by rcases h with rfl | rfl <;> rfl
theorem rwO {o : Nat} (h : isRw o) : shC[o]? = some (.inr (.inr (2, [some (o + 1), none, none]))) := by rcases h with rfl | rfl | rfl | rfl | rfl | rfl <;> rfl
theorem rwA {o : Nat} (h : isRw o) : shC[o + 1]? = some (.inl 24) := by rcases h with rfl | rfl | rfl | rfl | rfl | rfl <;> rfl
theorem rp15 : isRp 15 := Or.inl rfl
theorem rp24 : isRp 24 := Or.inr (Or.inl rfl)
theorem rp33 : isRp 33 := Or.inr (Or.inr rfl)
theorem tp42 : isTp 42 := Or.inl rfl
theorem tp44 : isTp 44 := Or.inr rfl
theorem rw49 : isRw 49 := Or.inl rfl
theorem rw51 : isRw 51 := Or.inr (Or.inl rfl)
/-! decode rows of a method, in one list -/
def dall (c : ByteArray) (l : List (Nat × Instr × Nat)) : Bool := l.all (fun e => decide (decode c e.1 = .ok e.2))
theorem dg {c : ByteArray} {l : List (Nat × Instr × Nat)} {pc : Nat} {q : Instr × Nat} (h : dall c l = true) (i : Nat) (hi : l[i]? = some (pc, q)) : decode c pc = .ok q := by
  have h1 := List.all_eq_true.mp h _ (List.mem_of_getElem? hi)
  simp only [decide_eq_true_eq] at h1
  exact h1
end
section
def yXI_bitCount : MethodName := ⟨"java/lang/Integer", "bitCount", "(I)I"⟩
abbrev cXI_bitCount : ByteArray := prog_10_method_49_code
theorem wk_0 : Cond.selects "RopeTreaty" ⟨"RopeTreaty", "error", "(I)I"⟩ ⟨"RopeTreaty", "error", "(I)I"⟩ ∈ tblG := wdG (i := 0) (by decide +kernel) rfl
theorem wk_1 : Cond.selects "RopeTreaty$Text" ⟨"RopeTreaty$Text", "work", "(III)I"⟩ ⟨"RopeTreaty$Text", "work", "(III)I"⟩ ∈ tblG := wdG (i := 1) (by decide +kernel) rfl
theorem wk_2 : Cond.selects "RopeTreaty$Reader" ⟨"RopeTreaty$Reader", "readOr", "(I)V"⟩ ⟨"RopeTreaty$Reader", "readOr", "(I)V"⟩ ∈ tblG := wdG (i := 2) (by decide +kernel) rfl
theorem wk_3 : Cond.selects "RopeTreaty$Reader" ⟨"RopeTreaty$Reader", "readAnd", "(I)V"⟩ ⟨"RopeTreaty$Reader", "readAnd", "(I)V"⟩ ∈ tblG := wdG (i := 3) (by decide +kernel) rfl
theorem wk_4 : Cond.selects "RopeTreaty$Reader" ⟨"RopeTreaty$Reader", "readLikeness", "(I)V"⟩ ⟨"RopeTreaty$Reader", "readLikeness", "(I)V"⟩ ∈ tblG := wdG (i := 4) (by decide +kernel) rfl
theorem wk_5 : Cond.selects "RopeTreaty$Reader" ⟨"RopeTreaty$Reader", "readSum", "(I)V"⟩ ⟨"RopeTreaty$Reader", "readSum", "(I)V"⟩ ∈ tblG := wdG (i := 5) (by decide +kernel) rfl
theorem wk_6 : Cond.selects "RopeTreaty$Reader" ⟨"RopeTreaty$Reader", "readProduct", "(I)V"⟩ ⟨"RopeTreaty$Reader", "readProduct", "(I)V"⟩ ∈ tblG := wdG (i := 6) (by decide +kernel) rfl
theorem wk_7 : Cond.selects "RopeTreaty$Reader" ⟨"RopeTreaty$Reader", "readPart", "(I)V"⟩ ⟨"RopeTreaty$Reader", "readPart", "(I)V"⟩ ∈ tblG := wdG (i := 7) (by decide +kernel) rfl
theorem wk_8 : Cond.selects "RopeTreaty$Reader" ⟨"RopeTreaty$Reader", "nextName", "()I"⟩ ⟨"RopeTreaty$Reader", "nextName", "()I"⟩ ∈ tblG := wdG (i := 8) (by decide +kernel) rfl
theorem wk_9 : Cond.selects "RopeTreaty$Reader" ⟨"RopeTreaty$Reader", "isNext", "(C)Z"⟩ ⟨"RopeTreaty$Reader", "isNext", "(C)Z"⟩ ∈ tblG := wdG (i := 9) (by decide +kernel) rfl
theorem wk_10 : Cond.selects "RopeTreaty$Reader" ⟨"RopeTreaty$Reader", "write", "(I)V"⟩ ⟨"RopeTreaty$Reader", "write", "(I)V"⟩ ∈ tblG := wdG (i := 10) (by decide +kernel) rfl
theorem wk_11 : Cond.selects "RopeTreaty$Reader" ⟨"RopeTreaty$Reader", "isDigit", "()Z"⟩ ⟨"RopeTreaty$Reader", "isDigit", "()Z"⟩ ∈ tblG := wdG (i := 11) (by decide +kernel) rfl
theorem wk_12 : Cond.selects "RopeTreaty$Reader" ⟨"RopeTreaty$Reader", "readNumber", "()V"⟩ ⟨"RopeTreaty$Reader", "readNumber", "()V"⟩ ∈ tblG := wdG (i := 12) (by decide +kernel) rfl
theorem wk_13 : Cond.selects "RopeTreaty$Reader" ⟨"RopeTreaty$Reader", "close", "()V"⟩ ⟨"RopeTreaty$Reader", "close", "()V"⟩ ∈ tblG := wdG (i := 13) (by decide +kernel) rfl
theorem wk_14 : Cond.selects "RopeTreaty$Rope" ⟨"RopeTreaty$Rope", "skip", "(I)I"⟩ ⟨"RopeTreaty$Rope", "skip", "(I)I"⟩ ∈ tblG := wdG (i := 14) (by decide +kernel) rfl
theorem wk_15 : Cond.selects "RopeTreaty$Rope" ⟨"RopeTreaty$Rope", "draw", "()I"⟩ ⟨"RopeTreaty$Rope", "draw", "()I"⟩ ∈ tblG := wdG (i := 15) (by decide +kernel) rfl
theorem wk_16 : Cond.selects "RopeTreaty$Rope" ⟨"RopeTreaty$Rope", "onlyAgainst", "(I)I"⟩ ⟨"RopeTreaty$Rope", "onlyAgainst", "(I)I"⟩ ∈ tblG := wdG (i := 16) (by decide +kernel) rfl
theorem wk_17 : Cond.selects "RopeTreaty$Throat" ⟨"RopeTreaty$Throat", "say", "(IIII)I"⟩ ⟨"RopeTreaty$Throat", "say", "(IIII)I"⟩ ∈ tblG := wdG (i := 17) (by decide +kernel) rfl
theorem wk_18 : Cond.selects "RopeTreaty$Throat" ⟨"RopeTreaty$Throat", "work", "(III)I"⟩ ⟨"RopeTreaty$Throat", "work", "(III)I"⟩ ∈ tblG := wdG (i := 18) (by decide +kernel) rfl
theorem wk_19 : Cond.selects "RopeTreaty$Throat" ⟨"RopeTreaty$Throat", "part", "(I)I"⟩ ⟨"RopeTreaty$Throat", "part", "(I)I"⟩ ∈ tblG := wdG (i := 19) (by decide +kernel) rfl
theorem wk_20 : Cond.selects "RopeTreatyModel" ⟨"RopeTreatyModel", "error", "(I)I"⟩ ⟨"RopeTreatyModel", "error", "(I)I"⟩ ∈ tblG := wdG (i := 20) (by decide +kernel) rfl
theorem wk_21 : Cond.selects "RopeTreatyModel" ⟨"RopeTreatyModel", "lets", "(III)V"⟩ ⟨"RopeTreatyModel", "lets", "(III)V"⟩ ∈ tblG := wdG (i := 21) (by decide +kernel) rfl
theorem wk_22 : Cond.selects "RopeTreatyModel" ⟨"RopeTreatyModel", "isJumper", "(I)Z"⟩ ⟨"RopeTreatyModel", "isJumper", "(I)Z"⟩ ∈ tblG := wdG (i := 22) (by decide +kernel) rfl
theorem wk_23 : Cond.selects "RopeTreatyModel" ⟨"RopeTreatyModel", "of", "(II)I"⟩ ⟨"RopeTreatyModel", "of", "(II)I"⟩ ∈ tblG := wdG (i := 23) (by decide +kernel) rfl
theorem wk_24 : Cond.selects "RopeTreatyModel" ⟨"RopeTreatyModel", "costsOf", "(I)I"⟩ ⟨"RopeTreatyModel", "costsOf", "(I)I"⟩ ∈ tblG := wdG (i := 24) (by decide +kernel) rfl
theorem wk_25 : Cond.selects "RopeTreatyModel" ⟨"RopeTreatyModel", "takesOf", "(I)I"⟩ ⟨"RopeTreatyModel", "takesOf", "(I)I"⟩ ∈ tblG := wdG (i := 25) (by decide +kernel) rfl
theorem wk_26 : Cond.selects "RopeTreatyModel" ⟨"RopeTreatyModel", "word", "()I"⟩ ⟨"RopeTreatyModel", "word", "()I"⟩ ∈ tblG := wdG (i := 26) (by decide +kernel) rfl
theorem wk_27 : Cond.selects "RopeTreatyModel" ⟨"RopeTreatyModel", "allIn", "()I"⟩ ⟨"RopeTreatyModel", "allIn", "()I"⟩ ∈ tblG := wdG (i := 27) (by decide +kernel) rfl
theorem wk_28 : Cond.selects "RopeTreatyModel" ⟨"RopeTreatyModel", "isIn", "(I)Z"⟩ ⟨"RopeTreatyModel", "isIn", "(I)Z"⟩ ∈ tblG := wdG (i := 28) (by decide +kernel) rfl
theorem wk_29 : Cond.selects "RopeTreatyModel" ⟨"RopeTreatyModel", "gives", "(IIII)I"⟩ ⟨"RopeTreatyModel", "gives", "(IIII)I"⟩ ∈ tblG := wdG (i := 29) (by decide +kernel) rfl
theorem wk_30 : Cond.selects "RopeTreatyModel" ⟨"RopeTreatyModel", "works", "(I)I"⟩ ⟨"RopeTreatyModel", "works", "(I)I"⟩ ∈ tblG := wdG (i := 30) (by decide +kernel) rfl
theorem wk_31 : Cond.selects "RopeTreatyModel" ⟨"RopeTreatyModel", "becomes", "(II)I"⟩ ⟨"RopeTreatyModel", "becomes", "(II)I"⟩ ∈ tblG := wdG (i := 31) (by decide +kernel) rfl
theorem wk_32 : Cond.selects "RopeTreatyModel" ⟨"RopeTreatyModel", "doesTurn", "()Z"⟩ ⟨"RopeTreatyModel", "doesTurn", "()Z"⟩ ∈ tblG := wdG (i := 32) (by decide +kernel) rfl
theorem wk_33 : Cond.selects "RopeTreatyModel" ⟨"RopeTreatyModel", "likesOf", "(II)I"⟩ ⟨"RopeTreatyModel", "likesOf", "(II)I"⟩ ∈ tblG := wdG (i := 33) (by decide +kernel) rfl
theorem wk_34 : Cond.selects "RopeTreatyModel" ⟨"RopeTreatyModel", "leansOf", "(II)I"⟩ ⟨"RopeTreatyModel", "leansOf", "(II)I"⟩ ∈ tblG := wdG (i := 34) (by decide +kernel) rfl
theorem wk_35 : Cond.selects "RopeTreatyModel" ⟨"RopeTreatyModel", "mayTalk", "(I)Z"⟩ ⟨"RopeTreatyModel", "mayTalk", "(I)Z"⟩ ∈ tblG := wdG (i := 35) (by decide +kernel) rfl
theorem wk_36 : Cond.selects "RopeTreatyModel" ⟨"RopeTreatyModel", "talks", "(I)Z"⟩ ⟨"RopeTreatyModel", "talks", "(I)Z"⟩ ∈ tblG := wdG (i := 36) (by decide +kernel) rfl
theorem wk_37 : Cond.selects "RopeTreatyModel" ⟨"RopeTreatyModel", "isTaken", "(I)Z"⟩ ⟨"RopeTreatyModel", "isTaken", "(I)Z"⟩ ∈ tblG := wdG (i := 37) (by decide +kernel) rfl
theorem wk_38 : Cond.selects "RopeTreatyModel" ⟨"RopeTreatyModel", "doesTake", "(II)Z"⟩ ⟨"RopeTreatyModel", "doesTake", "(II)Z"⟩ ∈ tblG := wdG (i := 38) (by decide +kernel) rfl
theorem wk_39 : Cond.selects "RopeTreatyModel" ⟨"RopeTreatyModel", "any", "()V"⟩ ⟨"RopeTreatyModel", "any", "()V"⟩ ∈ tblG := wdG (i := 39) (by decide +kernel) rfl
theorem wk_40 : Cond.selects "RopeTreatyModel" ⟨"RopeTreatyModel", "all", "()V"⟩ ⟨"RopeTreatyModel", "all", "()V"⟩ ∈ tblG := wdG (i := 40) (by decide +kernel) rfl
theorem wk_41 : Cond.selects "RopeTreatyModel" ⟨"RopeTreatyModel", "compares", "()V"⟩ ⟨"RopeTreatyModel", "compares", "()V"⟩ ∈ tblG := wdG (i := 41) (by decide +kernel) rfl
theorem wk_42 : Cond.selects "RopeTreatyModel" ⟨"RopeTreatyModel", "sum", "()V"⟩ ⟨"RopeTreatyModel", "sum", "()V"⟩ ∈ tblG := wdG (i := 42) (by decide +kernel) rfl
theorem wk_43 : Cond.selects "RopeTreatyModel" ⟨"RopeTreatyModel", "times", "()V"⟩ ⟨"RopeTreatyModel", "times", "()V"⟩ ∈ tblG := wdG (i := 43) (by decide +kernel) rfl
theorem wk_44 : Cond.selects "RopeTreatyModel" ⟨"RopeTreatyModel", "one", "()V"⟩ ⟨"RopeTreatyModel", "one", "()V"⟩ ∈ tblG := wdG (i := 44) (by decide +kernel) rfl
theorem wk_45 : Cond.selects "RopeTreatyModel" ⟨"RopeTreatyModel", "look", "()I"⟩ ⟨"RopeTreatyModel", "look", "()I"⟩ ∈ tblG := wdG (i := 45) (by decide +kernel) rfl
theorem wk_46 : Cond.selects "RopeTreatyModel" ⟨"RopeTreatyModel", "nameOf", "(I)I"⟩ ⟨"RopeTreatyModel", "nameOf", "(I)I"⟩ ∈ tblG := wdG (i := 46) (by decide +kernel) rfl
theorem wk_47 : Cond.selects "RopeTreatyModel" ⟨"RopeTreatyModel", "lays", "(II)V"⟩ ⟨"RopeTreatyModel", "lays", "(II)V"⟩ ∈ tblG := wdG (i := 47) (by decide +kernel) rfl
theorem wk_48 : Cond.selects "RopeTreatyModel" ⟨"RopeTreatyModel", "opens", "(I)V"⟩ ⟨"RopeTreatyModel", "opens", "(I)V"⟩ ∈ tblG := wdG (i := 48) (by decide +kernel) rfl
theorem wk_49 : Cond.selects "RopeTreatyModel" ⟨"RopeTreatyModel", "number", "()V"⟩ ⟨"RopeTreatyModel", "number", "()V"⟩ ∈ tblG := wdG (i := 49) (by decide +kernel) rfl
theorem wk_50 : Cond.selects "RopeTreatyModel" ⟨"RopeTreatyModel", "goes", "()I"⟩ ⟨"RopeTreatyModel", "goes", "()I"⟩ ∈ tblG := wdG (i := 50) (by decide +kernel) rfl
theorem wk_51 : Cond.selects "RopeTreatyModel" ⟨"RopeTreatyModel", "misses", "(I)Z"⟩ ⟨"RopeTreatyModel", "misses", "(I)Z"⟩ ∈ tblG := wdG (i := 51) (by decide +kernel) rfl
theorem wk_52 : Cond.selects "RopeTreatyModel" ⟨"RopeTreatyModel", "drawn", "()Z"⟩ ⟨"RopeTreatyModel", "drawn", "()Z"⟩ ∈ tblG := wdG (i := 52) (by decide +kernel) rfl
theorem wk_53 : Cond.selects "RopeTreatyModel" ⟨"RopeTreatyModel", "draw", "()I"⟩ ⟨"RopeTreatyModel", "draw", "()I"⟩ ∈ tblG := wdG (i := 53) (by decide +kernel) rfl
theorem wk_54 : Cond.selects "RopeTreatyModel" ⟨"RopeTreatyModel", "thinks", "()V"⟩ ⟨"RopeTreatyModel", "thinks", "()V"⟩ ∈ tblG := wdG (i := 54) (by decide +kernel) rfl
theorem wk_55 : Cond.selects "RopeTreatyModel" ⟨"RopeTreatyModel", "goesFor", "(I)V"⟩ ⟨"RopeTreatyModel", "goesFor", "(I)V"⟩ ∈ tblG := wdG (i := 55) (by decide +kernel) rfl
theorem wk_56 : Cond.selects "RopeTreatyModel" ⟨"RopeTreatyModel", "putsBack", "()V"⟩ ⟨"RopeTreatyModel", "putsBack", "()V"⟩ ∈ tblG := wdG (i := 56) (by decide +kernel) rfl
theorem wk_57 : Cond.selects "RopeTreatyModel" ⟨"RopeTreatyModel", "leastLiking", "(I)I"⟩ ⟨"RopeTreatyModel", "leastLiking", "(I)I"⟩ ∈ tblG := wdG (i := 57) (by decide +kernel) rfl
theorem wk_58 : Cond.selects "RopeTreatyModel" ⟨"RopeTreatyModel", "balksOf", "(I)I"⟩ ⟨"RopeTreatyModel", "balksOf", "(I)I"⟩ ∈ tblG := wdG (i := 58) (by decide +kernel) rfl
theorem wk_59 : Cond.selects "RopeTreatyModel" ⟨"RopeTreatyModel", "whoAlone", "(I)I"⟩ ⟨"RopeTreatyModel", "whoAlone", "(I)I"⟩ ∈ tblG := wdG (i := 59) (by decide +kernel) rfl
theorem wk_60 : Cond.selects "RopeTreatyModel" ⟨"RopeTreatyModel", "notThere", "(I)I"⟩ ⟨"RopeTreatyModel", "notThere", "(I)I"⟩ ∈ tblG := wdG (i := 60) (by decide +kernel) rfl
theorem wk_61 : Cond.selects "RopeTreatyModel" ⟨"RopeTreatyModel", "isSo", "(I)Z"⟩ ⟨"RopeTreatyModel", "isSo", "(I)Z"⟩ ∈ tblG := wdG (i := 61) (by decide +kernel) rfl
theorem wk_62 : Cond.selects "RopeTreatyModel" ⟨"RopeTreatyModel", "sings", "(II)I"⟩ ⟨"RopeTreatyModel", "sings", "(II)I"⟩ ∈ tblG := wdG (i := 62) (by decide +kernel) rfl
theorem wk_63 : Cond.selects "RopeTreatyModel" ⟨"RopeTreatyModel", "masterSings", "(II)I"⟩ ⟨"RopeTreatyModel", "masterSings", "(II)I"⟩ ∈ tblG := wdG (i := 63) (by decide +kernel) rfl
theorem wk_64 : Cond.selects "RopeTreatyModel" ⟨"RopeTreatyModel", "begins", "(I)V"⟩ ⟨"RopeTreatyModel", "begins", "(I)V"⟩ ∈ tblG := wdG (i := 64) (by decide +kernel) rfl
theorem wk_65 : Cond.selects "RopeTreatyModel" ⟨"RopeTreatyModel", "plainSings", "(II)I"⟩ ⟨"RopeTreatyModel", "plainSings", "(II)I"⟩ ∈ tblG := wdG (i := 65) (by decide +kernel) rfl
theorem wk_66 : Cond.selects "RopeTreatyModel" ⟨"RopeTreatyModel", "jumps", "(II)I"⟩ ⟨"RopeTreatyModel", "jumps", "(II)I"⟩ ∈ tblG := wdG (i := 66) (by decide +kernel) rfl
theorem wk_67 : Cond.selects "RopeTreatyModel" ⟨"RopeTreatyModel", "conJumps", "(II)I"⟩ ⟨"RopeTreatyModel", "conJumps", "(II)I"⟩ ∈ tblG := wdG (i := 67) (by decide +kernel) rfl
theorem wk_68 : Cond.selects "RopeTreatyModel" ⟨"RopeTreatyModel", "plainJumps", "(II)I"⟩ ⟨"RopeTreatyModel", "plainJumps", "(II)I"⟩ ∈ tblG := wdG (i := 68) (by decide +kernel) rfl
theorem wk_69 : Cond.selects "RopeTreatyModel" ⟨"RopeTreatyModel", "claps", "(II)I"⟩ ⟨"RopeTreatyModel", "claps", "(II)I"⟩ ∈ tblG := wdG (i := 69) (by decide +kernel) rfl
theorem wk_70 : Cond.selects "RopeTreatyModel" ⟨"RopeTreatyModel", "plainClaps", "(II)I"⟩ ⟨"RopeTreatyModel", "plainClaps", "(II)I"⟩ ∈ tblG := wdG (i := 70) (by decide +kernel) rfl
theorem wk_71 : Cond.selects "RopeTreatyModel" ⟨"RopeTreatyModel", "partsBy", "(II)I"⟩ ⟨"RopeTreatyModel", "partsBy", "(II)I"⟩ ∈ tblG := wdG (i := 71) (by decide +kernel) rfl
theorem wk_72 : Cond.selects "RopeTreatyModel" ⟨"RopeTreatyModel", "plainParts", "(II)I"⟩ ⟨"RopeTreatyModel", "plainParts", "(II)I"⟩ ∈ tblG := wdG (i := 72) (by decide +kernel) rfl
theorem wk_73 : Cond.selects "RopeTreatyModel" ⟨"RopeTreatyModel", "notMoved", "(IIIII)I"⟩ ⟨"RopeTreatyModel", "notMoved", "(IIIII)I"⟩ ∈ tblG := wdG (i := 73) (by decide +kernel) rfl
theorem wk_75 : Cond.initialized "RopeTreaty" ∈ tblG := wdG (i := 75) (by decide +kernel) rfl
theorem wk_76 : Cond.initialized "RopeTreaty$Text" ∈ tblG := wdG (i := 76) (by decide +kernel) rfl
theorem wk_77 : Cond.initialized "RopeTreaty$Rope" ∈ tblG := wdG (i := 77) (by decide +kernel) rfl
theorem wk_78 : Cond.initialized "RopeTreaty$Tape" ∈ tblG := wdG (i := 78) (by decide +kernel) rfl
theorem wk_79 : Cond.initialized "RopeTreaty$Reader" ∈ tblG := wdG (i := 79) (by decide +kernel) rfl
theorem wk_80 : Cond.initialized "RopeTreaty$Row" ∈ tblG := wdG (i := 80) (by decide +kernel) rfl
theorem wk_81 : Cond.initialized "RopeTreaty$Throat" ∈ tblG := wdG (i := 81) (by decide +kernel) rfl
theorem wk_82 : Cond.initialized "RopeTreatyModel" ∈ tblG := wdG (i := 82) (by decide +kernel) rfl
theorem wk_83 : Cond.initialized "java/lang/Integer" ∈ tblG := wdG (i := 83) (by decide +kernel) rfl
theorem wk_84 : Cond.initialized "java/lang/Math" ∈ tblG := wdG (i := 84) (by decide +kernel) rfl
theorem wk_85 : Cond.initialized "java/lang/System" ∈ tblG := wdG (i := 85) (by decide +kernel) rfl
theorem wk_104 : Cond.fieldLink "RopeTreaty$Text" (18 : Nat) "RopeTreaty$Text" "most" "I" ∈ tblG := wdG (i := 104) (by decide +kernel) rfl
theorem wk_105 : Cond.fieldLink "RopeTreaty$Text" (9 : Nat) "RopeTreaty$Text" "code" "[I" ∈ tblG := wdG (i := 105) (by decide +kernel) rfl
theorem wk_106 : Cond.fieldLink "RopeTreaty$Text" (15 : Nat) "RopeTreaty$Text" "stack" "[I" ∈ tblG := wdG (i := 106) (by decide +kernel) rfl
theorem wk_107 : Cond.fieldLink "RopeTreaty$Text" (22 : Nat) "RopeTreaty$Text" "length" "I" ∈ tblG := wdG (i := 107) (by decide +kernel) rfl
theorem wk_108 : Cond.fieldLink "RopeTreaty" (182 : Nat) "RopeTreaty$Text" "length" "I" ∈ tblG := wdG (i := 108) (by decide +kernel) rfl
theorem wk_125 : Cond.fieldLink "RopeTreaty$Rope" (46 : Nat) "RopeTreaty$Rope" "texts" "[LRopeTreaty$Text;" ∈ tblG := wdG (i := 125) (by decide +kernel) rfl
theorem wk_126 : Cond.fieldLink "RopeTreaty$Rope" (9 : Nat) "RopeTreaty$Rope" "kind" "[I" ∈ tblG := wdG (i := 126) (by decide +kernel) rfl
theorem wk_127 : Cond.fieldLink "RopeTreaty" (105 : Nat) "RopeTreaty$Rope" "kind" "[I" ∈ tblG := wdG (i := 127) (by decide +kernel) rfl
theorem wk_128 : Cond.fieldLink "RopeTreaty$Rope" (15 : Nat) "RopeTreaty$Rope" "mark" "[I" ∈ tblG := wdG (i := 128) (by decide +kernel) rfl
theorem wk_129 : Cond.fieldLink "RopeTreaty" (108 : Nat) "RopeTreaty$Rope" "mark" "[I" ∈ tblG := wdG (i := 129) (by decide +kernel) rfl
theorem wk_130 : Cond.fieldLink "RopeTreaty$Rope" (18 : Nat) "RopeTreaty$Rope" "breath" "[I" ∈ tblG := wdG (i := 130) (by decide +kernel) rfl
theorem wk_131 : Cond.fieldLink "RopeTreaty" (111 : Nat) "RopeTreaty$Rope" "breath" "[I" ∈ tblG := wdG (i := 131) (by decide +kernel) rfl
theorem wk_132 : Cond.fieldLink "RopeTreaty$Rope" (21 : Nat) "RopeTreaty$Rope" "side" "[I" ∈ tblG := wdG (i := 132) (by decide +kernel) rfl
theorem wk_133 : Cond.fieldLink "RopeTreaty" (114 : Nat) "RopeTreaty$Rope" "side" "[I" ∈ tblG := wdG (i := 133) (by decide +kernel) rfl
theorem wk_134 : Cond.fieldLink "RopeTreaty$Rope" (24 : Nat) "RopeTreaty$Rope" "in" "[I" ∈ tblG := wdG (i := 134) (by decide +kernel) rfl
theorem wk_135 : Cond.fieldLink "RopeTreaty" (117 : Nat) "RopeTreaty$Rope" "in" "[I" ∈ tblG := wdG (i := 135) (by decide +kernel) rfl
theorem wk_136 : Cond.fieldLink "RopeTreaty$Rope" (27 : Nat) "RopeTreaty$Rope" "arm" "[I" ∈ tblG := wdG (i := 136) (by decide +kernel) rfl
theorem wk_137 : Cond.fieldLink "RopeTreaty" (134 : Nat) "RopeTreaty$Rope" "arm" "[I" ∈ tblG := wdG (i := 137) (by decide +kernel) rfl
theorem wk_138 : Cond.fieldLink "RopeTreaty$Rope" (30 : Nat) "RopeTreaty$Rope" "price" "[I" ∈ tblG := wdG (i := 138) (by decide +kernel) rfl
theorem wk_139 : Cond.fieldLink "RopeTreaty$Rope" (33 : Nat) "RopeTreaty$Rope" "alone" "[I" ∈ tblG := wdG (i := 139) (by decide +kernel) rfl
theorem wk_140 : Cond.fieldLink "RopeTreaty" (213 : Nat) "RopeTreaty$Rope" "alone" "[I" ∈ tblG := wdG (i := 140) (by decide +kernel) rfl
theorem wk_141 : Cond.fieldLink "RopeTreaty$Rope" (56 : Nat) "RopeTreaty$Rope" "jumpers" "I" ∈ tblG := wdG (i := 141) (by decide +kernel) rfl
theorem wk_142 : Cond.fieldLink "RopeTreaty" (94 : Nat) "RopeTreaty$Rope" "jumpers" "I" ∈ tblG := wdG (i := 142) (by decide +kernel) rfl
theorem wk_143 : Cond.fieldLink "RopeTreaty$Rope" (59 : Nat) "RopeTreaty$Rope" "beat" "I" ∈ tblG := wdG (i := 143) (by decide +kernel) rfl
theorem wk_144 : Cond.fieldLink "RopeTreaty" (186 : Nat) "RopeTreaty$Rope" "beat" "I" ∈ tblG := wdG (i := 144) (by decide +kernel) rfl
theorem wk_145 : Cond.fieldLink "RopeTreaty$Rope" (36 : Nat) "RopeTreaty$Rope" "treaty" "I" ∈ tblG := wdG (i := 145) (by decide +kernel) rfl
theorem wk_146 : Cond.fieldLink "RopeTreaty" (153 : Nat) "RopeTreaty$Rope" "treaty" "I" ∈ tblG := wdG (i := 146) (by decide +kernel) rfl
theorem wk_147 : Cond.fieldLink "RopeTreaty$Rope" (40 : Nat) "RopeTreaty$Rope" "bar" "I" ∈ tblG := wdG (i := 147) (by decide +kernel) rfl
theorem wk_148 : Cond.fieldLink "RopeTreaty" (137 : Nat) "RopeTreaty$Rope" "bar" "I" ∈ tblG := wdG (i := 148) (by decide +kernel) rfl
theorem wk_149 : Cond.fieldLink "RopeTreaty$Rope" (62 : Nat) "RopeTreaty$Rope" "misses" "I" ∈ tblG := wdG (i := 149) (by decide +kernel) rfl
theorem wk_150 : Cond.fieldLink "RopeTreaty" (289 : Nat) "RopeTreaty$Rope" "misses" "I" ∈ tblG := wdG (i := 150) (by decide +kernel) rfl
theorem wk_151 : Cond.fieldLink "RopeTreaty$Rope" (43 : Nat) "RopeTreaty$Rope" "z" "I" ∈ tblG := wdG (i := 151) (by decide +kernel) rfl
theorem wk_152 : Cond.fieldLink "RopeTreaty" (197 : Nat) "RopeTreaty$Rope" "z" "I" ∈ tblG := wdG (i := 152) (by decide +kernel) rfl
theorem wk_190 : Cond.fieldLink "RopeTreaty$Tape" (9 : Nat) "RopeTreaty$Tape" "bytes" "[I" ∈ tblG := wdG (i := 190) (by decide +kernel) rfl
theorem wk_191 : Cond.fieldLink "RopeTreaty$Reader" (18 : Nat) "RopeTreaty$Tape" "bytes" "[I" ∈ tblG := wdG (i := 191) (by decide +kernel) rfl
theorem wk_192 : Cond.fieldLink "RopeTreaty$Tape" (15 : Nat) "RopeTreaty$Tape" "length" "I" ∈ tblG := wdG (i := 192) (by decide +kernel) rfl
theorem wk_193 : Cond.fieldLink "RopeTreaty$Reader" (27 : Nat) "RopeTreaty$Tape" "length" "I" ∈ tblG := wdG (i := 193) (by decide +kernel) rfl
theorem wk_194 : Cond.fieldLink "RopeTreaty" (156 : Nat) "RopeTreaty$Tape" "length" "I" ∈ tblG := wdG (i := 194) (by decide +kernel) rfl
theorem wk_206 : Cond.fieldLink "RopeTreaty$Reader" (9 : Nat) "RopeTreaty$Reader" "code" "[I" ∈ tblG := wdG (i := 206) (by decide +kernel) rfl
theorem wk_207 : Cond.fieldLink "RopeTreaty" (169 : Nat) "RopeTreaty$Reader" "code" "[I" ∈ tblG := wdG (i := 207) (by decide +kernel) rfl
theorem wk_208 : Cond.fieldLink "RopeTreaty$Reader" (38 : Nat) "RopeTreaty$Reader" "codes" "I" ∈ tblG := wdG (i := 208) (by decide +kernel) rfl
theorem wk_209 : Cond.fieldLink "RopeTreaty" (172 : Nat) "RopeTreaty$Reader" "codes" "I" ∈ tblG := wdG (i := 209) (by decide +kernel) rfl
theorem wk_210 : Cond.fieldLink "RopeTreaty$Reader" (15 : Nat) "RopeTreaty$Reader" "bytes" "[I" ∈ tblG := wdG (i := 210) (by decide +kernel) rfl
theorem wk_211 : Cond.fieldLink "RopeTreaty$Reader" (31 : Nat) "RopeTreaty$Reader" "length" "I" ∈ tblG := wdG (i := 211) (by decide +kernel) rfl
theorem wk_212 : Cond.fieldLink "RopeTreaty$Reader" (35 : Nat) "RopeTreaty$Reader" "place" "I" ∈ tblG := wdG (i := 212) (by decide +kernel) rfl
theorem wk_213 : Cond.fieldLink "RopeTreaty$Reader" (32 : Nat) "RopeTreaty$Reader" "use" "I" ∈ tblG := wdG (i := 213) (by decide +kernel) rfl
theorem wk_214 : Cond.fieldLink "RopeTreaty$Reader" (41 : Nat) "RopeTreaty$Reader" "failed" "Z" ∈ tblG := wdG (i := 214) (by decide +kernel) rfl
theorem wk_236 : Cond.fieldLink "RopeTreaty$Row" (9 : Nat) "RopeTreaty$Row" "numbers" "[I" ∈ tblG := wdG (i := 236) (by decide +kernel) rfl
theorem wk_237 : Cond.fieldLink "RopeTreaty$Rope" (142 : Nat) "RopeTreaty$Row" "numbers" "[I" ∈ tblG := wdG (i := 237) (by decide +kernel) rfl
theorem wk_238 : Cond.fieldLink "RopeTreaty" (250 : Nat) "RopeTreaty$Row" "numbers" "[I" ∈ tblG := wdG (i := 238) (by decide +kernel) rfl
theorem wk_239 : Cond.fieldLink "RopeTreaty$Row" (15 : Nat) "RopeTreaty$Row" "bits" "I" ∈ tblG := wdG (i := 239) (by decide +kernel) rfl
theorem wk_240 : Cond.fieldLink "RopeTreaty" (256 : Nat) "RopeTreaty$Row" "bits" "I" ∈ tblG := wdG (i := 240) (by decide +kernel) rfl
theorem wk_241 : Cond.fieldLink "RopeTreaty$Row" (19 : Nat) "RopeTreaty$Row" "length" "I" ∈ tblG := wdG (i := 241) (by decide +kernel) rfl
theorem wk_242 : Cond.fieldLink "RopeTreaty$Rope" (137 : Nat) "RopeTreaty$Row" "length" "I" ∈ tblG := wdG (i := 242) (by decide +kernel) rfl
theorem wk_243 : Cond.fieldLink "RopeTreaty" (229 : Nat) "RopeTreaty$Row" "length" "I" ∈ tblG := wdG (i := 243) (by decide +kernel) rfl
theorem wk_258 : Cond.fieldLink "RopeTreaty$Throat" (11 : Nat) "RopeTreaty$Throat" "trace" "[I" ∈ tblG := wdG (i := 258) (by decide +kernel) rfl
theorem wk_259 : Cond.fieldLink "RopeTreaty" (241 : Nat) "RopeTreaty$Throat" "trace" "[I" ∈ tblG := wdG (i := 259) (by decide +kernel) rfl
theorem wk_260 : Cond.fieldLink "RopeTreaty$Throat" (25 : Nat) "RopeTreaty$Throat" "begun" "I" ∈ tblG := wdG (i := 260) (by decide +kernel) rfl
theorem wk_261 : Cond.fieldLink "RopeTreaty" (238 : Nat) "RopeTreaty$Throat" "begun" "I" ∈ tblG := wdG (i := 261) (by decide +kernel) rfl
theorem wk_262 : Cond.fieldLink "RopeTreaty$Throat" (28 : Nat) "RopeTreaty$Throat" "parted" "Z" ∈ tblG := wdG (i := 262) (by decide +kernel) rfl
theorem wk_263 : Cond.fieldLink "RopeTreaty" (234 : Nat) "RopeTreaty$Throat" "parted" "Z" ∈ tblG := wdG (i := 263) (by decide +kernel) rfl
theorem wk_264 : Cond.fieldLink "RopeTreaty$Throat" (15 : Nat) "RopeTreaty$Throat" "kind" "I" ∈ tblG := wdG (i := 264) (by decide +kernel) rfl
theorem wk_265 : Cond.fieldLink "RopeTreaty$Throat" (19 : Nat) "RopeTreaty$Throat" "number" "I" ∈ tblG := wdG (i := 265) (by decide +kernel) rfl
theorem wk_266 : Cond.fieldLink "RopeTreaty$Throat" (22 : Nat) "RopeTreaty$Throat" "mark" "I" ∈ tblG := wdG (i := 266) (by decide +kernel) rfl
theorem wk_280 : Cond.fieldLink "RopeTreaty" (13 : Nat) "RopeTreaty" "texts" "[LRopeTreaty$Text;" ∈ tblG := wdG (i := 280) (by decide +kernel) rfl
theorem wk_281 : Cond.fieldLink "RopeTreaty" (17 : Nat) "RopeTreaty" "keptTexts" "[LRopeTreaty$Text;" ∈ tblG := wdG (i := 281) (by decide +kernel) rfl
theorem wk_282 : Cond.fieldLink "RopeTreaty" (25 : Nat) "RopeTreaty" "now" "LRopeTreaty$Rope;" ∈ tblG := wdG (i := 282) (by decide +kernel) rfl
theorem wk_283 : Cond.fieldLink "RopeTreaty" (29 : Nat) "RopeTreaty" "thought" "LRopeTreaty$Rope;" ∈ tblG := wdG (i := 283) (by decide +kernel) rfl
theorem wk_284 : Cond.fieldLink "RopeTreaty" (32 : Nat) "RopeTreaty" "kept" "LRopeTreaty$Rope;" ∈ tblG := wdG (i := 284) (by decide +kernel) rfl
theorem wk_285 : Cond.fieldLink "RopeTreaty" (38 : Nat) "RopeTreaty" "tape" "LRopeTreaty$Tape;" ∈ tblG := wdG (i := 285) (by decide +kernel) rfl
theorem wk_286 : Cond.fieldLink "RopeTreaty" (42 : Nat) "RopeTreaty" "keptTape" "LRopeTreaty$Tape;" ∈ tblG := wdG (i := 286) (by decide +kernel) rfl
theorem wk_287 : Cond.fieldLink "RopeTreaty" (48 : Nat) "RopeTreaty" "reader" "LRopeTreaty$Reader;" ∈ tblG := wdG (i := 287) (by decide +kernel) rfl
theorem wk_288 : Cond.fieldLink "RopeTreaty" (55 : Nat) "RopeTreaty" "waiting" "LRopeTreaty$Row;" ∈ tblG := wdG (i := 288) (by decide +kernel) rfl
theorem wk_289 : Cond.fieldLink "RopeTreaty" (59 : Nat) "RopeTreaty" "keptWaiting" "LRopeTreaty$Row;" ∈ tblG := wdG (i := 289) (by decide +kernel) rfl
theorem wk_290 : Cond.fieldLink "RopeTreaty" (62 : Nat) "RopeTreaty" "sheets" "[LRopeTreaty$Row;" ∈ tblG := wdG (i := 290) (by decide +kernel) rfl
theorem wk_291 : Cond.fieldLink "RopeTreaty" (69 : Nat) "RopeTreaty" "throat" "LRopeTreaty$Throat;" ∈ tblG := wdG (i := 291) (by decide +kernel) rfl
theorem wk_292 : Cond.fieldLink "RopeTreaty" (73 : Nat) "RopeTreaty" "errors" "[I" ∈ tblG := wdG (i := 292) (by decide +kernel) rfl
theorem wk_293 : Cond.fieldLink "RopeTreaty" (283 : Nat) "RopeTreaty" "images" "I" ∈ tblG := wdG (i := 293) (by decide +kernel) rfl
theorem wk_324 : Cond.instanceMethod ⟨"RopeTreaty", "jumper", "(III)I"⟩ ∈ tblG := wdG (i := 324) (by decide +kernel) rfl
theorem wk_325 : Cond.selects "RopeTreaty" ⟨"RopeTreaty", "jumper", "(III)I"⟩ ⟨"RopeTreaty", "jumper", "(III)I"⟩ ∈ tblG := wdG (i := 325) (by decide +kernel) rfl
theorem wk_326 : Cond.code ⟨"RopeTreaty", "jumper", "(III)I"⟩ prog_1_method_3_code (4 : Nat) (Option.some Jvm.ClassFile.FieldType.int) ∈ tblG := wdG (i := 326) (by decide +kernel) rfl
theorem wk_327 : Cond.methodLink "RopeTreaty" (82 : Nat) ⟨"RopeTreaty", "isKindAndMark", "(I)Z"⟩ ∈ tblG := wdG (i := 327) (by decide +kernel) rfl
theorem wk_328 : Cond.static ⟨"RopeTreaty", "isKindAndMark", "(I)Z"⟩ ∈ tblG := wdG (i := 328) (by decide +kernel) rfl
theorem wk_329 : Cond.code ⟨"RopeTreaty", "isKindAndMark", "(I)Z"⟩ prog_1_method_44_code (1 : Nat) (Option.some Jvm.ClassFile.FieldType.boolean) ∈ tblG := wdG (i := 329) (by decide +kernel) rfl
theorem wk_330 : Cond.methodLink "RopeTreaty" (86 : Nat) ⟨"RopeTreaty", "isWithin", "(II)Z"⟩ ∈ tblG := wdG (i := 330) (by decide +kernel) rfl
theorem wk_331 : Cond.static ⟨"RopeTreaty", "isWithin", "(II)Z"⟩ ∈ tblG := wdG (i := 331) (by decide +kernel) rfl
theorem wk_332 : Cond.code ⟨"RopeTreaty", "isWithin", "(II)Z"⟩ prog_1_method_43_code (2 : Nat) (Option.some Jvm.ClassFile.FieldType.boolean) ∈ tblG := wdG (i := 332) (by decide +kernel) rfl
theorem wk_333 : Cond.methodLink "RopeTreaty" (90 : Nat) ⟨"RopeTreaty", "error", "(I)I"⟩ ∈ tblG := wdG (i := 333) (by decide +kernel) rfl
theorem wk_335 : Cond.instanceMethod ⟨"RopeTreaty", "error", "(I)I"⟩ ∈ tblG := wdG (i := 335) (by decide +kernel) rfl
theorem wk_336 : Cond.code ⟨"RopeTreaty", "error", "(I)I"⟩ prog_1_method_42_code (2 : Nat) (Option.some Jvm.ClassFile.FieldType.int) ∈ tblG := wdG (i := 336) (by decide +kernel) rfl
theorem wk_337 : Cond.constant "RopeTreaty" (292 : Nat) (-1000000000 : Int32) ∈ tblG := wdG (i := 337) (by decide +kernel) rfl
theorem wk_338 : Cond.methodLink "RopeTreaty" (98 : Nat) ⟨"RopeTreaty$Rope", "add", "(III)I"⟩ ∈ tblG := wdG (i := 338) (by decide +kernel) rfl
theorem wk_339 : Cond.instanceMethod ⟨"RopeTreaty$Rope", "add", "(III)I"⟩ ∈ tblG := wdG (i := 339) (by decide +kernel) rfl
theorem wk_340 : Cond.selects "RopeTreaty$Rope" ⟨"RopeTreaty$Rope", "add", "(III)I"⟩ ⟨"RopeTreaty$Rope", "add", "(III)I"⟩ ∈ tblG := wdG (i := 340) (by decide +kernel) rfl
theorem wk_341 : Cond.code ⟨"RopeTreaty$Rope", "add", "(III)I"⟩ prog_3_method_4_code (5 : Nat) (Option.some Jvm.ClassFile.FieldType.int) ∈ tblG := wdG (i := 341) (by decide +kernel) rfl
theorem wk_342 : Cond.methodLink "RopeTreaty$Rope" (65 : Nat) ⟨"RopeTreaty$Rope", "setKindAndMark", "(II)V"⟩ ∈ tblG := wdG (i := 342) (by decide +kernel) rfl
theorem wk_343 : Cond.instanceMethod ⟨"RopeTreaty$Rope", "setKindAndMark", "(II)V"⟩ ∈ tblG := wdG (i := 343) (by decide +kernel) rfl
theorem wk_344 : Cond.selects "RopeTreaty$Rope" ⟨"RopeTreaty$Rope", "setKindAndMark", "(II)V"⟩ ⟨"RopeTreaty$Rope", "setKindAndMark", "(II)V"⟩ ∈ tblG := wdG (i := 344) (by decide +kernel) rfl
theorem wk_345 : Cond.code ⟨"RopeTreaty$Rope", "setKindAndMark", "(II)V"⟩ prog_3_method_5_code (3 : Nat) (Option.none : Option Jvm.ClassFile.FieldType) ∈ tblG := wdG (i := 345) (by decide +kernel) rfl
theorem wk_347 : Cond.instanceMethod ⟨"RopeTreaty", "jumperIs", "(II)I"⟩ ∈ tblG := wdG (i := 347) (by decide +kernel) rfl
theorem wk_348 : Cond.selects "RopeTreaty" ⟨"RopeTreaty", "jumperIs", "(II)I"⟩ ⟨"RopeTreaty", "jumperIs", "(II)I"⟩ ∈ tblG := wdG (i := 348) (by decide +kernel) rfl
theorem wk_349 : Cond.code ⟨"RopeTreaty", "jumperIs", "(II)I"⟩ prog_1_method_4_code (3 : Nat) (Option.some Jvm.ClassFile.FieldType.int) ∈ tblG := wdG (i := 349) (by decide +kernel) rfl
theorem wk_350 : Cond.methodLink "RopeTreaty" (102 : Nat) ⟨"RopeTreaty$Rope", "has", "(I)Z"⟩ ∈ tblG := wdG (i := 350) (by decide +kernel) rfl
theorem wk_351 : Cond.instanceMethod ⟨"RopeTreaty$Rope", "has", "(I)Z"⟩ ∈ tblG := wdG (i := 351) (by decide +kernel) rfl
theorem wk_352 : Cond.selects "RopeTreaty$Rope" ⟨"RopeTreaty$Rope", "has", "(I)Z"⟩ ⟨"RopeTreaty$Rope", "has", "(I)Z"⟩ ∈ tblG := wdG (i := 352) (by decide +kernel) rfl
theorem wk_353 : Cond.code ⟨"RopeTreaty$Rope", "has", "(I)Z"⟩ prog_3_method_3_code (2 : Nat) (Option.some Jvm.ClassFile.FieldType.boolean) ∈ tblG := wdG (i := 353) (by decide +kernel) rfl
theorem wk_354 : Cond.methodLink "RopeTreaty" (120 : Nat) ⟨"RopeTreaty$Rope", "costs", "(I)I"⟩ ∈ tblG := wdG (i := 354) (by decide +kernel) rfl
theorem wk_355 : Cond.instanceMethod ⟨"RopeTreaty$Rope", "costs", "(I)I"⟩ ∈ tblG := wdG (i := 355) (by decide +kernel) rfl
theorem wk_356 : Cond.selects "RopeTreaty$Rope" ⟨"RopeTreaty$Rope", "costs", "(I)I"⟩ ⟨"RopeTreaty$Rope", "costs", "(I)I"⟩ ∈ tblG := wdG (i := 356) (by decide +kernel) rfl
theorem wk_357 : Cond.code ⟨"RopeTreaty$Rope", "costs", "(I)I"⟩ prog_3_method_13_code (2 : Nat) (Option.some Jvm.ClassFile.FieldType.int) ∈ tblG := wdG (i := 357) (by decide +kernel) rfl
theorem wk_358 : Cond.methodLink "RopeTreaty$Rope" (89 : Nat) ⟨"RopeTreaty$Rope", "takes", "(I)I"⟩ ∈ tblG := wdG (i := 358) (by decide +kernel) rfl
theorem wk_359 : Cond.instanceMethod ⟨"RopeTreaty$Rope", "takes", "(I)I"⟩ ∈ tblG := wdG (i := 359) (by decide +kernel) rfl
theorem wk_360 : Cond.selects "RopeTreaty$Rope" ⟨"RopeTreaty$Rope", "takes", "(I)I"⟩ ⟨"RopeTreaty$Rope", "takes", "(I)I"⟩ ∈ tblG := wdG (i := 360) (by decide +kernel) rfl
theorem wk_361 : Cond.code ⟨"RopeTreaty$Rope", "takes", "(I)I"⟩ prog_3_method_11_code (3 : Nat) (Option.some Jvm.ClassFile.FieldType.int) ∈ tblG := wdG (i := 361) (by decide +kernel) rfl
theorem wk_362 : Cond.methodLink "RopeTreaty$Rope" (73 : Nat) ⟨"RopeTreaty$Rope", "word", "()I"⟩ ∈ tblG := wdG (i := 362) (by decide +kernel) rfl
theorem wk_363 : Cond.instanceMethod ⟨"RopeTreaty$Rope", "word", "()I"⟩ ∈ tblG := wdG (i := 363) (by decide +kernel) rfl
theorem wk_364 : Cond.selects "RopeTreaty$Rope" ⟨"RopeTreaty$Rope", "word", "()I"⟩ ⟨"RopeTreaty$Rope", "word", "()I"⟩ ∈ tblG := wdG (i := 364) (by decide +kernel) rfl
theorem wk_365 : Cond.code ⟨"RopeTreaty$Rope", "word", "()I"⟩ prog_3_method_6_code (1 : Nat) (Option.some Jvm.ClassFile.FieldType.int) ∈ tblG := wdG (i := 365) (by decide +kernel) rfl
theorem wk_366 : Cond.methodLink "RopeTreaty$Rope" (86 : Nat) ⟨"RopeTreaty$Rope", "howManyIn", "()I"⟩ ∈ tblG := wdG (i := 366) (by decide +kernel) rfl
theorem wk_367 : Cond.instanceMethod ⟨"RopeTreaty$Rope", "howManyIn", "()I"⟩ ∈ tblG := wdG (i := 367) (by decide +kernel) rfl
theorem wk_368 : Cond.selects "RopeTreaty$Rope" ⟨"RopeTreaty$Rope", "howManyIn", "()I"⟩ ⟨"RopeTreaty$Rope", "howManyIn", "()I"⟩ ∈ tblG := wdG (i := 368) (by decide +kernel) rfl
theorem wk_369 : Cond.code ⟨"RopeTreaty$Rope", "howManyIn", "()I"⟩ prog_3_method_9_code (1 : Nat) (Option.some Jvm.ClassFile.FieldType.int) ∈ tblG := wdG (i := 369) (by decide +kernel) rfl
theorem wk_370 : Cond.methodLink "RopeTreaty$Rope" (77 : Nat) ⟨"RopeTreaty$Rope", "setIn", "()I"⟩ ∈ tblG := wdG (i := 370) (by decide +kernel) rfl
theorem wk_371 : Cond.instanceMethod ⟨"RopeTreaty$Rope", "setIn", "()I"⟩ ∈ tblG := wdG (i := 371) (by decide +kernel) rfl
theorem wk_372 : Cond.selects "RopeTreaty$Rope" ⟨"RopeTreaty$Rope", "setIn", "()I"⟩ ⟨"RopeTreaty$Rope", "setIn", "()I"⟩ ∈ tblG := wdG (i := 372) (by decide +kernel) rfl
theorem wk_373 : Cond.code ⟨"RopeTreaty$Rope", "setIn", "()I"⟩ prog_3_method_10_code (3 : Nat) (Option.some Jvm.ClassFile.FieldType.int) ∈ tblG := wdG (i := 373) (by decide +kernel) rfl
theorem wk_374 : Cond.methodLink "RopeTreaty$Rope" (80 : Nat) ⟨"java/lang/Integer", "bitCount", "(I)I"⟩ ∈ tblG := wdG (i := 374) (by decide +kernel) rfl
theorem wk_375 : Cond.static ⟨"java/lang/Integer", "bitCount", "(I)I"⟩ ∈ tblG := wdG (i := 375) (by decide +kernel) rfl
theorem wk_376 : Cond.code ⟨"java/lang/Integer", "bitCount", "(I)I"⟩ prog_10_method_49_code (1 : Nat) (Option.some Jvm.ClassFile.FieldType.int) ∈ tblG := wdG (i := 376) (by decide +kernel) rfl
theorem wk_377 : Cond.constant "java/lang/Integer" (265 : Nat) (1431655765 : Int32) ∈ tblG := wdG (i := 377) (by decide +kernel) rfl
theorem wk_378 : Cond.constant "java/lang/Integer" (266 : Nat) (858993459 : Int32) ∈ tblG := wdG (i := 378) (by decide +kernel) rfl
theorem wk_379 : Cond.constant "java/lang/Integer" (267 : Nat) (252645135 : Int32) ∈ tblG := wdG (i := 379) (by decide +kernel) rfl
theorem wk_380 : Cond.methodLink "RopeTreaty$Rope" (92 : Nat) ⟨"RopeTreaty$Text", "gives", "(III)I"⟩ ∈ tblG := wdG (i := 380) (by decide +kernel) rfl
theorem wk_381 : Cond.instanceMethod ⟨"RopeTreaty$Text", "gives", "(III)I"⟩ ∈ tblG := wdG (i := 381) (by decide +kernel) rfl
theorem wk_382 : Cond.selects "RopeTreaty$Text" ⟨"RopeTreaty$Text", "gives", "(III)I"⟩ ⟨"RopeTreaty$Text", "gives", "(III)I"⟩ ∈ tblG := wdG (i := 382) (by decide +kernel) rfl
theorem wk_383 : Cond.code ⟨"RopeTreaty$Text", "gives", "(III)I"⟩ prog_6_method_5_code (5 : Nat) (Option.some Jvm.ClassFile.FieldType.int) ∈ tblG := wdG (i := 383) (by decide +kernel) rfl
theorem wk_384 : Cond.methodLink "RopeTreaty$Text" (35 : Nat) ⟨"RopeTreaty$Text", "isTold", "()Z"⟩ ∈ tblG := wdG (i := 384) (by decide +kernel) rfl
theorem wk_385 : Cond.instanceMethod ⟨"RopeTreaty$Text", "isTold", "()Z"⟩ ∈ tblG := wdG (i := 385) (by decide +kernel) rfl
theorem wk_386 : Cond.selects "RopeTreaty$Text" ⟨"RopeTreaty$Text", "isTold", "()Z"⟩ ⟨"RopeTreaty$Text", "isTold", "()Z"⟩ ∈ tblG := wdG (i := 386) (by decide +kernel) rfl
theorem wk_387 : Cond.code ⟨"RopeTreaty$Text", "isTold", "()Z"⟩ prog_6_method_2_code (1 : Nat) (Option.some Jvm.ClassFile.FieldType.boolean) ∈ tblG := wdG (i := 387) (by decide +kernel) rfl
theorem wk_388 : Cond.methodLink "RopeTreaty$Text" (39 : Nat) ⟨"RopeTreaty$Text", "work", "(III)I"⟩ ∈ tblG := wdG (i := 388) (by decide +kernel) rfl
theorem wk_390 : Cond.instanceMethod ⟨"RopeTreaty$Text", "work", "(III)I"⟩ ∈ tblG := wdG (i := 390) (by decide +kernel) rfl
theorem wk_391 : Cond.code ⟨"RopeTreaty$Text", "work", "(III)I"⟩ prog_6_method_6_code (7 : Nat) (Option.some Jvm.ClassFile.FieldType.int) ∈ tblG := wdG (i := 391) (by decide +kernel) rfl
theorem wk_392 : Cond.methodLink "RopeTreaty$Text" (52 : Nat) ⟨"RopeTreaty$Text", "join", "(III)I"⟩ ∈ tblG := wdG (i := 392) (by decide +kernel) rfl
theorem wk_393 : Cond.static ⟨"RopeTreaty$Text", "join", "(III)I"⟩ ∈ tblG := wdG (i := 393) (by decide +kernel) rfl
theorem wk_394 : Cond.code ⟨"RopeTreaty$Text", "join", "(III)I"⟩ prog_6_method_8_code (3 : Nat) (Option.some Jvm.ClassFile.FieldType.int) ∈ tblG := wdG (i := 394) (by decide +kernel) rfl
theorem wk_395 : Cond.methodLink "RopeTreaty$Text" (55 : Nat) ⟨"RopeTreaty$Text", "meaning", "(IIII)I"⟩ ∈ tblG := wdG (i := 395) (by decide +kernel) rfl
theorem wk_396 : Cond.static ⟨"RopeTreaty$Text", "meaning", "(IIII)I"⟩ ∈ tblG := wdG (i := 396) (by decide +kernel) rfl
theorem wk_397 : Cond.code ⟨"RopeTreaty$Text", "meaning", "(IIII)I"⟩ prog_6_method_7_code (4 : Nat) (Option.some Jvm.ClassFile.FieldType.int) ∈ tblG := wdG (i := 397) (by decide +kernel) rfl
theorem wk_398 : Cond.methodLink "RopeTreaty$Text" (43 : Nat) ⟨"java/lang/Math", "min", "(II)I"⟩ ∈ tblG := wdG (i := 398) (by decide +kernel) rfl
theorem wk_399 : Cond.static ⟨"java/lang/Math", "min", "(II)I"⟩ ∈ tblG := wdG (i := 399) (by decide +kernel) rfl
theorem wk_400 : Cond.code ⟨"java/lang/Math", "min", "(II)I"⟩ prog_11_method_69_code (2 : Nat) (Option.some Jvm.ClassFile.FieldType.int) ∈ tblG := wdG (i := 400) (by decide +kernel) rfl
theorem wk_401 : Cond.methodLink "RopeTreaty$Text" (49 : Nat) ⟨"java/lang/Math", "max", "(II)I"⟩ ∈ tblG := wdG (i := 401) (by decide +kernel) rfl
theorem wk_402 : Cond.static ⟨"java/lang/Math", "max", "(II)I"⟩ ∈ tblG := wdG (i := 402) (by decide +kernel) rfl
theorem wk_403 : Cond.code ⟨"java/lang/Math", "max", "(II)I"⟩ prog_11_method_65_code (2 : Nat) (Option.some Jvm.ClassFile.FieldType.int) ∈ tblG := wdG (i := 403) (by decide +kernel) rfl
theorem wk_405 : Cond.instanceMethod ⟨"RopeTreaty", "become", "(II)I"⟩ ∈ tblG := wdG (i := 405) (by decide +kernel) rfl
theorem wk_406 : Cond.selects "RopeTreaty" ⟨"RopeTreaty", "become", "(II)I"⟩ ⟨"RopeTreaty", "become", "(II)I"⟩ ∈ tblG := wdG (i := 406) (by decide +kernel) rfl
theorem wk_407 : Cond.code ⟨"RopeTreaty", "become", "(II)I"⟩ prog_1_method_5_code (4 : Nat) (Option.some Jvm.ClassFile.FieldType.int) ∈ tblG := wdG (i := 407) (by decide +kernel) rfl
theorem wk_408 : Cond.methodLink "RopeTreaty" (123 : Nat) ⟨"RopeTreaty$Rope", "setKindAndMark", "(II)V"⟩ ∈ tblG := wdG (i := 408) (by decide +kernel) rfl
theorem wk_410 : Cond.instanceMethod ⟨"RopeTreaty", "as", "(II)I"⟩ ∈ tblG := wdG (i := 410) (by decide +kernel) rfl
theorem wk_411 : Cond.selects "RopeTreaty" ⟨"RopeTreaty", "as", "(II)I"⟩ ⟨"RopeTreaty", "as", "(II)I"⟩ ∈ tblG := wdG (i := 411) (by decide +kernel) rfl
theorem wk_412 : Cond.code ⟨"RopeTreaty", "as", "(II)I"⟩ prog_1_method_6_code (3 : Nat) (Option.some Jvm.ClassFile.FieldType.int) ∈ tblG := wdG (i := 412) (by decide +kernel) rfl
theorem wk_413 : Cond.methodLink "RopeTreaty" (127 : Nat) ⟨"RopeTreaty", "isUnder", "(II)Z"⟩ ∈ tblG := wdG (i := 413) (by decide +kernel) rfl
theorem wk_414 : Cond.static ⟨"RopeTreaty", "isUnder", "(II)Z"⟩ ∈ tblG := wdG (i := 414) (by decide +kernel) rfl
theorem wk_415 : Cond.code ⟨"RopeTreaty", "isUnder", "(II)Z"⟩ prog_1_method_50_code (4 : Nat) (Option.some Jvm.ClassFile.FieldType.boolean) ∈ tblG := wdG (i := 415) (by decide +kernel) rfl
theorem wk_416 : Cond.fieldLink "RopeTreaty" (293 : Nat) "RopeTreaty" "ABOVE" "[I" ∈ tblG := wdG (i := 416) (by decide +kernel) rfl
theorem wk_419 : Cond.instanceMethod ⟨"RopeTreaty", "jump", "(II)I"⟩ ∈ tblG := wdG (i := 419) (by decide +kernel) rfl
theorem wk_420 : Cond.selects "RopeTreaty" ⟨"RopeTreaty", "jump", "(II)I"⟩ ⟨"RopeTreaty", "jump", "(II)I"⟩ ∈ tblG := wdG (i := 420) (by decide +kernel) rfl
theorem wk_421 : Cond.code ⟨"RopeTreaty", "jump", "(II)I"⟩ prog_1_method_7_code (4 : Nat) (Option.some Jvm.ClassFile.FieldType.int) ∈ tblG := wdG (i := 421) (by decide +kernel) rfl
theorem wk_422 : Cond.methodLink "RopeTreaty" (130 : Nat) ⟨"RopeTreaty$Rope", "turns", "()Z"⟩ ∈ tblG := wdG (i := 422) (by decide +kernel) rfl
theorem wk_423 : Cond.instanceMethod ⟨"RopeTreaty$Rope", "turns", "()Z"⟩ ∈ tblG := wdG (i := 423) (by decide +kernel) rfl
theorem wk_424 : Cond.selects "RopeTreaty$Rope" ⟨"RopeTreaty$Rope", "turns", "()Z"⟩ ⟨"RopeTreaty$Rope", "turns", "()Z"⟩ ∈ tblG := wdG (i := 424) (by decide +kernel) rfl
theorem wk_425 : Cond.code ⟨"RopeTreaty$Rope", "turns", "()Z"⟩ prog_3_method_7_code (1 : Nat) (Option.some Jvm.ClassFile.FieldType.boolean) ∈ tblG := wdG (i := 425) (by decide +kernel) rfl
theorem wk_427 : Cond.instanceMethod ⟨"RopeTreaty", "rest", "(II)I"⟩ ∈ tblG := wdG (i := 427) (by decide +kernel) rfl
theorem wk_428 : Cond.selects "RopeTreaty" ⟨"RopeTreaty", "rest", "(II)I"⟩ ⟨"RopeTreaty", "rest", "(II)I"⟩ ∈ tblG := wdG (i := 428) (by decide +kernel) rfl
theorem wk_429 : Cond.code ⟨"RopeTreaty", "rest", "(II)I"⟩ prog_1_method_8_code (4 : Nat) (Option.some Jvm.ClassFile.FieldType.int) ∈ tblG := wdG (i := 429) (by decide +kernel) rfl
theorem wk_431 : Cond.instanceMethod ⟨"RopeTreaty", "spell", "(II)I"⟩ ∈ tblG := wdG (i := 431) (by decide +kernel) rfl
theorem wk_432 : Cond.selects "RopeTreaty" ⟨"RopeTreaty", "spell", "(II)I"⟩ ⟨"RopeTreaty", "spell", "(II)I"⟩ ∈ tblG := wdG (i := 432) (by decide +kernel) rfl
theorem wk_433 : Cond.code ⟨"RopeTreaty", "spell", "(II)I"⟩ prog_1_method_9_code (4 : Nat) (Option.some Jvm.ClassFile.FieldType.int) ∈ tblG := wdG (i := 433) (by decide +kernel) rfl
theorem wk_435 : Cond.instanceMethod ⟨"RopeTreaty", "bar", "(I)I"⟩ ∈ tblG := wdG (i := 435) (by decide +kernel) rfl
theorem wk_436 : Cond.selects "RopeTreaty" ⟨"RopeTreaty", "bar", "(I)I"⟩ ⟨"RopeTreaty", "bar", "(I)I"⟩ ∈ tblG := wdG (i := 436) (by decide +kernel) rfl
theorem wk_437 : Cond.code ⟨"RopeTreaty", "bar", "(I)I"⟩ prog_1_method_10_code (3 : Nat) (Option.some Jvm.ClassFile.FieldType.int) ∈ tblG := wdG (i := 437) (by decide +kernel) rfl
theorem wk_439 : Cond.instanceMethod ⟨"RopeTreaty", "liking", "(II)I"⟩ ∈ tblG := wdG (i := 439) (by decide +kernel) rfl
theorem wk_440 : Cond.selects "RopeTreaty" ⟨"RopeTreaty", "liking", "(II)I"⟩ ⟨"RopeTreaty", "liking", "(II)I"⟩ ∈ tblG := wdG (i := 440) (by decide +kernel) rfl
theorem wk_441 : Cond.code ⟨"RopeTreaty", "liking", "(II)I"⟩ prog_1_method_11_code (3 : Nat) (Option.some Jvm.ClassFile.FieldType.int) ∈ tblG := wdG (i := 441) (by decide +kernel) rfl
theorem wk_442 : Cond.methodLink "RopeTreaty" (140 : Nat) ⟨"RopeTreaty", "isTreaty", "(I)Z"⟩ ∈ tblG := wdG (i := 442) (by decide +kernel) rfl
theorem wk_443 : Cond.static ⟨"RopeTreaty", "isTreaty", "(I)Z"⟩ ∈ tblG := wdG (i := 443) (by decide +kernel) rfl
theorem wk_444 : Cond.code ⟨"RopeTreaty", "isTreaty", "(I)Z"⟩ prog_1_method_45_code (1 : Nat) (Option.some Jvm.ClassFile.FieldType.boolean) ∈ tblG := wdG (i := 444) (by decide +kernel) rfl
theorem wk_445 : Cond.methodLink "RopeTreaty" (143 : Nat) ⟨"RopeTreaty$Rope", "likes", "(II)I"⟩ ∈ tblG := wdG (i := 445) (by decide +kernel) rfl
theorem wk_446 : Cond.instanceMethod ⟨"RopeTreaty$Rope", "likes", "(II)I"⟩ ∈ tblG := wdG (i := 446) (by decide +kernel) rfl
theorem wk_447 : Cond.selects "RopeTreaty$Rope" ⟨"RopeTreaty$Rope", "likes", "(II)I"⟩ ⟨"RopeTreaty$Rope", "likes", "(II)I"⟩ ∈ tblG := wdG (i := 447) (by decide +kernel) rfl
theorem wk_448 : Cond.code ⟨"RopeTreaty$Rope", "likes", "(II)I"⟩ prog_3_method_14_code (3 : Nat) (Option.some Jvm.ClassFile.FieldType.int) ∈ tblG := wdG (i := 448) (by decide +kernel) rfl
theorem wk_449 : Cond.methodLink "RopeTreaty$Rope" (98 : Nat) ⟨"RopeTreaty$Rope", "leans", "(II)I"⟩ ∈ tblG := wdG (i := 449) (by decide +kernel) rfl
theorem wk_450 : Cond.instanceMethod ⟨"RopeTreaty$Rope", "leans", "(II)I"⟩ ∈ tblG := wdG (i := 450) (by decide +kernel) rfl
theorem wk_451 : Cond.selects "RopeTreaty$Rope" ⟨"RopeTreaty$Rope", "leans", "(II)I"⟩ ⟨"RopeTreaty$Rope", "leans", "(II)I"⟩ ∈ tblG := wdG (i := 451) (by decide +kernel) rfl
theorem wk_452 : Cond.code ⟨"RopeTreaty$Rope", "leans", "(II)I"⟩ prog_3_method_12_code (4 : Nat) (Option.some Jvm.ClassFile.FieldType.int) ∈ tblG := wdG (i := 452) (by decide +kernel) rfl
theorem wk_454 : Cond.instanceMethod ⟨"RopeTreaty", "talk", "(II)I"⟩ ∈ tblG := wdG (i := 454) (by decide +kernel) rfl
theorem wk_455 : Cond.selects "RopeTreaty" ⟨"RopeTreaty", "talk", "(II)I"⟩ ⟨"RopeTreaty", "talk", "(II)I"⟩ ∈ tblG := wdG (i := 455) (by decide +kernel) rfl
theorem wk_456 : Cond.code ⟨"RopeTreaty", "talk", "(II)I"⟩ prog_1_method_12_code (3 : Nat) (Option.some Jvm.ClassFile.FieldType.int) ∈ tblG := wdG (i := 456) (by decide +kernel) rfl
theorem wk_457 : Cond.methodLink "RopeTreaty" (147 : Nat) ⟨"RopeTreaty$Rope", "mayTalk", "()Z"⟩ ∈ tblG := wdG (i := 457) (by decide +kernel) rfl
theorem wk_458 : Cond.instanceMethod ⟨"RopeTreaty$Rope", "mayTalk", "()Z"⟩ ∈ tblG := wdG (i := 458) (by decide +kernel) rfl
theorem wk_459 : Cond.selects "RopeTreaty$Rope" ⟨"RopeTreaty$Rope", "mayTalk", "()Z"⟩ ⟨"RopeTreaty$Rope", "mayTalk", "()Z"⟩ ∈ tblG := wdG (i := 459) (by decide +kernel) rfl
theorem wk_460 : Cond.code ⟨"RopeTreaty$Rope", "mayTalk", "()Z"⟩ prog_3_method_8_code (1 : Nat) (Option.some Jvm.ClassFile.FieldType.boolean) ∈ tblG := wdG (i := 460) (by decide +kernel) rfl
theorem wk_461 : Cond.methodLink "RopeTreaty$Rope" (69 : Nat) ⟨"RopeTreaty$Rope", "turns", "()Z"⟩ ∈ tblG := wdG (i := 461) (by decide +kernel) rfl
theorem wk_462 : Cond.methodLink "RopeTreaty" (150 : Nat) ⟨"RopeTreaty$Rope", "isTaken", "(I)Z"⟩ ∈ tblG := wdG (i := 462) (by decide +kernel) rfl
theorem wk_463 : Cond.instanceMethod ⟨"RopeTreaty$Rope", "isTaken", "(I)Z"⟩ ∈ tblG := wdG (i := 463) (by decide +kernel) rfl
theorem wk_464 : Cond.selects "RopeTreaty$Rope" ⟨"RopeTreaty$Rope", "isTaken", "(I)Z"⟩ ⟨"RopeTreaty$Rope", "isTaken", "(I)Z"⟩ ∈ tblG := wdG (i := 464) (by decide +kernel) rfl
theorem wk_465 : Cond.code ⟨"RopeTreaty$Rope", "isTaken", "(I)Z"⟩ prog_3_method_15_code (3 : Nat) (Option.some Jvm.ClassFile.FieldType.boolean) ∈ tblG := wdG (i := 465) (by decide +kernel) rfl
theorem wk_466 : Cond.methodLink "RopeTreaty$Rope" (102 : Nat) ⟨"RopeTreaty$Rope", "likes", "(II)I"⟩ ∈ tblG := wdG (i := 466) (by decide +kernel) rfl
theorem wk_468 : Cond.instanceMethod ⟨"RopeTreaty", "feed", "(JI)I"⟩ ∈ tblG := wdG (i := 468) (by decide +kernel) rfl
theorem wk_469 : Cond.selects "RopeTreaty" ⟨"RopeTreaty", "feed", "(JI)I"⟩ ⟨"RopeTreaty", "feed", "(JI)I"⟩ ∈ tblG := wdG (i := 469) (by decide +kernel) rfl
theorem wk_470 : Cond.code ⟨"RopeTreaty", "feed", "(JI)I"⟩ prog_1_method_13_code (4 : Nat) (Option.some Jvm.ClassFile.FieldType.int) ∈ tblG := wdG (i := 470) (by decide +kernel) rfl
theorem wk_471 : Cond.methodLink "RopeTreaty" (159 : Nat) ⟨"RopeTreaty$Tape", "add", "(JI)V"⟩ ∈ tblG := wdG (i := 471) (by decide +kernel) rfl
theorem wk_472 : Cond.instanceMethod ⟨"RopeTreaty$Tape", "add", "(JI)V"⟩ ∈ tblG := wdG (i := 472) (by decide +kernel) rfl
theorem wk_473 : Cond.selects "RopeTreaty$Tape" ⟨"RopeTreaty$Tape", "add", "(JI)V"⟩ ⟨"RopeTreaty$Tape", "add", "(JI)V"⟩ ∈ tblG := wdG (i := 473) (by decide +kernel) rfl
theorem wk_474 : Cond.code ⟨"RopeTreaty$Tape", "add", "(JI)V"⟩ prog_5_method_2_code (5 : Nat) (Option.none : Option Jvm.ClassFile.FieldType) ∈ tblG := wdG (i := 474) (by decide +kernel) rfl
theorem wk_476 : Cond.instanceMethod ⟨"RopeTreaty", "text", "(I)I"⟩ ∈ tblG := wdG (i := 476) (by decide +kernel) rfl
theorem wk_477 : Cond.selects "RopeTreaty" ⟨"RopeTreaty", "text", "(I)I"⟩ ⟨"RopeTreaty", "text", "(I)I"⟩ ∈ tblG := wdG (i := 477) (by decide +kernel) rfl
theorem wk_478 : Cond.code ⟨"RopeTreaty", "text", "(I)I"⟩ prog_1_method_14_code (3 : Nat) (Option.some Jvm.ClassFile.FieldType.int) ∈ tblG := wdG (i := 478) (by decide +kernel) rfl
theorem wk_479 : Cond.methodLink "RopeTreaty" (162 : Nat) ⟨"RopeTreaty", "isUse", "(I)Z"⟩ ∈ tblG := wdG (i := 479) (by decide +kernel) rfl
theorem wk_480 : Cond.static ⟨"RopeTreaty", "isUse", "(I)Z"⟩ ∈ tblG := wdG (i := 480) (by decide +kernel) rfl
theorem wk_481 : Cond.code ⟨"RopeTreaty", "isUse", "(I)Z"⟩ prog_1_method_46_code (1 : Nat) (Option.some Jvm.ClassFile.FieldType.boolean) ∈ tblG := wdG (i := 481) (by decide +kernel) rfl
theorem wk_482 : Cond.methodLink "RopeTreaty" (165 : Nat) ⟨"RopeTreaty$Reader", "read", "(LRopeTreaty$Tape;I)I"⟩ ∈ tblG := wdG (i := 482) (by decide +kernel) rfl
theorem wk_483 : Cond.instanceMethod ⟨"RopeTreaty$Reader", "read", "(LRopeTreaty$Tape;I)I"⟩ ∈ tblG := wdG (i := 483) (by decide +kernel) rfl
theorem wk_484 : Cond.selects "RopeTreaty$Reader" ⟨"RopeTreaty$Reader", "read", "(LRopeTreaty$Tape;I)I"⟩ ⟨"RopeTreaty$Reader", "read", "(LRopeTreaty$Tape;I)I"⟩ ∈ tblG := wdG (i := 484) (by decide +kernel) rfl
theorem wk_485 : Cond.code ⟨"RopeTreaty$Reader", "read", "(LRopeTreaty$Tape;I)I"⟩ prog_2_method_2_code (3 : Nat) (Option.some Jvm.ClassFile.FieldType.int) ∈ tblG := wdG (i := 485) (by decide +kernel) rfl
theorem wk_486 : Cond.methodLink "RopeTreaty$Reader" (21 : Nat) ⟨"java/lang/System", "arraycopy", "(Ljava/lang/Object;ILjava/lang/Object;II)V"⟩ ∈ tblG := wdG (i := 486) (by decide +kernel) rfl
theorem wk_487 : Cond.static ⟨"java/lang/System", "arraycopy", "(Ljava/lang/Object;ILjava/lang/Object;II)V"⟩ ∈ tblG := wdG (i := 487) (by decide +kernel) rfl
theorem wk_488 : Cond.native ⟨"java/lang/System", "arraycopy", "(Ljava/lang/Object;ILjava/lang/Object;II)V"⟩ ∈ tblG := wdG (i := 488) (by decide +kernel) rfl
theorem wk_489 : Cond.methodLink "RopeTreaty$Reader" (45 : Nat) ⟨"RopeTreaty$Reader", "readOr", "(I)V"⟩ ∈ tblG := wdG (i := 489) (by decide +kernel) rfl
theorem wk_491 : Cond.instanceMethod ⟨"RopeTreaty$Reader", "readOr", "(I)V"⟩ ∈ tblG := wdG (i := 491) (by decide +kernel) rfl
theorem wk_492 : Cond.code ⟨"RopeTreaty$Reader", "readOr", "(I)V"⟩ prog_2_method_3_code (3 : Nat) (Option.none : Option Jvm.ClassFile.FieldType) ∈ tblG := wdG (i := 492) (by decide +kernel) rfl
theorem wk_493 : Cond.methodLink "RopeTreaty$Reader" (49 : Nat) ⟨"RopeTreaty$Reader", "readAnd", "(I)V"⟩ ∈ tblG := wdG (i := 493) (by decide +kernel) rfl
theorem wk_495 : Cond.instanceMethod ⟨"RopeTreaty$Reader", "readAnd", "(I)V"⟩ ∈ tblG := wdG (i := 495) (by decide +kernel) rfl
theorem wk_496 : Cond.code ⟨"RopeTreaty$Reader", "readAnd", "(I)V"⟩ prog_2_method_4_code (3 : Nat) (Option.none : Option Jvm.ClassFile.FieldType) ∈ tblG := wdG (i := 496) (by decide +kernel) rfl
theorem wk_497 : Cond.methodLink "RopeTreaty$Reader" (59 : Nat) ⟨"RopeTreaty$Reader", "readLikeness", "(I)V"⟩ ∈ tblG := wdG (i := 497) (by decide +kernel) rfl
theorem wk_499 : Cond.instanceMethod ⟨"RopeTreaty$Reader", "readLikeness", "(I)V"⟩ ∈ tblG := wdG (i := 499) (by decide +kernel) rfl
theorem wk_500 : Cond.code ⟨"RopeTreaty$Reader", "readLikeness", "(I)V"⟩ prog_2_method_5_code (3 : Nat) (Option.none : Option Jvm.ClassFile.FieldType) ∈ tblG := wdG (i := 500) (by decide +kernel) rfl
theorem wk_501 : Cond.methodLink "RopeTreaty$Reader" (62 : Nat) ⟨"RopeTreaty$Reader", "readSum", "(I)V"⟩ ∈ tblG := wdG (i := 501) (by decide +kernel) rfl
theorem wk_503 : Cond.instanceMethod ⟨"RopeTreaty$Reader", "readSum", "(I)V"⟩ ∈ tblG := wdG (i := 503) (by decide +kernel) rfl
theorem wk_504 : Cond.code ⟨"RopeTreaty$Reader", "readSum", "(I)V"⟩ prog_2_method_6_code (4 : Nat) (Option.none : Option Jvm.ClassFile.FieldType) ∈ tblG := wdG (i := 504) (by decide +kernel) rfl
theorem wk_505 : Cond.methodLink "RopeTreaty$Reader" (65 : Nat) ⟨"RopeTreaty$Reader", "readProduct", "(I)V"⟩ ∈ tblG := wdG (i := 505) (by decide +kernel) rfl
theorem wk_507 : Cond.instanceMethod ⟨"RopeTreaty$Reader", "readProduct", "(I)V"⟩ ∈ tblG := wdG (i := 507) (by decide +kernel) rfl
theorem wk_508 : Cond.code ⟨"RopeTreaty$Reader", "readProduct", "(I)V"⟩ prog_2_method_7_code (4 : Nat) (Option.none : Option Jvm.ClassFile.FieldType) ∈ tblG := wdG (i := 508) (by decide +kernel) rfl
theorem wk_509 : Cond.methodLink "RopeTreaty$Reader" (68 : Nat) ⟨"RopeTreaty$Reader", "readPart", "(I)V"⟩ ∈ tblG := wdG (i := 509) (by decide +kernel) rfl
theorem wk_511 : Cond.instanceMethod ⟨"RopeTreaty$Reader", "readPart", "(I)V"⟩ ∈ tblG := wdG (i := 511) (by decide +kernel) rfl
theorem wk_512 : Cond.code ⟨"RopeTreaty$Reader", "readPart", "(I)V"⟩ prog_2_method_8_code (3 : Nat) (Option.none : Option Jvm.ClassFile.FieldType) ∈ tblG := wdG (i := 512) (by decide +kernel) rfl
theorem wk_513 : Cond.methodLink "RopeTreaty$Reader" (71 : Nat) ⟨"RopeTreaty$Reader", "nextName", "()I"⟩ ∈ tblG := wdG (i := 513) (by decide +kernel) rfl
theorem wk_515 : Cond.instanceMethod ⟨"RopeTreaty$Reader", "nextName", "()I"⟩ ∈ tblG := wdG (i := 515) (by decide +kernel) rfl
theorem wk_516 : Cond.code ⟨"RopeTreaty$Reader", "nextName", "()I"⟩ prog_2_method_11_code (3 : Nat) (Option.some Jvm.ClassFile.FieldType.int) ∈ tblG := wdG (i := 516) (by decide +kernel) rfl
theorem wk_517 : Cond.fieldLink "RopeTreaty$Reader" (85 : Nat) "RopeTreaty$Reader" "NAMES" "[C" ∈ tblG := wdG (i := 517) (by decide +kernel) rfl
theorem wk_519 : Cond.methodLink "RopeTreaty$Reader" (52 : Nat) ⟨"RopeTreaty$Reader", "isNext", "(C)Z"⟩ ∈ tblG := wdG (i := 519) (by decide +kernel) rfl
theorem wk_521 : Cond.instanceMethod ⟨"RopeTreaty$Reader", "isNext", "(C)Z"⟩ ∈ tblG := wdG (i := 521) (by decide +kernel) rfl
theorem wk_522 : Cond.code ⟨"RopeTreaty$Reader", "isNext", "(C)Z"⟩ prog_2_method_13_code (2 : Nat) (Option.some Jvm.ClassFile.FieldType.boolean) ∈ tblG := wdG (i := 522) (by decide +kernel) rfl
theorem wk_523 : Cond.methodLink "RopeTreaty$Reader" (56 : Nat) ⟨"RopeTreaty$Reader", "write", "(I)V"⟩ ∈ tblG := wdG (i := 523) (by decide +kernel) rfl
theorem wk_525 : Cond.instanceMethod ⟨"RopeTreaty$Reader", "write", "(I)V"⟩ ∈ tblG := wdG (i := 525) (by decide +kernel) rfl
theorem wk_526 : Cond.code ⟨"RopeTreaty$Reader", "write", "(I)V"⟩ prog_2_method_14_code (2 : Nat) (Option.none : Option Jvm.ClassFile.FieldType) ∈ tblG := wdG (i := 526) (by decide +kernel) rfl
theorem wk_527 : Cond.methodLink "RopeTreaty$Reader" (75 : Nat) ⟨"RopeTreaty$Reader", "isDigit", "()Z"⟩ ∈ tblG := wdG (i := 527) (by decide +kernel) rfl
theorem wk_529 : Cond.instanceMethod ⟨"RopeTreaty$Reader", "isDigit", "()Z"⟩ ∈ tblG := wdG (i := 529) (by decide +kernel) rfl
theorem wk_530 : Cond.code ⟨"RopeTreaty$Reader", "isDigit", "()Z"⟩ prog_2_method_12_code (1 : Nat) (Option.some Jvm.ClassFile.FieldType.boolean) ∈ tblG := wdG (i := 530) (by decide +kernel) rfl
theorem wk_531 : Cond.methodLink "RopeTreaty$Reader" (79 : Nat) ⟨"RopeTreaty$Reader", "readNumber", "()V"⟩ ∈ tblG := wdG (i := 531) (by decide +kernel) rfl
theorem wk_533 : Cond.instanceMethod ⟨"RopeTreaty$Reader", "readNumber", "()V"⟩ ∈ tblG := wdG (i := 533) (by decide +kernel) rfl
theorem wk_534 : Cond.code ⟨"RopeTreaty$Reader", "readNumber", "()V"⟩ prog_2_method_9_code (3 : Nat) (Option.none : Option Jvm.ClassFile.FieldType) ∈ tblG := wdG (i := 534) (by decide +kernel) rfl
theorem wk_535 : Cond.methodLink "RopeTreaty$Reader" (82 : Nat) ⟨"RopeTreaty$Reader", "close", "()V"⟩ ∈ tblG := wdG (i := 535) (by decide +kernel) rfl
theorem wk_537 : Cond.instanceMethod ⟨"RopeTreaty$Reader", "close", "()V"⟩ ∈ tblG := wdG (i := 537) (by decide +kernel) rfl
theorem wk_538 : Cond.code ⟨"RopeTreaty$Reader", "close", "()V"⟩ prog_2_method_10_code (1 : Nat) (Option.none : Option Jvm.ClassFile.FieldType) ∈ tblG := wdG (i := 538) (by decide +kernel) rfl
theorem wk_539 : Cond.methodLink "RopeTreaty" (175 : Nat) ⟨"RopeTreaty$Text", "learn", "([II)V"⟩ ∈ tblG := wdG (i := 539) (by decide +kernel) rfl
theorem wk_540 : Cond.instanceMethod ⟨"RopeTreaty$Text", "learn", "([II)V"⟩ ∈ tblG := wdG (i := 540) (by decide +kernel) rfl
theorem wk_541 : Cond.selects "RopeTreaty$Text" ⟨"RopeTreaty$Text", "learn", "([II)V"⟩ ⟨"RopeTreaty$Text", "learn", "([II)V"⟩ ∈ tblG := wdG (i := 541) (by decide +kernel) rfl
theorem wk_542 : Cond.code ⟨"RopeTreaty$Text", "learn", "([II)V"⟩ prog_6_method_3_code (3 : Nat) (Option.none : Option Jvm.ClassFile.FieldType) ∈ tblG := wdG (i := 542) (by decide +kernel) rfl
theorem wk_543 : Cond.methodLink "RopeTreaty$Text" (25 : Nat) ⟨"java/lang/System", "arraycopy", "(Ljava/lang/Object;ILjava/lang/Object;II)V"⟩ ∈ tblG := wdG (i := 543) (by decide +kernel) rfl
theorem wk_545 : Cond.instanceMethod ⟨"RopeTreaty", "untell", "(I)I"⟩ ∈ tblG := wdG (i := 545) (by decide +kernel) rfl
theorem wk_546 : Cond.selects "RopeTreaty" ⟨"RopeTreaty", "untell", "(I)I"⟩ ⟨"RopeTreaty", "untell", "(I)I"⟩ ∈ tblG := wdG (i := 546) (by decide +kernel) rfl
theorem wk_547 : Cond.code ⟨"RopeTreaty", "untell", "(I)I"⟩ prog_1_method_15_code (3 : Nat) (Option.some Jvm.ClassFile.FieldType.int) ∈ tblG := wdG (i := 547) (by decide +kernel) rfl
theorem wk_548 : Cond.methodLink "RopeTreaty" (179 : Nat) ⟨"RopeTreaty$Text", "isTold", "()Z"⟩ ∈ tblG := wdG (i := 548) (by decide +kernel) rfl
theorem wk_550 : Cond.instanceMethod ⟨"RopeTreaty", "law", "(IIII)I"⟩ ∈ tblG := wdG (i := 550) (by decide +kernel) rfl
theorem wk_551 : Cond.selects "RopeTreaty" ⟨"RopeTreaty", "law", "(IIII)I"⟩ ⟨"RopeTreaty", "law", "(IIII)I"⟩ ∈ tblG := wdG (i := 551) (by decide +kernel) rfl
theorem wk_552 : Cond.code ⟨"RopeTreaty", "law", "(IIII)I"⟩ prog_1_method_16_code (5 : Nat) (Option.some Jvm.ClassFile.FieldType.int) ∈ tblG := wdG (i := 552) (by decide +kernel) rfl
theorem wk_553 : Cond.methodLink "RopeTreaty" (183 : Nat) ⟨"RopeTreaty$Text", "gives", "(III)I"⟩ ∈ tblG := wdG (i := 553) (by decide +kernel) rfl
theorem wk_555 : Cond.instanceMethod ⟨"RopeTreaty", "beats", "(I)I"⟩ ∈ tblG := wdG (i := 555) (by decide +kernel) rfl
theorem wk_556 : Cond.selects "RopeTreaty" ⟨"RopeTreaty", "beats", "(I)I"⟩ ⟨"RopeTreaty", "beats", "(I)I"⟩ ∈ tblG := wdG (i := 556) (by decide +kernel) rfl
theorem wk_557 : Cond.code ⟨"RopeTreaty", "beats", "(I)I"⟩ prog_1_method_17_code (4 : Nat) (Option.some Jvm.ClassFile.FieldType.int) ∈ tblG := wdG (i := 557) (by decide +kernel) rfl
theorem wk_558 : Cond.constant "RopeTreaty" (189 : Nat) (99999 : Int32) ∈ tblG := wdG (i := 558) (by decide +kernel) rfl
theorem wk_559 : Cond.methodLink "RopeTreaty" (190 : Nat) ⟨"RopeTreaty$Rope", "pass", "()I"⟩ ∈ tblG := wdG (i := 559) (by decide +kernel) rfl
theorem wk_560 : Cond.instanceMethod ⟨"RopeTreaty$Rope", "pass", "()I"⟩ ∈ tblG := wdG (i := 560) (by decide +kernel) rfl
theorem wk_561 : Cond.selects "RopeTreaty$Rope" ⟨"RopeTreaty$Rope", "pass", "()I"⟩ ⟨"RopeTreaty$Rope", "pass", "()I"⟩ ∈ tblG := wdG (i := 561) (by decide +kernel) rfl
theorem wk_562 : Cond.code ⟨"RopeTreaty$Rope", "pass", "()I"⟩ prog_3_method_19_code (3 : Nat) (Option.some Jvm.ClassFile.FieldType.int) ∈ tblG := wdG (i := 562) (by decide +kernel) rfl
theorem wk_563 : Cond.methodLink "RopeTreaty$Rope" (116 : Nat) ⟨"RopeTreaty$Rope", "costs", "(I)I"⟩ ∈ tblG := wdG (i := 563) (by decide +kernel) rfl
theorem wk_564 : Cond.methodLink "RopeTreaty$Rope" (119 : Nat) ⟨"RopeTreaty$Rope", "skip", "(I)I"⟩ ∈ tblG := wdG (i := 564) (by decide +kernel) rfl
theorem wk_566 : Cond.instanceMethod ⟨"RopeTreaty$Rope", "skip", "(I)I"⟩ ∈ tblG := wdG (i := 566) (by decide +kernel) rfl
theorem wk_567 : Cond.code ⟨"RopeTreaty$Rope", "skip", "(I)I"⟩ prog_3_method_20_code (2 : Nat) (Option.some Jvm.ClassFile.FieldType.int) ∈ tblG := wdG (i := 567) (by decide +kernel) rfl
theorem wk_568 : Cond.methodLink "RopeTreaty$Rope" (105 : Nat) ⟨"java/lang/Math", "min", "(II)I"⟩ ∈ tblG := wdG (i := 568) (by decide +kernel) rfl
theorem wk_569 : Cond.constant "RopeTreaty$Rope" (122 : Nat) (99999 : Int32) ∈ tblG := wdG (i := 569) (by decide +kernel) rfl
theorem wk_571 : Cond.instanceMethod ⟨"RopeTreaty", "loose", "(I)I"⟩ ∈ tblG := wdG (i := 571) (by decide +kernel) rfl
theorem wk_572 : Cond.selects "RopeTreaty" ⟨"RopeTreaty", "loose", "(I)I"⟩ ⟨"RopeTreaty", "loose", "(I)I"⟩ ∈ tblG := wdG (i := 572) (by decide +kernel) rfl
theorem wk_573 : Cond.code ⟨"RopeTreaty", "loose", "(I)I"⟩ prog_1_method_18_code (4 : Nat) (Option.some Jvm.ClassFile.FieldType.int) ∈ tblG := wdG (i := 573) (by decide +kernel) rfl
theorem wk_574 : Cond.methodLink "RopeTreaty" (194 : Nat) ⟨"RopeTreaty$Rope", "passByDraws", "()I"⟩ ∈ tblG := wdG (i := 574) (by decide +kernel) rfl
theorem wk_575 : Cond.instanceMethod ⟨"RopeTreaty$Rope", "passByDraws", "()I"⟩ ∈ tblG := wdG (i := 575) (by decide +kernel) rfl
theorem wk_576 : Cond.selects "RopeTreaty$Rope" ⟨"RopeTreaty$Rope", "passByDraws", "()I"⟩ ⟨"RopeTreaty$Rope", "passByDraws", "()I"⟩ ∈ tblG := wdG (i := 576) (by decide +kernel) rfl
theorem wk_577 : Cond.code ⟨"RopeTreaty$Rope", "passByDraws", "()I"⟩ prog_3_method_21_code (4 : Nat) (Option.some Jvm.ClassFile.FieldType.int) ∈ tblG := wdG (i := 577) (by decide +kernel) rfl
theorem wk_578 : Cond.methodLink "RopeTreaty$Rope" (123 : Nat) ⟨"RopeTreaty$Rope", "draw", "()I"⟩ ∈ tblG := wdG (i := 578) (by decide +kernel) rfl
theorem wk_580 : Cond.instanceMethod ⟨"RopeTreaty$Rope", "draw", "()I"⟩ ∈ tblG := wdG (i := 580) (by decide +kernel) rfl
theorem wk_581 : Cond.code ⟨"RopeTreaty$Rope", "draw", "()I"⟩ prog_3_method_22_code (1 : Nat) (Option.some Jvm.ClassFile.FieldType.int) ∈ tblG := wdG (i := 581) (by decide +kernel) rfl
theorem wk_582 : Cond.constant "RopeTreaty$Rope" (136 : Nat) (1103515245 : Int32) ∈ tblG := wdG (i := 582) (by decide +kernel) rfl
theorem wk_583 : Cond.methodLink "RopeTreaty$Rope" (126 : Nat) ⟨"RopeTreaty$Rope", "mayTalk", "()Z"⟩ ∈ tblG := wdG (i := 583) (by decide +kernel) rfl
theorem wk_584 : Cond.methodLink "RopeTreaty$Rope" (129 : Nat) ⟨"RopeTreaty$Rope", "isTaken", "(I)Z"⟩ ∈ tblG := wdG (i := 584) (by decide +kernel) rfl
theorem wk_585 : Cond.methodLink "RopeTreaty$Rope" (133 : Nat) ⟨"RopeTreaty$Rope", "pass", "()I"⟩ ∈ tblG := wdG (i := 585) (by decide +kernel) rfl
theorem wk_587 : Cond.instanceMethod ⟨"RopeTreaty", "seed", "(I)I"⟩ ∈ tblG := wdG (i := 587) (by decide +kernel) rfl
theorem wk_588 : Cond.selects "RopeTreaty" ⟨"RopeTreaty", "seed", "(I)I"⟩ ⟨"RopeTreaty", "seed", "(I)I"⟩ ∈ tblG := wdG (i := 588) (by decide +kernel) rfl
theorem wk_589 : Cond.code ⟨"RopeTreaty", "seed", "(I)I"⟩ prog_1_method_19_code (3 : Nat) (Option.some Jvm.ClassFile.FieldType.int) ∈ tblG := wdG (i := 589) (by decide +kernel) rfl
theorem wk_591 : Cond.instanceMethod ⟨"RopeTreaty", "then", "(III)I"⟩ ∈ tblG := wdG (i := 591) (by decide +kernel) rfl
theorem wk_592 : Cond.selects "RopeTreaty" ⟨"RopeTreaty", "then", "(III)I"⟩ ⟨"RopeTreaty", "then", "(III)I"⟩ ∈ tblG := wdG (i := 592) (by decide +kernel) rfl
theorem wk_593 : Cond.code ⟨"RopeTreaty", "then", "(III)I"⟩ prog_1_method_20_code (5 : Nat) (Option.some Jvm.ClassFile.FieldType.int) ∈ tblG := wdG (i := 593) (by decide +kernel) rfl
theorem wk_594 : Cond.methodLink "RopeTreaty" (200 : Nat) ⟨"RopeTreaty$Rope", "copy", "(LRopeTreaty$Rope;)V"⟩ ∈ tblG := wdG (i := 594) (by decide +kernel) rfl
theorem wk_595 : Cond.instanceMethod ⟨"RopeTreaty$Rope", "copy", "(LRopeTreaty$Rope;)V"⟩ ∈ tblG := wdG (i := 595) (by decide +kernel) rfl
theorem wk_596 : Cond.selects "RopeTreaty$Rope" ⟨"RopeTreaty$Rope", "copy", "(LRopeTreaty$Rope;)V"⟩ ⟨"RopeTreaty$Rope", "copy", "(LRopeTreaty$Rope;)V"⟩ ∈ tblG := wdG (i := 596) (by decide +kernel) rfl
theorem wk_597 : Cond.code ⟨"RopeTreaty$Rope", "copy", "(LRopeTreaty$Rope;)V"⟩ prog_3_method_2_code (2 : Nat) (Option.none : Option Jvm.ClassFile.FieldType) ∈ tblG := wdG (i := 597) (by decide +kernel) rfl
theorem wk_598 : Cond.methodLink "RopeTreaty$Rope" (50 : Nat) ⟨"java/lang/System", "arraycopy", "(Ljava/lang/Object;ILjava/lang/Object;II)V"⟩ ∈ tblG := wdG (i := 598) (by decide +kernel) rfl
theorem wk_600 : Cond.instanceMethod ⟨"RopeTreaty", "lasts", "(I)I"⟩ ∈ tblG := wdG (i := 600) (by decide +kernel) rfl
theorem wk_601 : Cond.selects "RopeTreaty" ⟨"RopeTreaty", "lasts", "(I)I"⟩ ⟨"RopeTreaty", "lasts", "(I)I"⟩ ∈ tblG := wdG (i := 601) (by decide +kernel) rfl
theorem wk_602 : Cond.code ⟨"RopeTreaty", "lasts", "(I)I"⟩ prog_1_method_21_code (3 : Nat) (Option.some Jvm.ClassFile.FieldType.int) ∈ tblG := wdG (i := 602) (by decide +kernel) rfl
theorem wk_604 : Cond.instanceMethod ⟨"RopeTreaty", "agree", "(I)I"⟩ ∈ tblG := wdG (i := 604) (by decide +kernel) rfl
theorem wk_605 : Cond.selects "RopeTreaty" ⟨"RopeTreaty", "agree", "(I)I"⟩ ⟨"RopeTreaty", "agree", "(I)I"⟩ ∈ tblG := wdG (i := 605) (by decide +kernel) rfl
theorem wk_606 : Cond.code ⟨"RopeTreaty", "agree", "(I)I"⟩ prog_1_method_22_code (4 : Nat) (Option.some Jvm.ClassFile.FieldType.int) ∈ tblG := wdG (i := 606) (by decide +kernel) rfl
theorem wk_608 : Cond.instanceMethod ⟨"RopeTreaty", "fairest", "(I)I"⟩ ∈ tblG := wdG (i := 608) (by decide +kernel) rfl
theorem wk_609 : Cond.selects "RopeTreaty" ⟨"RopeTreaty", "fairest", "(I)I"⟩ ⟨"RopeTreaty", "fairest", "(I)I"⟩ ∈ tblG := wdG (i := 609) (by decide +kernel) rfl
theorem wk_610 : Cond.code ⟨"RopeTreaty", "fairest", "(I)I"⟩ prog_1_method_23_code (6 : Nat) (Option.some Jvm.ClassFile.FieldType.int) ∈ tblG := wdG (i := 610) (by decide +kernel) rfl
theorem wk_611 : Cond.methodLink "RopeTreaty" (204 : Nat) ⟨"RopeTreaty$Rope", "howManyIn", "()I"⟩ ∈ tblG := wdG (i := 611) (by decide +kernel) rfl
theorem wk_612 : Cond.methodLink "RopeTreaty" (207 : Nat) ⟨"RopeTreaty$Rope", "leastLiking", "(I)I"⟩ ∈ tblG := wdG (i := 612) (by decide +kernel) rfl
theorem wk_613 : Cond.instanceMethod ⟨"RopeTreaty$Rope", "leastLiking", "(I)I"⟩ ∈ tblG := wdG (i := 613) (by decide +kernel) rfl
theorem wk_614 : Cond.selects "RopeTreaty$Rope" ⟨"RopeTreaty$Rope", "leastLiking", "(I)I"⟩ ⟨"RopeTreaty$Rope", "leastLiking", "(I)I"⟩ ∈ tblG := wdG (i := 614) (by decide +kernel) rfl
theorem wk_615 : Cond.code ⟨"RopeTreaty$Rope", "leastLiking", "(I)I"⟩ prog_3_method_16_code (4 : Nat) (Option.some Jvm.ClassFile.FieldType.int) ∈ tblG := wdG (i := 615) (by decide +kernel) rfl
theorem wk_617 : Cond.instanceMethod ⟨"RopeTreaty", "balks", "(I)I"⟩ ∈ tblG := wdG (i := 617) (by decide +kernel) rfl
theorem wk_618 : Cond.selects "RopeTreaty" ⟨"RopeTreaty", "balks", "(I)I"⟩ ⟨"RopeTreaty", "balks", "(I)I"⟩ ∈ tblG := wdG (i := 618) (by decide +kernel) rfl
theorem wk_619 : Cond.code ⟨"RopeTreaty", "balks", "(I)I"⟩ prog_1_method_24_code (3 : Nat) (Option.some Jvm.ClassFile.FieldType.int) ∈ tblG := wdG (i := 619) (by decide +kernel) rfl
theorem wk_620 : Cond.methodLink "RopeTreaty" (210 : Nat) ⟨"RopeTreaty$Rope", "whoBalks", "()I"⟩ ∈ tblG := wdG (i := 620) (by decide +kernel) rfl
theorem wk_621 : Cond.instanceMethod ⟨"RopeTreaty$Rope", "whoBalks", "()I"⟩ ∈ tblG := wdG (i := 621) (by decide +kernel) rfl
theorem wk_622 : Cond.selects "RopeTreaty$Rope" ⟨"RopeTreaty$Rope", "whoBalks", "()I"⟩ ⟨"RopeTreaty$Rope", "whoBalks", "()I"⟩ ∈ tblG := wdG (i := 622) (by decide +kernel) rfl
theorem wk_623 : Cond.code ⟨"RopeTreaty$Rope", "whoBalks", "()I"⟩ prog_3_method_17_code (3 : Nat) (Option.some Jvm.ClassFile.FieldType.int) ∈ tblG := wdG (i := 623) (by decide +kernel) rfl
theorem wk_624 : Cond.methodLink "RopeTreaty$Rope" (110 : Nat) ⟨"RopeTreaty$Rope", "onlyAgainst", "(I)I"⟩ ∈ tblG := wdG (i := 624) (by decide +kernel) rfl
theorem wk_626 : Cond.instanceMethod ⟨"RopeTreaty$Rope", "onlyAgainst", "(I)I"⟩ ∈ tblG := wdG (i := 626) (by decide +kernel) rfl
theorem wk_627 : Cond.code ⟨"RopeTreaty$Rope", "onlyAgainst", "(I)I"⟩ prog_3_method_18_code (4 : Nat) (Option.some Jvm.ClassFile.FieldType.int) ∈ tblG := wdG (i := 627) (by decide +kernel) rfl
theorem wk_628 : Cond.methodLink "RopeTreaty$Rope" (113 : Nat) ⟨"java/lang/Math", "max", "(II)I"⟩ ∈ tblG := wdG (i := 628) (by decide +kernel) rfl
theorem wk_630 : Cond.instanceMethod ⟨"RopeTreaty", "soon", "(I)I"⟩ ∈ tblG := wdG (i := 630) (by decide +kernel) rfl
theorem wk_631 : Cond.selects "RopeTreaty" ⟨"RopeTreaty", "soon", "(I)I"⟩ ⟨"RopeTreaty", "soon", "(I)I"⟩ ∈ tblG := wdG (i := 631) (by decide +kernel) rfl
theorem wk_632 : Cond.code ⟨"RopeTreaty", "soon", "(I)I"⟩ prog_1_method_25_code (3 : Nat) (Option.some Jvm.ClassFile.FieldType.int) ∈ tblG := wdG (i := 632) (by decide +kernel) rfl
theorem wk_634 : Cond.instanceMethod ⟨"RopeTreaty", "meets", "(IIII)I"⟩ ∈ tblG := wdG (i := 634) (by decide +kernel) rfl
theorem wk_635 : Cond.selects "RopeTreaty" ⟨"RopeTreaty", "meets", "(IIII)I"⟩ ⟨"RopeTreaty", "meets", "(IIII)I"⟩ ∈ tblG := wdG (i := 635) (by decide +kernel) rfl
theorem wk_636 : Cond.code ⟨"RopeTreaty", "meets", "(IIII)I"⟩ prog_1_method_26_code (7 : Nat) (Option.some Jvm.ClassFile.FieldType.int) ∈ tblG := wdG (i := 636) (by decide +kernel) rfl
theorem wk_637 : Cond.methodLink "RopeTreaty" (216 : Nat) ⟨"RopeTreaty", "isRest", "(II)Z"⟩ ∈ tblG := wdG (i := 637) (by decide +kernel) rfl
theorem wk_638 : Cond.static ⟨"RopeTreaty", "isRest", "(II)Z"⟩ ∈ tblG := wdG (i := 638) (by decide +kernel) rfl
theorem wk_639 : Cond.code ⟨"RopeTreaty", "isRest", "(II)Z"⟩ prog_1_method_49_code (2 : Nat) (Option.some Jvm.ClassFile.FieldType.boolean) ∈ tblG := wdG (i := 639) (by decide +kernel) rfl
theorem wk_641 : Cond.instanceMethod ⟨"RopeTreaty", "odds", "(II)I"⟩ ∈ tblG := wdG (i := 641) (by decide +kernel) rfl
theorem wk_642 : Cond.selects "RopeTreaty" ⟨"RopeTreaty", "odds", "(II)I"⟩ ⟨"RopeTreaty", "odds", "(II)I"⟩ ∈ tblG := wdG (i := 642) (by decide +kernel) rfl
theorem wk_643 : Cond.code ⟨"RopeTreaty", "odds", "(II)I"⟩ prog_1_method_27_code (5 : Nat) (Option.some Jvm.ClassFile.FieldType.int) ∈ tblG := wdG (i := 643) (by decide +kernel) rfl
theorem wk_645 : Cond.instanceMethod ⟨"RopeTreaty", "fits", "(I)I"⟩ ∈ tblG := wdG (i := 645) (by decide +kernel) rfl
theorem wk_646 : Cond.selects "RopeTreaty" ⟨"RopeTreaty", "fits", "(I)I"⟩ ⟨"RopeTreaty", "fits", "(I)I"⟩ ∈ tblG := wdG (i := 646) (by decide +kernel) rfl
theorem wk_647 : Cond.code ⟨"RopeTreaty", "fits", "(I)I"⟩ prog_1_method_28_code (3 : Nat) (Option.some Jvm.ClassFile.FieldType.int) ∈ tblG := wdG (i := 647) (by decide +kernel) rfl
theorem wk_648 : Cond.methodLink "RopeTreaty" (219 : Nat) ⟨"RopeTreaty", "isSheet", "(I)Z"⟩ ∈ tblG := wdG (i := 648) (by decide +kernel) rfl
theorem wk_649 : Cond.static ⟨"RopeTreaty", "isSheet", "(I)Z"⟩ ∈ tblG := wdG (i := 649) (by decide +kernel) rfl
theorem wk_650 : Cond.code ⟨"RopeTreaty", "isSheet", "(I)Z"⟩ prog_1_method_47_code (1 : Nat) (Option.some Jvm.ClassFile.FieldType.boolean) ∈ tblG := wdG (i := 650) (by decide +kernel) rfl
theorem wk_651 : Cond.methodLink "RopeTreaty" (222 : Nat) ⟨"RopeTreaty$Row", "isMissing", "()Z"⟩ ∈ tblG := wdG (i := 651) (by decide +kernel) rfl
theorem wk_652 : Cond.instanceMethod ⟨"RopeTreaty$Row", "isMissing", "()Z"⟩ ∈ tblG := wdG (i := 652) (by decide +kernel) rfl
theorem wk_653 : Cond.selects "RopeTreaty$Row" ⟨"RopeTreaty$Row", "isMissing", "()Z"⟩ ⟨"RopeTreaty$Row", "isMissing", "()Z"⟩ ∈ tblG := wdG (i := 653) (by decide +kernel) rfl
theorem wk_654 : Cond.code ⟨"RopeTreaty$Row", "isMissing", "()Z"⟩ prog_4_method_2_code (1 : Nat) (Option.some Jvm.ClassFile.FieldType.boolean) ∈ tblG := wdG (i := 654) (by decide +kernel) rfl
theorem wk_655 : Cond.methodLink "RopeTreaty" (225 : Nat) ⟨"RopeTreaty$Rope", "breathsRight", "(LRopeTreaty$Row;)I"⟩ ∈ tblG := wdG (i := 655) (by decide +kernel) rfl
theorem wk_656 : Cond.instanceMethod ⟨"RopeTreaty$Rope", "breathsRight", "(LRopeTreaty$Row;)I"⟩ ∈ tblG := wdG (i := 656) (by decide +kernel) rfl
theorem wk_657 : Cond.selects "RopeTreaty$Rope" ⟨"RopeTreaty$Rope", "breathsRight", "(LRopeTreaty$Row;)I"⟩ ⟨"RopeTreaty$Rope", "breathsRight", "(LRopeTreaty$Row;)I"⟩ ∈ tblG := wdG (i := 657) (by decide +kernel) rfl
theorem wk_658 : Cond.code ⟨"RopeTreaty$Rope", "breathsRight", "(LRopeTreaty$Row;)I"⟩ prog_3_method_23_code (3 : Nat) (Option.some Jvm.ClassFile.FieldType.int) ∈ tblG := wdG (i := 658) (by decide +kernel) rfl
theorem wk_660 : Cond.instanceMethod ⟨"RopeTreaty", "voice", "(III)I"⟩ ∈ tblG := wdG (i := 660) (by decide +kernel) rfl
theorem wk_661 : Cond.selects "RopeTreaty" ⟨"RopeTreaty", "voice", "(III)I"⟩ ⟨"RopeTreaty", "voice", "(III)I"⟩ ∈ tblG := wdG (i := 661) (by decide +kernel) rfl
theorem wk_662 : Cond.code ⟨"RopeTreaty", "voice", "(III)I"⟩ prog_1_method_29_code (5 : Nat) (Option.some Jvm.ClassFile.FieldType.int) ∈ tblG := wdG (i := 662) (by decide +kernel) rfl
theorem wk_663 : Cond.methodLink "RopeTreaty" (230 : Nat) ⟨"RopeTreaty$Throat", "speak", "(IIIII)I"⟩ ∈ tblG := wdG (i := 663) (by decide +kernel) rfl
theorem wk_664 : Cond.instanceMethod ⟨"RopeTreaty$Throat", "speak", "(IIIII)I"⟩ ∈ tblG := wdG (i := 664) (by decide +kernel) rfl
theorem wk_665 : Cond.selects "RopeTreaty$Throat" ⟨"RopeTreaty$Throat", "speak", "(IIIII)I"⟩ ⟨"RopeTreaty$Throat", "speak", "(IIIII)I"⟩ ∈ tblG := wdG (i := 665) (by decide +kernel) rfl
theorem wk_666 : Cond.code ⟨"RopeTreaty$Throat", "speak", "(IIIII)I"⟩ prog_7_method_2_code (6 : Nat) (Option.some Jvm.ClassFile.FieldType.int) ∈ tblG := wdG (i := 666) (by decide +kernel) rfl
theorem wk_667 : Cond.methodLink "RopeTreaty$Throat" (32 : Nat) ⟨"RopeTreaty$Throat", "say", "(IIII)I"⟩ ∈ tblG := wdG (i := 667) (by decide +kernel) rfl
theorem wk_669 : Cond.instanceMethod ⟨"RopeTreaty$Throat", "say", "(IIII)I"⟩ ∈ tblG := wdG (i := 669) (by decide +kernel) rfl
theorem wk_670 : Cond.code ⟨"RopeTreaty$Throat", "say", "(IIII)I"⟩ prog_7_method_3_code (6 : Nat) (Option.some Jvm.ClassFile.FieldType.int) ∈ tblG := wdG (i := 670) (by decide +kernel) rfl
theorem wk_671 : Cond.methodLink "RopeTreaty$Throat" (36 : Nat) ⟨"RopeTreaty$Throat", "bodyOf", "(II)I"⟩ ∈ tblG := wdG (i := 671) (by decide +kernel) rfl
theorem wk_672 : Cond.static ⟨"RopeTreaty$Throat", "bodyOf", "(II)I"⟩ ∈ tblG := wdG (i := 672) (by decide +kernel) rfl
theorem wk_673 : Cond.code ⟨"RopeTreaty$Throat", "bodyOf", "(II)I"⟩ prog_7_method_4_code (4 : Nat) (Option.some Jvm.ClassFile.FieldType.int) ∈ tblG := wdG (i := 673) (by decide +kernel) rfl
theorem wk_675 : Cond.fieldLink "RopeTreaty$Throat" (48 : Nat) "RopeTreaty$Throat" "BODIES" "[I" ∈ tblG := wdG (i := 675) (by decide +kernel) rfl
theorem wk_678 : Cond.methodLink "RopeTreaty$Throat" (40 : Nat) ⟨"RopeTreaty$Throat", "work", "(III)I"⟩ ∈ tblG := wdG (i := 678) (by decide +kernel) rfl
theorem wk_680 : Cond.instanceMethod ⟨"RopeTreaty$Throat", "work", "(III)I"⟩ ∈ tblG := wdG (i := 680) (by decide +kernel) rfl
theorem wk_681 : Cond.code ⟨"RopeTreaty$Throat", "work", "(III)I"⟩ prog_7_method_5_code (4 : Nat) (Option.some Jvm.ClassFile.FieldType.int) ∈ tblG := wdG (i := 681) (by decide +kernel) rfl
theorem wk_682 : Cond.methodLink "RopeTreaty$Throat" (54 : Nat) ⟨"RopeTreaty$Throat", "part", "(I)I"⟩ ∈ tblG := wdG (i := 682) (by decide +kernel) rfl
theorem wk_684 : Cond.instanceMethod ⟨"RopeTreaty$Throat", "part", "(I)I"⟩ ∈ tblG := wdG (i := 684) (by decide +kernel) rfl
theorem wk_685 : Cond.code ⟨"RopeTreaty$Throat", "part", "(I)I"⟩ prog_7_method_6_code (3 : Nat) (Option.some Jvm.ClassFile.FieldType.int) ∈ tblG := wdG (i := 685) (by decide +kernel) rfl
theorem wk_687 : Cond.instanceMethod ⟨"RopeTreaty", "body", "(I)I"⟩ ∈ tblG := wdG (i := 687) (by decide +kernel) rfl
theorem wk_688 : Cond.selects "RopeTreaty" ⟨"RopeTreaty", "body", "(I)I"⟩ ⟨"RopeTreaty", "body", "(I)I"⟩ ∈ tblG := wdG (i := 688) (by decide +kernel) rfl
theorem wk_689 : Cond.code ⟨"RopeTreaty", "body", "(I)I"⟩ prog_1_method_30_code (2 : Nat) (Option.some Jvm.ClassFile.FieldType.int) ∈ tblG := wdG (i := 689) (by decide +kernel) rfl
theorem wk_691 : Cond.instanceMethod ⟨"RopeTreaty", "sheet", "(III)I"⟩ ∈ tblG := wdG (i := 691) (by decide +kernel) rfl
theorem wk_692 : Cond.selects "RopeTreaty" ⟨"RopeTreaty", "sheet", "(III)I"⟩ ⟨"RopeTreaty", "sheet", "(III)I"⟩ ∈ tblG := wdG (i := 692) (by decide +kernel) rfl
theorem wk_693 : Cond.code ⟨"RopeTreaty", "sheet", "(III)I"⟩ prog_1_method_31_code (4 : Nat) (Option.some Jvm.ClassFile.FieldType.int) ∈ tblG := wdG (i := 693) (by decide +kernel) rfl
theorem wk_694 : Cond.methodLink "RopeTreaty" (244 : Nat) ⟨"RopeTreaty", "isBits", "(I)Z"⟩ ∈ tblG := wdG (i := 694) (by decide +kernel) rfl
theorem wk_695 : Cond.static ⟨"RopeTreaty", "isBits", "(I)Z"⟩ ∈ tblG := wdG (i := 695) (by decide +kernel) rfl
theorem wk_696 : Cond.code ⟨"RopeTreaty", "isBits", "(I)Z"⟩ prog_1_method_48_code (1 : Nat) (Option.some Jvm.ClassFile.FieldType.boolean) ∈ tblG := wdG (i := 696) (by decide +kernel) rfl
theorem wk_697 : Cond.methodLink "RopeTreaty" (247 : Nat) ⟨"RopeTreaty$Row", "begin", "(II)V"⟩ ∈ tblG := wdG (i := 697) (by decide +kernel) rfl
theorem wk_698 : Cond.instanceMethod ⟨"RopeTreaty$Row", "begin", "(II)V"⟩ ∈ tblG := wdG (i := 698) (by decide +kernel) rfl
theorem wk_699 : Cond.selects "RopeTreaty$Row" ⟨"RopeTreaty$Row", "begin", "(II)V"⟩ ⟨"RopeTreaty$Row", "begin", "(II)V"⟩ ∈ tblG := wdG (i := 699) (by decide +kernel) rfl
theorem wk_700 : Cond.code ⟨"RopeTreaty$Row", "begin", "(II)V"⟩ prog_4_method_3_code (4 : Nat) (Option.none : Option Jvm.ClassFile.FieldType) ∈ tblG := wdG (i := 700) (by decide +kernel) rfl
theorem wk_702 : Cond.instanceMethod ⟨"RopeTreaty", "put", "(III)I"⟩ ∈ tblG := wdG (i := 702) (by decide +kernel) rfl
theorem wk_703 : Cond.selects "RopeTreaty" ⟨"RopeTreaty", "put", "(III)I"⟩ ⟨"RopeTreaty", "put", "(III)I"⟩ ∈ tblG := wdG (i := 703) (by decide +kernel) rfl
theorem wk_704 : Cond.code ⟨"RopeTreaty", "put", "(III)I"⟩ prog_1_method_32_code (4 : Nat) (Option.some Jvm.ClassFile.FieldType.int) ∈ tblG := wdG (i := 704) (by decide +kernel) rfl
theorem wk_705 : Cond.methodLink "RopeTreaty" (253 : Nat) ⟨"RopeTreaty$Row", "lowest", "(I)I"⟩ ∈ tblG := wdG (i := 705) (by decide +kernel) rfl
theorem wk_706 : Cond.instanceMethod ⟨"RopeTreaty$Row", "lowest", "(I)I"⟩ ∈ tblG := wdG (i := 706) (by decide +kernel) rfl
theorem wk_707 : Cond.selects "RopeTreaty$Row" ⟨"RopeTreaty$Row", "lowest", "(I)I"⟩ ⟨"RopeTreaty$Row", "lowest", "(I)I"⟩ ∈ tblG := wdG (i := 707) (by decide +kernel) rfl
theorem wk_708 : Cond.code ⟨"RopeTreaty$Row", "lowest", "(I)I"⟩ prog_4_method_4_code (2 : Nat) (Option.some Jvm.ClassFile.FieldType.int) ∈ tblG := wdG (i := 708) (by decide +kernel) rfl
theorem wk_710 : Cond.instanceMethod ⟨"RopeTreaty", "move", "(IIIII)I"⟩ ∈ tblG := wdG (i := 710) (by decide +kernel) rfl
theorem wk_711 : Cond.selects "RopeTreaty" ⟨"RopeTreaty", "move", "(IIIII)I"⟩ ⟨"RopeTreaty", "move", "(IIIII)I"⟩ ∈ tblG := wdG (i := 711) (by decide +kernel) rfl
theorem wk_712 : Cond.code ⟨"RopeTreaty", "move", "(IIIII)I"⟩ prog_1_method_33_code (8 : Nat) (Option.some Jvm.ClassFile.FieldType.int) ∈ tblG := wdG (i := 712) (by decide +kernel) rfl
theorem wk_713 : Cond.methodLink "RopeTreaty" (259 : Nat) ⟨"RopeTreaty$Row", "holds", "(II)Z"⟩ ∈ tblG := wdG (i := 713) (by decide +kernel) rfl
theorem wk_714 : Cond.instanceMethod ⟨"RopeTreaty$Row", "holds", "(II)Z"⟩ ∈ tblG := wdG (i := 714) (by decide +kernel) rfl
theorem wk_715 : Cond.selects "RopeTreaty$Row" ⟨"RopeTreaty$Row", "holds", "(II)Z"⟩ ⟨"RopeTreaty$Row", "holds", "(II)Z"⟩ ∈ tblG := wdG (i := 715) (by decide +kernel) rfl
theorem wk_716 : Cond.code ⟨"RopeTreaty$Row", "holds", "(II)Z"⟩ prog_4_method_5_code (3 : Nat) (Option.some Jvm.ClassFile.FieldType.boolean) ∈ tblG := wdG (i := 716) (by decide +kernel) rfl
theorem wk_717 : Cond.methodLink "RopeTreaty" (262 : Nat) ⟨"java/lang/System", "arraycopy", "(Ljava/lang/Object;ILjava/lang/Object;II)V"⟩ ∈ tblG := wdG (i := 717) (by decide +kernel) rfl
theorem wk_719 : Cond.instanceMethod ⟨"RopeTreaty", "breaths", "(I)I"⟩ ∈ tblG := wdG (i := 719) (by decide +kernel) rfl
theorem wk_720 : Cond.selects "RopeTreaty" ⟨"RopeTreaty", "breaths", "(I)I"⟩ ⟨"RopeTreaty", "breaths", "(I)I"⟩ ∈ tblG := wdG (i := 720) (by decide +kernel) rfl
theorem wk_721 : Cond.code ⟨"RopeTreaty", "breaths", "(I)I"⟩ prog_1_method_34_code (2 : Nat) (Option.some Jvm.ClassFile.FieldType.int) ∈ tblG := wdG (i := 721) (by decide +kernel) rfl
theorem wk_722 : Cond.methodLink "RopeTreaty" (268 : Nat) ⟨"RopeTreaty$Rope", "takeBreaths", "(LRopeTreaty$Row;)I"⟩ ∈ tblG := wdG (i := 722) (by decide +kernel) rfl
theorem wk_723 : Cond.instanceMethod ⟨"RopeTreaty$Rope", "takeBreaths", "(LRopeTreaty$Row;)I"⟩ ∈ tblG := wdG (i := 723) (by decide +kernel) rfl
theorem wk_724 : Cond.selects "RopeTreaty$Rope" ⟨"RopeTreaty$Rope", "takeBreaths", "(LRopeTreaty$Row;)I"⟩ ⟨"RopeTreaty$Rope", "takeBreaths", "(LRopeTreaty$Row;)I"⟩ ∈ tblG := wdG (i := 724) (by decide +kernel) rfl
theorem wk_725 : Cond.code ⟨"RopeTreaty$Rope", "takeBreaths", "(LRopeTreaty$Row;)I"⟩ prog_3_method_25_code (3 : Nat) (Option.some Jvm.ClassFile.FieldType.int) ∈ tblG := wdG (i := 725) (by decide +kernel) rfl
theorem wk_728 : Cond.instanceMethod ⟨"RopeTreaty", "judge", "(I)I"⟩ ∈ tblG := wdG (i := 728) (by decide +kernel) rfl
theorem wk_729 : Cond.selects "RopeTreaty" ⟨"RopeTreaty", "judge", "(I)I"⟩ ⟨"RopeTreaty", "judge", "(I)I"⟩ ∈ tblG := wdG (i := 729) (by decide +kernel) rfl
theorem wk_730 : Cond.code ⟨"RopeTreaty", "judge", "(I)I"⟩ prog_1_method_35_code (2 : Nat) (Option.some Jvm.ClassFile.FieldType.int) ∈ tblG := wdG (i := 730) (by decide +kernel) rfl
theorem wk_731 : Cond.methodLink "RopeTreaty" (271 : Nat) ⟨"RopeTreaty$Rope", "costsRight", "(LRopeTreaty$Row;)I"⟩ ∈ tblG := wdG (i := 731) (by decide +kernel) rfl
theorem wk_732 : Cond.instanceMethod ⟨"RopeTreaty$Rope", "costsRight", "(LRopeTreaty$Row;)I"⟩ ∈ tblG := wdG (i := 732) (by decide +kernel) rfl
theorem wk_733 : Cond.selects "RopeTreaty$Rope" ⟨"RopeTreaty$Rope", "costsRight", "(LRopeTreaty$Row;)I"⟩ ⟨"RopeTreaty$Rope", "costsRight", "(LRopeTreaty$Row;)I"⟩ ∈ tblG := wdG (i := 733) (by decide +kernel) rfl
theorem wk_734 : Cond.code ⟨"RopeTreaty$Rope", "costsRight", "(LRopeTreaty$Row;)I"⟩ prog_3_method_24_code (3 : Nat) (Option.some Jvm.ClassFile.FieldType.int) ∈ tblG := wdG (i := 734) (by decide +kernel) rfl
theorem wk_736 : Cond.instanceMethod ⟨"RopeTreaty", "image", "()I"⟩ ∈ tblG := wdG (i := 736) (by decide +kernel) rfl
theorem wk_737 : Cond.selects "RopeTreaty" ⟨"RopeTreaty", "image", "()I"⟩ ⟨"RopeTreaty", "image", "()I"⟩ ∈ tblG := wdG (i := 737) (by decide +kernel) rfl
theorem wk_738 : Cond.code ⟨"RopeTreaty", "image", "()I"⟩ prog_1_method_36_code (2 : Nat) (Option.some Jvm.ClassFile.FieldType.int) ∈ tblG := wdG (i := 738) (by decide +kernel) rfl
theorem wk_739 : Cond.methodLink "RopeTreaty" (274 : Nat) ⟨"RopeTreaty$Tape", "copy", "(LRopeTreaty$Tape;)V"⟩ ∈ tblG := wdG (i := 739) (by decide +kernel) rfl
theorem wk_740 : Cond.instanceMethod ⟨"RopeTreaty$Tape", "copy", "(LRopeTreaty$Tape;)V"⟩ ∈ tblG := wdG (i := 740) (by decide +kernel) rfl
theorem wk_741 : Cond.selects "RopeTreaty$Tape" ⟨"RopeTreaty$Tape", "copy", "(LRopeTreaty$Tape;)V"⟩ ⟨"RopeTreaty$Tape", "copy", "(LRopeTreaty$Tape;)V"⟩ ∈ tblG := wdG (i := 741) (by decide +kernel) rfl
theorem wk_742 : Cond.code ⟨"RopeTreaty$Tape", "copy", "(LRopeTreaty$Tape;)V"⟩ prog_5_method_3_code (2 : Nat) (Option.none : Option Jvm.ClassFile.FieldType) ∈ tblG := wdG (i := 742) (by decide +kernel) rfl
theorem wk_743 : Cond.methodLink "RopeTreaty$Tape" (19 : Nat) ⟨"java/lang/System", "arraycopy", "(Ljava/lang/Object;ILjava/lang/Object;II)V"⟩ ∈ tblG := wdG (i := 743) (by decide +kernel) rfl
theorem wk_744 : Cond.methodLink "RopeTreaty" (277 : Nat) ⟨"RopeTreaty$Row", "copy", "(LRopeTreaty$Row;)V"⟩ ∈ tblG := wdG (i := 744) (by decide +kernel) rfl
theorem wk_745 : Cond.instanceMethod ⟨"RopeTreaty$Row", "copy", "(LRopeTreaty$Row;)V"⟩ ∈ tblG := wdG (i := 745) (by decide +kernel) rfl
theorem wk_746 : Cond.selects "RopeTreaty$Row" ⟨"RopeTreaty$Row", "copy", "(LRopeTreaty$Row;)V"⟩ ⟨"RopeTreaty$Row", "copy", "(LRopeTreaty$Row;)V"⟩ ∈ tblG := wdG (i := 746) (by decide +kernel) rfl
theorem wk_747 : Cond.code ⟨"RopeTreaty$Row", "copy", "(LRopeTreaty$Row;)V"⟩ prog_4_method_6_code (2 : Nat) (Option.none : Option Jvm.ClassFile.FieldType) ∈ tblG := wdG (i := 747) (by decide +kernel) rfl
theorem wk_748 : Cond.methodLink "RopeTreaty$Row" (22 : Nat) ⟨"java/lang/System", "arraycopy", "(Ljava/lang/Object;ILjava/lang/Object;II)V"⟩ ∈ tblG := wdG (i := 748) (by decide +kernel) rfl
theorem wk_749 : Cond.methodLink "RopeTreaty" (280 : Nat) ⟨"RopeTreaty$Text", "copy", "(LRopeTreaty$Text;)V"⟩ ∈ tblG := wdG (i := 749) (by decide +kernel) rfl
theorem wk_750 : Cond.instanceMethod ⟨"RopeTreaty$Text", "copy", "(LRopeTreaty$Text;)V"⟩ ∈ tblG := wdG (i := 750) (by decide +kernel) rfl
theorem wk_751 : Cond.selects "RopeTreaty$Text" ⟨"RopeTreaty$Text", "copy", "(LRopeTreaty$Text;)V"⟩ ⟨"RopeTreaty$Text", "copy", "(LRopeTreaty$Text;)V"⟩ ∈ tblG := wdG (i := 751) (by decide +kernel) rfl
theorem wk_752 : Cond.code ⟨"RopeTreaty$Text", "copy", "(LRopeTreaty$Text;)V"⟩ prog_6_method_4_code (2 : Nat) (Option.none : Option Jvm.ClassFile.FieldType) ∈ tblG := wdG (i := 752) (by decide +kernel) rfl
theorem wk_753 : Cond.methodLink "RopeTreaty$Text" (31 : Nat) ⟨"RopeTreaty$Text", "learn", "([II)V"⟩ ∈ tblG := wdG (i := 753) (by decide +kernel) rfl
theorem wk_755 : Cond.instanceMethod ⟨"RopeTreaty", "restore", "()I"⟩ ∈ tblG := wdG (i := 755) (by decide +kernel) rfl
theorem wk_756 : Cond.selects "RopeTreaty" ⟨"RopeTreaty", "restore", "()I"⟩ ⟨"RopeTreaty", "restore", "()I"⟩ ∈ tblG := wdG (i := 756) (by decide +kernel) rfl
theorem wk_757 : Cond.code ⟨"RopeTreaty", "restore", "()I"⟩ prog_1_method_37_code (2 : Nat) (Option.some Jvm.ClassFile.FieldType.int) ∈ tblG := wdG (i := 757) (by decide +kernel) rfl
theorem wk_759 : Cond.instanceMethod ⟨"RopeTreaty", "tell", "(I)I"⟩ ∈ tblG := wdG (i := 759) (by decide +kernel) rfl
theorem wk_760 : Cond.selects "RopeTreaty" ⟨"RopeTreaty", "tell", "(I)I"⟩ ⟨"RopeTreaty", "tell", "(I)I"⟩ ∈ tblG := wdG (i := 760) (by decide +kernel) rfl
theorem wk_761 : Cond.code ⟨"RopeTreaty", "tell", "(I)I"⟩ prog_1_method_38_code (2 : Nat) (Option.some Jvm.ClassFile.FieldType.int) ∈ tblG := wdG (i := 761) (by decide +kernel) rfl
theorem wk_763 : Cond.instanceMethod ⟨"RopeTreaty", "check", "()I"⟩ ∈ tblG := wdG (i := 763) (by decide +kernel) rfl
theorem wk_764 : Cond.selects "RopeTreaty" ⟨"RopeTreaty", "check", "()I"⟩ ⟨"RopeTreaty", "check", "()I"⟩ ∈ tblG := wdG (i := 764) (by decide +kernel) rfl
theorem wk_765 : Cond.code ⟨"RopeTreaty", "check", "()I"⟩ prog_1_method_39_code (3 : Nat) (Option.some Jvm.ClassFile.FieldType.int) ∈ tblG := wdG (i := 765) (by decide +kernel) rfl
theorem wk_767 : Cond.instanceMethod ⟨"RopeTreaty", "count", "(I)I"⟩ ∈ tblG := wdG (i := 767) (by decide +kernel) rfl
theorem wk_768 : Cond.selects "RopeTreaty" ⟨"RopeTreaty", "count", "(I)I"⟩ ⟨"RopeTreaty", "count", "(I)I"⟩ ∈ tblG := wdG (i := 768) (by decide +kernel) rfl
theorem wk_769 : Cond.code ⟨"RopeTreaty", "count", "(I)I"⟩ prog_1_method_40_code (2 : Nat) (Option.some Jvm.ClassFile.FieldType.int) ∈ tblG := wdG (i := 769) (by decide +kernel) rfl
theorem wk_770 : Cond.methodLink "RopeTreaty" (286 : Nat) ⟨"RopeTreaty$Rope", "setIn", "()I"⟩ ∈ tblG := wdG (i := 770) (by decide +kernel) rfl
theorem wk_772 : Cond.instanceMethod ⟨"RopeTreaty", "told", "(I)I"⟩ ∈ tblG := wdG (i := 772) (by decide +kernel) rfl
theorem wk_773 : Cond.selects "RopeTreaty" ⟨"RopeTreaty", "told", "(I)I"⟩ ⟨"RopeTreaty", "told", "(I)I"⟩ ∈ tblG := wdG (i := 773) (by decide +kernel) rfl
theorem wk_774 : Cond.code ⟨"RopeTreaty", "told", "(I)I"⟩ prog_1_method_41_code (2 : Nat) (Option.some Jvm.ClassFile.FieldType.int) ∈ tblG := wdG (i := 774) (by decide +kernel) rfl
theorem wk_781 : Cond.fieldLink "RopeTreatyModel" (9 : Nat) "RopeTreatyModel" "row" "[I" ∈ tblG := wdG (i := 781) (by decide +kernel) rfl
theorem wk_782 : Cond.fieldLink "RopeTreatyModel" (13 : Nat) "RopeTreatyModel" "kept" "[I" ∈ tblG := wdG (i := 782) (by decide +kernel) rfl
theorem wk_783 : Cond.fieldLink "RopeTreatyModel" (16 : Nat) "RopeTreatyModel" "before" "[I" ∈ tblG := wdG (i := 783) (by decide +kernel) rfl
theorem wk_784 : Cond.fieldLink "RopeTreatyModel" (283 : Nat) "RopeTreatyModel" "images" "I" ∈ tblG := wdG (i := 784) (by decide +kernel) rfl
theorem wk_785 : Cond.fieldLink "RopeTreatyModel" (19 : Nat) "RopeTreatyModel" "errors" "[I" ∈ tblG := wdG (i := 785) (by decide +kernel) rfl
theorem wk_786 : Cond.fieldLink "RopeTreatyModel" (22 : Nat) "RopeTreatyModel" "bitsOf" "[I" ∈ tblG := wdG (i := 786) (by decide +kernel) rfl
theorem wk_787 : Cond.fieldLink "RopeTreatyModel" (25 : Nat) "RopeTreatyModel" "sizeOf" "[I" ∈ tblG := wdG (i := 787) (by decide +kernel) rfl
theorem wk_788 : Cond.fieldLink "RopeTreatyModel" (28 : Nat) "RopeTreatyModel" "cells" "[I" ∈ tblG := wdG (i := 788) (by decide +kernel) rfl
theorem wk_789 : Cond.fieldLink "RopeTreatyModel" (31 : Nat) "RopeTreatyModel" "act" "[I" ∈ tblG := wdG (i := 789) (by decide +kernel) rfl
theorem wk_790 : Cond.fieldLink "RopeTreatyModel" (34 : Nat) "RopeTreatyModel" "with" "[I" ∈ tblG := wdG (i := 790) (by decide +kernel) rfl
theorem wk_791 : Cond.fieldLink "RopeTreatyModel" (37 : Nat) "RopeTreatyModel" "facts" "[I" ∈ tblG := wdG (i := 791) (by decide +kernel) rfl
theorem wk_792 : Cond.fieldLink "RopeTreatyModel" (40 : Nat) "RopeTreatyModel" "pile" "[I" ∈ tblG := wdG (i := 792) (by decide +kernel) rfl
theorem wk_793 : Cond.fieldLink "RopeTreatyModel" (139 : Nat) "RopeTreatyModel" "laid" "I" ∈ tblG := wdG (i := 793) (by decide +kernel) rfl
theorem wk_794 : Cond.fieldLink "RopeTreatyModel" (135 : Nat) "RopeTreatyModel" "here" "I" ∈ tblG := wdG (i := 794) (by decide +kernel) rfl
theorem wk_795 : Cond.fieldLink "RopeTreatyModel" (156 : Nat) "RopeTreatyModel" "opened" "I" ∈ tblG := wdG (i := 795) (by decide +kernel) rfl
theorem wk_796 : Cond.fieldLink "RopeTreatyModel" (148 : Nat) "RopeTreatyModel" "bad" "Z" ∈ tblG := wdG (i := 796) (by decide +kernel) rfl
theorem wk_797 : Cond.fieldLink "RopeTreatyModel" (142 : Nat) "RopeTreatyModel" "using" "I" ∈ tblG := wdG (i := 797) (by decide +kernel) rfl
theorem wk_798 : Cond.fieldLink "RopeTreatyModel" (43 : Nat) "RopeTreatyModel" "costs" "[I" ∈ tblG := wdG (i := 798) (by decide +kernel) rfl
theorem wk_799 : Cond.fieldLink "RopeTreatyModel" (46 : Nat) "RopeTreatyModel" "trace" "[I" ∈ tblG := wdG (i := 799) (by decide +kernel) rfl
theorem wk_800 : Cond.fieldLink "RopeTreatyModel" (236 : Nat) "RopeTreatyModel" "traced" "I" ∈ tblG := wdG (i := 800) (by decide +kernel) rfl
theorem wk_801 : Cond.fieldLink "RopeTreatyModel" (263 : Nat) "RopeTreatyModel" "isParted" "Z" ∈ tblG := wdG (i := 801) (by decide +kernel) rfl
theorem wk_846 : Cond.instanceMethod ⟨"RopeTreatyModel", "jumper", "(III)I"⟩ ∈ tblG := wdG (i := 846) (by decide +kernel) rfl
theorem wk_847 : Cond.selects "RopeTreatyModel" ⟨"RopeTreatyModel", "jumper", "(III)I"⟩ ⟨"RopeTreatyModel", "jumper", "(III)I"⟩ ∈ tblG := wdG (i := 847) (by decide +kernel) rfl
theorem wk_848 : Cond.code ⟨"RopeTreatyModel", "jumper", "(III)I"⟩ prog_9_method_25_code (5 : Nat) (Option.some Jvm.ClassFile.FieldType.int) ∈ tblG := wdG (i := 848) (by decide +kernel) rfl
theorem wk_849 : Cond.methodLink "RopeTreatyModel" (94 : Nat) ⟨"RopeTreatyModel", "isKm", "(I)Z"⟩ ∈ tblG := wdG (i := 849) (by decide +kernel) rfl
theorem wk_850 : Cond.static ⟨"RopeTreatyModel", "isKm", "(I)Z"⟩ ∈ tblG := wdG (i := 850) (by decide +kernel) rfl
theorem wk_851 : Cond.code ⟨"RopeTreatyModel", "isKm", "(I)Z"⟩ prog_9_method_24_code (1 : Nat) (Option.some Jvm.ClassFile.FieldType.boolean) ∈ tblG := wdG (i := 851) (by decide +kernel) rfl
theorem wk_852 : Cond.methodLink "RopeTreatyModel" (54 : Nat) ⟨"RopeTreatyModel", "in", "(III)Z"⟩ ∈ tblG := wdG (i := 852) (by decide +kernel) rfl
theorem wk_853 : Cond.static ⟨"RopeTreatyModel", "in", "(III)Z"⟩ ∈ tblG := wdG (i := 853) (by decide +kernel) rfl
theorem wk_854 : Cond.code ⟨"RopeTreatyModel", "in", "(III)Z"⟩ prog_9_method_3_code (3 : Nat) (Option.some Jvm.ClassFile.FieldType.boolean) ∈ tblG := wdG (i := 854) (by decide +kernel) rfl
theorem wk_855 : Cond.constant "RopeTreatyModel" (97 : Nat) (-1000000001 : Int32) ∈ tblG := wdG (i := 855) (by decide +kernel) rfl
theorem wk_856 : Cond.methodLink "RopeTreatyModel" (98 : Nat) ⟨"RopeTreatyModel", "error", "(I)I"⟩ ∈ tblG := wdG (i := 856) (by decide +kernel) rfl
theorem wk_858 : Cond.instanceMethod ⟨"RopeTreatyModel", "error", "(I)I"⟩ ∈ tblG := wdG (i := 858) (by decide +kernel) rfl
theorem wk_859 : Cond.code ⟨"RopeTreatyModel", "error", "(I)I"⟩ prog_9_method_2_code (2 : Nat) (Option.some Jvm.ClassFile.FieldType.int) ∈ tblG := wdG (i := 859) (by decide +kernel) rfl
theorem wk_860 : Cond.constant "RopeTreatyModel" (49 : Nat) (-1000000000 : Int32) ∈ tblG := wdG (i := 860) (by decide +kernel) rfl
theorem wk_861 : Cond.constant "RopeTreatyModel" (101 : Nat) (-1000000004 : Int32) ∈ tblG := wdG (i := 861) (by decide +kernel) rfl
theorem wk_862 : Cond.methodLink "RopeTreatyModel" (102 : Nat) ⟨"RopeTreatyModel", "lets", "(III)V"⟩ ∈ tblG := wdG (i := 862) (by decide +kernel) rfl
theorem wk_864 : Cond.instanceMethod ⟨"RopeTreatyModel", "lets", "(III)V"⟩ ∈ tblG := wdG (i := 864) (by decide +kernel) rfl
theorem wk_865 : Cond.code ⟨"RopeTreatyModel", "lets", "(III)V"⟩ prog_9_method_13_code (4 : Nat) (Option.none : Option Jvm.ClassFile.FieldType) ∈ tblG := wdG (i := 865) (by decide +kernel) rfl
theorem wk_867 : Cond.instanceMethod ⟨"RopeTreatyModel", "jumperIs", "(II)I"⟩ ∈ tblG := wdG (i := 867) (by decide +kernel) rfl
theorem wk_868 : Cond.selects "RopeTreatyModel" ⟨"RopeTreatyModel", "jumperIs", "(II)I"⟩ ⟨"RopeTreatyModel", "jumperIs", "(II)I"⟩ ∈ tblG := wdG (i := 868) (by decide +kernel) rfl
theorem wk_869 : Cond.code ⟨"RopeTreatyModel", "jumperIs", "(II)I"⟩ prog_9_method_26_code (3 : Nat) (Option.some Jvm.ClassFile.FieldType.int) ∈ tblG := wdG (i := 869) (by decide +kernel) rfl
theorem wk_870 : Cond.methodLink "RopeTreatyModel" (106 : Nat) ⟨"RopeTreatyModel", "isJumper", "(I)Z"⟩ ∈ tblG := wdG (i := 870) (by decide +kernel) rfl
theorem wk_872 : Cond.instanceMethod ⟨"RopeTreatyModel", "isJumper", "(I)Z"⟩ ∈ tblG := wdG (i := 872) (by decide +kernel) rfl
theorem wk_873 : Cond.code ⟨"RopeTreatyModel", "isJumper", "(I)Z"⟩ prog_9_method_9_code (2 : Nat) (Option.some Jvm.ClassFile.FieldType.boolean) ∈ tblG := wdG (i := 873) (by decide +kernel) rfl
theorem wk_874 : Cond.methodLink "RopeTreatyModel" (58 : Nat) ⟨"RopeTreatyModel", "of", "(II)I"⟩ ∈ tblG := wdG (i := 874) (by decide +kernel) rfl
theorem wk_876 : Cond.instanceMethod ⟨"RopeTreatyModel", "of", "(II)I"⟩ ∈ tblG := wdG (i := 876) (by decide +kernel) rfl
theorem wk_877 : Cond.code ⟨"RopeTreatyModel", "of", "(II)I"⟩ prog_9_method_12_code (3 : Nat) (Option.some Jvm.ClassFile.FieldType.int) ∈ tblG := wdG (i := 877) (by decide +kernel) rfl
theorem wk_878 : Cond.methodLink "RopeTreatyModel" (109 : Nat) ⟨"RopeTreatyModel", "costsOf", "(I)I"⟩ ∈ tblG := wdG (i := 878) (by decide +kernel) rfl
theorem wk_880 : Cond.instanceMethod ⟨"RopeTreatyModel", "costsOf", "(I)I"⟩ ∈ tblG := wdG (i := 880) (by decide +kernel) rfl
theorem wk_881 : Cond.code ⟨"RopeTreatyModel", "costsOf", "(I)I"⟩ prog_9_method_19_code (2 : Nat) (Option.some Jvm.ClassFile.FieldType.int) ∈ tblG := wdG (i := 881) (by decide +kernel) rfl
theorem wk_882 : Cond.methodLink "RopeTreatyModel" (77 : Nat) ⟨"RopeTreatyModel", "takesOf", "(I)I"⟩ ∈ tblG := wdG (i := 882) (by decide +kernel) rfl
theorem wk_884 : Cond.instanceMethod ⟨"RopeTreatyModel", "takesOf", "(I)I"⟩ ∈ tblG := wdG (i := 884) (by decide +kernel) rfl
theorem wk_885 : Cond.code ⟨"RopeTreatyModel", "takesOf", "(I)I"⟩ prog_9_method_18_code (3 : Nat) (Option.some Jvm.ClassFile.FieldType.int) ∈ tblG := wdG (i := 885) (by decide +kernel) rfl
theorem wk_886 : Cond.methodLink "RopeTreatyModel" (66 : Nat) ⟨"RopeTreatyModel", "word", "()I"⟩ ∈ tblG := wdG (i := 886) (by decide +kernel) rfl
theorem wk_888 : Cond.instanceMethod ⟨"RopeTreatyModel", "word", "()I"⟩ ∈ tblG := wdG (i := 888) (by decide +kernel) rfl
theorem wk_889 : Cond.code ⟨"RopeTreatyModel", "word", "()I"⟩ prog_9_method_16_code (1 : Nat) (Option.some Jvm.ClassFile.FieldType.int) ∈ tblG := wdG (i := 889) (by decide +kernel) rfl
theorem wk_890 : Cond.methodLink "RopeTreatyModel" (70 : Nat) ⟨"RopeTreatyModel", "allIn", "()I"⟩ ∈ tblG := wdG (i := 890) (by decide +kernel) rfl
theorem wk_892 : Cond.instanceMethod ⟨"RopeTreatyModel", "allIn", "()I"⟩ ∈ tblG := wdG (i := 892) (by decide +kernel) rfl
theorem wk_893 : Cond.code ⟨"RopeTreatyModel", "allIn", "()I"⟩ prog_9_method_15_code (3 : Nat) (Option.some Jvm.ClassFile.FieldType.int) ∈ tblG := wdG (i := 893) (by decide +kernel) rfl
theorem wk_894 : Cond.methodLink "RopeTreatyModel" (62 : Nat) ⟨"RopeTreatyModel", "isIn", "(I)Z"⟩ ∈ tblG := wdG (i := 894) (by decide +kernel) rfl
theorem wk_896 : Cond.instanceMethod ⟨"RopeTreatyModel", "isIn", "(I)Z"⟩ ∈ tblG := wdG (i := 896) (by decide +kernel) rfl
theorem wk_897 : Cond.code ⟨"RopeTreatyModel", "isIn", "(I)Z"⟩ prog_9_method_14_code (2 : Nat) (Option.some Jvm.ClassFile.FieldType.boolean) ∈ tblG := wdG (i := 897) (by decide +kernel) rfl
theorem wk_898 : Cond.methodLink "RopeTreatyModel" (73 : Nat) ⟨"RopeTreatyModel", "bits", "(I)I"⟩ ∈ tblG := wdG (i := 898) (by decide +kernel) rfl
theorem wk_899 : Cond.static ⟨"RopeTreatyModel", "bits", "(I)I"⟩ ∈ tblG := wdG (i := 899) (by decide +kernel) rfl
theorem wk_900 : Cond.code ⟨"RopeTreatyModel", "bits", "(I)I"⟩ prog_9_method_8_code (3 : Nat) (Option.some Jvm.ClassFile.FieldType.int) ∈ tblG := wdG (i := 900) (by decide +kernel) rfl
theorem wk_901 : Cond.methodLink "RopeTreatyModel" (80 : Nat) ⟨"RopeTreatyModel", "gives", "(IIII)I"⟩ ∈ tblG := wdG (i := 901) (by decide +kernel) rfl
theorem wk_903 : Cond.instanceMethod ⟨"RopeTreatyModel", "gives", "(IIII)I"⟩ ∈ tblG := wdG (i := 903) (by decide +kernel) rfl
theorem wk_904 : Cond.code ⟨"RopeTreatyModel", "gives", "(IIII)I"⟩ prog_9_method_53_code (7 : Nat) (Option.some Jvm.ClassFile.FieldType.int) ∈ tblG := wdG (i := 904) (by decide +kernel) rfl
theorem wk_905 : Cond.methodLink "RopeTreatyModel" (191 : Nat) ⟨"RopeTreatyModel", "works", "(I)I"⟩ ∈ tblG := wdG (i := 905) (by decide +kernel) rfl
theorem wk_907 : Cond.instanceMethod ⟨"RopeTreatyModel", "works", "(I)I"⟩ ∈ tblG := wdG (i := 907) (by decide +kernel) rfl
theorem wk_908 : Cond.code ⟨"RopeTreatyModel", "works", "(I)I"⟩ prog_9_method_52_code (5 : Nat) (Option.some Jvm.ClassFile.FieldType.int) ∈ tblG := wdG (i := 908) (by decide +kernel) rfl
theorem wk_909 : Cond.methodLink "RopeTreatyModel" (187 : Nat) ⟨"RopeTreatyModel", "twoOf", "(III)I"⟩ ∈ tblG := wdG (i := 909) (by decide +kernel) rfl
theorem wk_910 : Cond.static ⟨"RopeTreatyModel", "twoOf", "(III)I"⟩ ∈ tblG := wdG (i := 910) (by decide +kernel) rfl
theorem wk_911 : Cond.code ⟨"RopeTreatyModel", "twoOf", "(III)I"⟩ prog_9_method_51_code (3 : Nat) (Option.some Jvm.ClassFile.FieldType.int) ∈ tblG := wdG (i := 911) (by decide +kernel) rfl
theorem wk_912 : Cond.methodLink "RopeTreatyModel" (194 : Nat) ⟨"RopeTreatyModel", "held", "(III)I"⟩ ∈ tblG := wdG (i := 912) (by decide +kernel) rfl
theorem wk_913 : Cond.static ⟨"RopeTreatyModel", "held", "(III)I"⟩ ∈ tblG := wdG (i := 913) (by decide +kernel) rfl
theorem wk_914 : Cond.code ⟨"RopeTreatyModel", "held", "(III)I"⟩ prog_9_method_4_code (3 : Nat) (Option.some Jvm.ClassFile.FieldType.int) ∈ tblG := wdG (i := 914) (by decide +kernel) rfl
theorem wk_916 : Cond.instanceMethod ⟨"RopeTreatyModel", "become", "(II)I"⟩ ∈ tblG := wdG (i := 916) (by decide +kernel) rfl
theorem wk_917 : Cond.selects "RopeTreatyModel" ⟨"RopeTreatyModel", "become", "(II)I"⟩ ⟨"RopeTreatyModel", "become", "(II)I"⟩ ∈ tblG := wdG (i := 917) (by decide +kernel) rfl
theorem wk_918 : Cond.code ⟨"RopeTreatyModel", "become", "(II)I"⟩ prog_9_method_27_code (3 : Nat) (Option.some Jvm.ClassFile.FieldType.int) ∈ tblG := wdG (i := 918) (by decide +kernel) rfl
theorem wk_919 : Cond.methodLink "RopeTreatyModel" (112 : Nat) ⟨"RopeTreatyModel", "becomes", "(II)I"⟩ ∈ tblG := wdG (i := 919) (by decide +kernel) rfl
theorem wk_921 : Cond.instanceMethod ⟨"RopeTreatyModel", "becomes", "(II)I"⟩ ∈ tblG := wdG (i := 921) (by decide +kernel) rfl
theorem wk_922 : Cond.code ⟨"RopeTreatyModel", "becomes", "(II)I"⟩ prog_9_method_11_code (4 : Nat) (Option.some Jvm.ClassFile.FieldType.int) ∈ tblG := wdG (i := 922) (by decide +kernel) rfl
theorem wk_924 : Cond.instanceMethod ⟨"RopeTreatyModel", "as", "(II)I"⟩ ∈ tblG := wdG (i := 924) (by decide +kernel) rfl
theorem wk_925 : Cond.selects "RopeTreatyModel" ⟨"RopeTreatyModel", "as", "(II)I"⟩ ⟨"RopeTreatyModel", "as", "(II)I"⟩ ∈ tblG := wdG (i := 925) (by decide +kernel) rfl
theorem wk_926 : Cond.code ⟨"RopeTreatyModel", "as", "(II)I"⟩ prog_9_method_28_code (5 : Nat) (Option.some Jvm.ClassFile.FieldType.int) ∈ tblG := wdG (i := 926) (by decide +kernel) rfl
theorem wk_927 : Cond.constant "RopeTreatyModel" (115 : Nat) (-1000000005 : Int32) ∈ tblG := wdG (i := 927) (by decide +kernel) rfl
theorem wk_929 : Cond.instanceMethod ⟨"RopeTreatyModel", "jump", "(II)I"⟩ ∈ tblG := wdG (i := 929) (by decide +kernel) rfl
theorem wk_930 : Cond.selects "RopeTreatyModel" ⟨"RopeTreatyModel", "jump", "(II)I"⟩ ⟨"RopeTreatyModel", "jump", "(II)I"⟩ ∈ tblG := wdG (i := 930) (by decide +kernel) rfl
theorem wk_931 : Cond.code ⟨"RopeTreatyModel", "jump", "(II)I"⟩ prog_9_method_29_code (3 : Nat) (Option.some Jvm.ClassFile.FieldType.int) ∈ tblG := wdG (i := 931) (by decide +kernel) rfl
theorem wk_932 : Cond.methodLink "RopeTreatyModel" (116 : Nat) ⟨"RopeTreatyModel", "doesTurn", "()Z"⟩ ∈ tblG := wdG (i := 932) (by decide +kernel) rfl
theorem wk_934 : Cond.instanceMethod ⟨"RopeTreatyModel", "doesTurn", "()Z"⟩ ∈ tblG := wdG (i := 934) (by decide +kernel) rfl
theorem wk_935 : Cond.code ⟨"RopeTreatyModel", "doesTurn", "()Z"⟩ prog_9_method_17_code (1 : Nat) (Option.some Jvm.ClassFile.FieldType.boolean) ∈ tblG := wdG (i := 935) (by decide +kernel) rfl
theorem wk_936 : Cond.constant "RopeTreatyModel" (120 : Nat) (-1000000003 : Int32) ∈ tblG := wdG (i := 936) (by decide +kernel) rfl
theorem wk_938 : Cond.instanceMethod ⟨"RopeTreatyModel", "rest", "(II)I"⟩ ∈ tblG := wdG (i := 938) (by decide +kernel) rfl
theorem wk_939 : Cond.selects "RopeTreatyModel" ⟨"RopeTreatyModel", "rest", "(II)I"⟩ ⟨"RopeTreatyModel", "rest", "(II)I"⟩ ∈ tblG := wdG (i := 939) (by decide +kernel) rfl
theorem wk_940 : Cond.code ⟨"RopeTreatyModel", "rest", "(II)I"⟩ prog_9_method_30_code (3 : Nat) (Option.some Jvm.ClassFile.FieldType.int) ∈ tblG := wdG (i := 940) (by decide +kernel) rfl
theorem wk_942 : Cond.instanceMethod ⟨"RopeTreatyModel", "spell", "(II)I"⟩ ∈ tblG := wdG (i := 942) (by decide +kernel) rfl
theorem wk_943 : Cond.selects "RopeTreatyModel" ⟨"RopeTreatyModel", "spell", "(II)I"⟩ ⟨"RopeTreatyModel", "spell", "(II)I"⟩ ∈ tblG := wdG (i := 943) (by decide +kernel) rfl
theorem wk_944 : Cond.code ⟨"RopeTreatyModel", "spell", "(II)I"⟩ prog_9_method_31_code (3 : Nat) (Option.some Jvm.ClassFile.FieldType.int) ∈ tblG := wdG (i := 944) (by decide +kernel) rfl
theorem wk_946 : Cond.instanceMethod ⟨"RopeTreatyModel", "bar", "(I)I"⟩ ∈ tblG := wdG (i := 946) (by decide +kernel) rfl
theorem wk_947 : Cond.selects "RopeTreatyModel" ⟨"RopeTreatyModel", "bar", "(I)I"⟩ ⟨"RopeTreatyModel", "bar", "(I)I"⟩ ∈ tblG := wdG (i := 947) (by decide +kernel) rfl
theorem wk_948 : Cond.code ⟨"RopeTreatyModel", "bar", "(I)I"⟩ prog_9_method_32_code (2 : Nat) (Option.some Jvm.ClassFile.FieldType.int) ∈ tblG := wdG (i := 948) (by decide +kernel) rfl
theorem wk_950 : Cond.instanceMethod ⟨"RopeTreatyModel", "liking", "(II)I"⟩ ∈ tblG := wdG (i := 950) (by decide +kernel) rfl
theorem wk_951 : Cond.selects "RopeTreatyModel" ⟨"RopeTreatyModel", "liking", "(II)I"⟩ ⟨"RopeTreatyModel", "liking", "(II)I"⟩ ∈ tblG := wdG (i := 951) (by decide +kernel) rfl
theorem wk_952 : Cond.code ⟨"RopeTreatyModel", "liking", "(II)I"⟩ prog_9_method_33_code (3 : Nat) (Option.some Jvm.ClassFile.FieldType.int) ∈ tblG := wdG (i := 952) (by decide +kernel) rfl
theorem wk_953 : Cond.methodLink "RopeTreatyModel" (121 : Nat) ⟨"RopeTreatyModel", "isTreaty", "(I)Z"⟩ ∈ tblG := wdG (i := 953) (by decide +kernel) rfl
theorem wk_954 : Cond.static ⟨"RopeTreatyModel", "isTreaty", "(I)Z"⟩ ∈ tblG := wdG (i := 954) (by decide +kernel) rfl
theorem wk_955 : Cond.code ⟨"RopeTreatyModel", "isTreaty", "(I)Z"⟩ prog_9_method_10_code (1 : Nat) (Option.some Jvm.ClassFile.FieldType.boolean) ∈ tblG := wdG (i := 955) (by decide +kernel) rfl
theorem wk_956 : Cond.methodLink "RopeTreatyModel" (87 : Nat) ⟨"RopeTreatyModel", "likesOf", "(II)I"⟩ ∈ tblG := wdG (i := 956) (by decide +kernel) rfl
theorem wk_958 : Cond.instanceMethod ⟨"RopeTreatyModel", "likesOf", "(II)I"⟩ ∈ tblG := wdG (i := 958) (by decide +kernel) rfl
theorem wk_959 : Cond.code ⟨"RopeTreatyModel", "likesOf", "(II)I"⟩ prog_9_method_21_code (3 : Nat) (Option.some Jvm.ClassFile.FieldType.int) ∈ tblG := wdG (i := 959) (by decide +kernel) rfl
theorem wk_960 : Cond.methodLink "RopeTreatyModel" (84 : Nat) ⟨"RopeTreatyModel", "leansOf", "(II)I"⟩ ∈ tblG := wdG (i := 960) (by decide +kernel) rfl
theorem wk_962 : Cond.instanceMethod ⟨"RopeTreatyModel", "leansOf", "(II)I"⟩ ∈ tblG := wdG (i := 962) (by decide +kernel) rfl
theorem wk_963 : Cond.code ⟨"RopeTreatyModel", "leansOf", "(II)I"⟩ prog_9_method_20_code (6 : Nat) (Option.some Jvm.ClassFile.FieldType.int) ∈ tblG := wdG (i := 963) (by decide +kernel) rfl
theorem wk_965 : Cond.instanceMethod ⟨"RopeTreatyModel", "talk", "(II)I"⟩ ∈ tblG := wdG (i := 965) (by decide +kernel) rfl
theorem wk_966 : Cond.selects "RopeTreatyModel" ⟨"RopeTreatyModel", "talk", "(II)I"⟩ ⟨"RopeTreatyModel", "talk", "(II)I"⟩ ∈ tblG := wdG (i := 966) (by decide +kernel) rfl
theorem wk_967 : Cond.code ⟨"RopeTreatyModel", "talk", "(II)I"⟩ prog_9_method_36_code (3 : Nat) (Option.some Jvm.ClassFile.FieldType.int) ∈ tblG := wdG (i := 967) (by decide +kernel) rfl
theorem wk_968 : Cond.methodLink "RopeTreatyModel" (127 : Nat) ⟨"RopeTreatyModel", "mayTalk", "(I)Z"⟩ ∈ tblG := wdG (i := 968) (by decide +kernel) rfl
theorem wk_970 : Cond.instanceMethod ⟨"RopeTreatyModel", "mayTalk", "(I)Z"⟩ ∈ tblG := wdG (i := 970) (by decide +kernel) rfl
theorem wk_971 : Cond.code ⟨"RopeTreatyModel", "mayTalk", "(I)Z"⟩ prog_9_method_34_code (2 : Nat) (Option.some Jvm.ClassFile.FieldType.boolean) ∈ tblG := wdG (i := 971) (by decide +kernel) rfl
theorem wk_972 : Cond.methodLink "RopeTreatyModel" (130 : Nat) ⟨"RopeTreatyModel", "talks", "(I)Z"⟩ ∈ tblG := wdG (i := 972) (by decide +kernel) rfl
theorem wk_974 : Cond.instanceMethod ⟨"RopeTreatyModel", "talks", "(I)Z"⟩ ∈ tblG := wdG (i := 974) (by decide +kernel) rfl
theorem wk_975 : Cond.code ⟨"RopeTreatyModel", "talks", "(I)Z"⟩ prog_9_method_35_code (3 : Nat) (Option.some Jvm.ClassFile.FieldType.boolean) ∈ tblG := wdG (i := 975) (by decide +kernel) rfl
theorem wk_976 : Cond.methodLink "RopeTreatyModel" (124 : Nat) ⟨"RopeTreatyModel", "isTaken", "(I)Z"⟩ ∈ tblG := wdG (i := 976) (by decide +kernel) rfl
theorem wk_978 : Cond.instanceMethod ⟨"RopeTreatyModel", "isTaken", "(I)Z"⟩ ∈ tblG := wdG (i := 978) (by decide +kernel) rfl
theorem wk_979 : Cond.code ⟨"RopeTreatyModel", "isTaken", "(I)Z"⟩ prog_9_method_23_code (4 : Nat) (Option.some Jvm.ClassFile.FieldType.boolean) ∈ tblG := wdG (i := 979) (by decide +kernel) rfl
theorem wk_980 : Cond.methodLink "RopeTreatyModel" (90 : Nat) ⟨"RopeTreatyModel", "doesTake", "(II)Z"⟩ ∈ tblG := wdG (i := 980) (by decide +kernel) rfl
theorem wk_982 : Cond.instanceMethod ⟨"RopeTreatyModel", "doesTake", "(II)Z"⟩ ∈ tblG := wdG (i := 982) (by decide +kernel) rfl
theorem wk_983 : Cond.code ⟨"RopeTreatyModel", "doesTake", "(II)Z"⟩ prog_9_method_22_code (3 : Nat) (Option.some Jvm.ClassFile.FieldType.boolean) ∈ tblG := wdG (i := 983) (by decide +kernel) rfl
theorem wk_985 : Cond.instanceMethod ⟨"RopeTreatyModel", "feed", "(JI)I"⟩ ∈ tblG := wdG (i := 985) (by decide +kernel) rfl
theorem wk_986 : Cond.selects "RopeTreatyModel" ⟨"RopeTreatyModel", "feed", "(JI)I"⟩ ⟨"RopeTreatyModel", "feed", "(JI)I"⟩ ∈ tblG := wdG (i := 986) (by decide +kernel) rfl
theorem wk_987 : Cond.code ⟨"RopeTreatyModel", "feed", "(JI)I"⟩ prog_9_method_37_code (5 : Nat) (Option.some Jvm.ClassFile.FieldType.int) ∈ tblG := wdG (i := 987) (by decide +kernel) rfl
theorem wk_988 : Cond.constantLong "RopeTreatyModel" (133 : Nat) (255 : Int64) ∈ tblG := wdG (i := 988) (by decide +kernel) rfl
theorem wk_990 : Cond.instanceMethod ⟨"RopeTreatyModel", "text", "(I)I"⟩ ∈ tblG := wdG (i := 990) (by decide +kernel) rfl
theorem wk_991 : Cond.selects "RopeTreatyModel" ⟨"RopeTreatyModel", "text", "(I)I"⟩ ⟨"RopeTreatyModel", "text", "(I)I"⟩ ∈ tblG := wdG (i := 991) (by decide +kernel) rfl
theorem wk_992 : Cond.code ⟨"RopeTreatyModel", "text", "(I)I"⟩ prog_9_method_49_code (4 : Nat) (Option.some Jvm.ClassFile.FieldType.int) ∈ tblG := wdG (i := 992) (by decide +kernel) rfl
theorem wk_993 : Cond.methodLink "RopeTreatyModel" (162 : Nat) ⟨"RopeTreatyModel", "any", "()V"⟩ ∈ tblG := wdG (i := 993) (by decide +kernel) rfl
theorem wk_995 : Cond.instanceMethod ⟨"RopeTreatyModel", "any", "()V"⟩ ∈ tblG := wdG (i := 995) (by decide +kernel) rfl
theorem wk_996 : Cond.code ⟨"RopeTreatyModel", "any", "()V"⟩ prog_9_method_48_code (1 : Nat) (Option.none : Option Jvm.ClassFile.FieldType) ∈ tblG := wdG (i := 996) (by decide +kernel) rfl
theorem wk_997 : Cond.methodLink "RopeTreatyModel" (184 : Nat) ⟨"RopeTreatyModel", "all", "()V"⟩ ∈ tblG := wdG (i := 997) (by decide +kernel) rfl
theorem wk_999 : Cond.instanceMethod ⟨"RopeTreatyModel", "all", "()V"⟩ ∈ tblG := wdG (i := 999) (by decide +kernel) rfl
theorem wk_1000 : Cond.code ⟨"RopeTreatyModel", "all", "()V"⟩ prog_9_method_47_code (1 : Nat) (Option.none : Option Jvm.ClassFile.FieldType) ∈ tblG := wdG (i := 1000) (by decide +kernel) rfl
theorem wk_1001 : Cond.methodLink "RopeTreatyModel" (181 : Nat) ⟨"RopeTreatyModel", "compares", "()V"⟩ ∈ tblG := wdG (i := 1001) (by decide +kernel) rfl
theorem wk_1003 : Cond.instanceMethod ⟨"RopeTreatyModel", "compares", "()V"⟩ ∈ tblG := wdG (i := 1003) (by decide +kernel) rfl
theorem wk_1004 : Cond.code ⟨"RopeTreatyModel", "compares", "()V"⟩ prog_9_method_46_code (2 : Nat) (Option.none : Option Jvm.ClassFile.FieldType) ∈ tblG := wdG (i := 1004) (by decide +kernel) rfl
theorem wk_1005 : Cond.methodLink "RopeTreatyModel" (178 : Nat) ⟨"RopeTreatyModel", "sum", "()V"⟩ ∈ tblG := wdG (i := 1005) (by decide +kernel) rfl
theorem wk_1007 : Cond.instanceMethod ⟨"RopeTreatyModel", "sum", "()V"⟩ ∈ tblG := wdG (i := 1007) (by decide +kernel) rfl
theorem wk_1008 : Cond.code ⟨"RopeTreatyModel", "sum", "()V"⟩ prog_9_method_45_code (2 : Nat) (Option.none : Option Jvm.ClassFile.FieldType) ∈ tblG := wdG (i := 1008) (by decide +kernel) rfl
theorem wk_1009 : Cond.methodLink "RopeTreatyModel" (175 : Nat) ⟨"RopeTreatyModel", "times", "()V"⟩ ∈ tblG := wdG (i := 1009) (by decide +kernel) rfl
theorem wk_1011 : Cond.instanceMethod ⟨"RopeTreatyModel", "times", "()V"⟩ ∈ tblG := wdG (i := 1011) (by decide +kernel) rfl
theorem wk_1012 : Cond.code ⟨"RopeTreatyModel", "times", "()V"⟩ prog_9_method_44_code (2 : Nat) (Option.none : Option Jvm.ClassFile.FieldType) ∈ tblG := wdG (i := 1012) (by decide +kernel) rfl
theorem wk_1013 : Cond.methodLink "RopeTreatyModel" (159 : Nat) ⟨"RopeTreatyModel", "one", "()V"⟩ ∈ tblG := wdG (i := 1013) (by decide +kernel) rfl
theorem wk_1015 : Cond.instanceMethod ⟨"RopeTreatyModel", "one", "()V"⟩ ∈ tblG := wdG (i := 1015) (by decide +kernel) rfl
theorem wk_1016 : Cond.code ⟨"RopeTreatyModel", "one", "()V"⟩ prog_9_method_43_code (3 : Nat) (Option.none : Option Jvm.ClassFile.FieldType) ∈ tblG := wdG (i := 1016) (by decide +kernel) rfl
theorem wk_1017 : Cond.methodLink "RopeTreatyModel" (145 : Nat) ⟨"RopeTreatyModel", "look", "()I"⟩ ∈ tblG := wdG (i := 1017) (by decide +kernel) rfl
theorem wk_1019 : Cond.instanceMethod ⟨"RopeTreatyModel", "look", "()I"⟩ ∈ tblG := wdG (i := 1019) (by decide +kernel) rfl
theorem wk_1020 : Cond.code ⟨"RopeTreatyModel", "look", "()I"⟩ prog_9_method_38_code (1 : Nat) (Option.some Jvm.ClassFile.FieldType.int) ∈ tblG := wdG (i := 1020) (by decide +kernel) rfl
theorem wk_1021 : Cond.methodLink "RopeTreatyModel" (165 : Nat) ⟨"RopeTreatyModel", "nameOf", "(I)I"⟩ ∈ tblG := wdG (i := 1021) (by decide +kernel) rfl
theorem wk_1023 : Cond.instanceMethod ⟨"RopeTreatyModel", "nameOf", "(I)I"⟩ ∈ tblG := wdG (i := 1023) (by decide +kernel) rfl
theorem wk_1024 : Cond.code ⟨"RopeTreatyModel", "nameOf", "(I)I"⟩ prog_9_method_40_code (2 : Nat) (Option.some Jvm.ClassFile.FieldType.int) ∈ tblG := wdG (i := 1024) (by decide +kernel) rfl
theorem wk_1025 : Cond.methodLink "RopeTreatyModel" (152 : Nat) ⟨"RopeTreatyModel", "lays", "(II)V"⟩ ∈ tblG := wdG (i := 1025) (by decide +kernel) rfl
theorem wk_1027 : Cond.instanceMethod ⟨"RopeTreatyModel", "lays", "(II)V"⟩ ∈ tblG := wdG (i := 1027) (by decide +kernel) rfl
theorem wk_1028 : Cond.code ⟨"RopeTreatyModel", "lays", "(II)V"⟩ prog_9_method_39_code (3 : Nat) (Option.none : Option Jvm.ClassFile.FieldType) ∈ tblG := wdG (i := 1028) (by decide +kernel) rfl
theorem wk_1029 : Cond.methodLink "RopeTreatyModel" (168 : Nat) ⟨"RopeTreatyModel", "opens", "(I)V"⟩ ∈ tblG := wdG (i := 1029) (by decide +kernel) rfl
theorem wk_1031 : Cond.instanceMethod ⟨"RopeTreatyModel", "opens", "(I)V"⟩ ∈ tblG := wdG (i := 1031) (by decide +kernel) rfl
theorem wk_1032 : Cond.code ⟨"RopeTreatyModel", "opens", "(I)V"⟩ prog_9_method_42_code (2 : Nat) (Option.none : Option Jvm.ClassFile.FieldType) ∈ tblG := wdG (i := 1032) (by decide +kernel) rfl
theorem wk_1033 : Cond.methodLink "RopeTreatyModel" (172 : Nat) ⟨"RopeTreatyModel", "number", "()V"⟩ ∈ tblG := wdG (i := 1033) (by decide +kernel) rfl
theorem wk_1035 : Cond.instanceMethod ⟨"RopeTreatyModel", "number", "()V"⟩ ∈ tblG := wdG (i := 1035) (by decide +kernel) rfl
theorem wk_1036 : Cond.code ⟨"RopeTreatyModel", "number", "()V"⟩ prog_9_method_41_code (3 : Nat) (Option.none : Option Jvm.ClassFile.FieldType) ∈ tblG := wdG (i := 1036) (by decide +kernel) rfl
theorem wk_1038 : Cond.instanceMethod ⟨"RopeTreatyModel", "untell", "(I)I"⟩ ∈ tblG := wdG (i := 1038) (by decide +kernel) rfl
theorem wk_1039 : Cond.selects "RopeTreatyModel" ⟨"RopeTreatyModel", "untell", "(I)I"⟩ ⟨"RopeTreatyModel", "untell", "(I)I"⟩ ∈ tblG := wdG (i := 1039) (by decide +kernel) rfl
theorem wk_1040 : Cond.code ⟨"RopeTreatyModel", "untell", "(I)I"⟩ prog_9_method_50_code (2 : Nat) (Option.some Jvm.ClassFile.FieldType.int) ∈ tblG := wdG (i := 1040) (by decide +kernel) rfl
theorem wk_1042 : Cond.instanceMethod ⟨"RopeTreatyModel", "law", "(IIII)I"⟩ ∈ tblG := wdG (i := 1042) (by decide +kernel) rfl
theorem wk_1043 : Cond.selects "RopeTreatyModel" ⟨"RopeTreatyModel", "law", "(IIII)I"⟩ ⟨"RopeTreatyModel", "law", "(IIII)I"⟩ ∈ tblG := wdG (i := 1043) (by decide +kernel) rfl
theorem wk_1044 : Cond.code ⟨"RopeTreatyModel", "law", "(IIII)I"⟩ prog_9_method_54_code (5 : Nat) (Option.some Jvm.ClassFile.FieldType.int) ∈ tblG := wdG (i := 1044) (by decide +kernel) rfl
theorem wk_1046 : Cond.instanceMethod ⟨"RopeTreatyModel", "beats", "(I)I"⟩ ∈ tblG := wdG (i := 1046) (by decide +kernel) rfl
theorem wk_1047 : Cond.selects "RopeTreatyModel" ⟨"RopeTreatyModel", "beats", "(I)I"⟩ ⟨"RopeTreatyModel", "beats", "(I)I"⟩ ∈ tblG := wdG (i := 1047) (by decide +kernel) rfl
theorem wk_1048 : Cond.code ⟨"RopeTreatyModel", "beats", "(I)I"⟩ prog_9_method_57_code (4 : Nat) (Option.some Jvm.ClassFile.FieldType.int) ∈ tblG := wdG (i := 1048) (by decide +kernel) rfl
theorem wk_1049 : Cond.constant "RopeTreatyModel" (200 : Nat) (99999 : Int32) ∈ tblG := wdG (i := 1049) (by decide +kernel) rfl
theorem wk_1050 : Cond.methodLink "RopeTreatyModel" (201 : Nat) ⟨"RopeTreatyModel", "goes", "()I"⟩ ∈ tblG := wdG (i := 1050) (by decide +kernel) rfl
theorem wk_1052 : Cond.instanceMethod ⟨"RopeTreatyModel", "goes", "()I"⟩ ∈ tblG := wdG (i := 1052) (by decide +kernel) rfl
theorem wk_1053 : Cond.code ⟨"RopeTreatyModel", "goes", "()I"⟩ prog_9_method_56_code (3 : Nat) (Option.some Jvm.ClassFile.FieldType.int) ∈ tblG := wdG (i := 1053) (by decide +kernel) rfl
theorem wk_1054 : Cond.methodLink "RopeTreatyModel" (197 : Nat) ⟨"RopeTreatyModel", "misses", "(I)Z"⟩ ∈ tblG := wdG (i := 1054) (by decide +kernel) rfl
theorem wk_1056 : Cond.instanceMethod ⟨"RopeTreatyModel", "misses", "(I)Z"⟩ ∈ tblG := wdG (i := 1056) (by decide +kernel) rfl
theorem wk_1057 : Cond.code ⟨"RopeTreatyModel", "misses", "(I)Z"⟩ prog_9_method_55_code (4 : Nat) (Option.some Jvm.ClassFile.FieldType.boolean) ∈ tblG := wdG (i := 1057) (by decide +kernel) rfl
theorem wk_1059 : Cond.instanceMethod ⟨"RopeTreatyModel", "loose", "(I)I"⟩ ∈ tblG := wdG (i := 1059) (by decide +kernel) rfl
theorem wk_1060 : Cond.selects "RopeTreatyModel" ⟨"RopeTreatyModel", "loose", "(I)I"⟩ ⟨"RopeTreatyModel", "loose", "(I)I"⟩ ∈ tblG := wdG (i := 1060) (by decide +kernel) rfl
theorem wk_1061 : Cond.code ⟨"RopeTreatyModel", "loose", "(I)I"⟩ prog_9_method_60_code (4 : Nat) (Option.some Jvm.ClassFile.FieldType.int) ∈ tblG := wdG (i := 1061) (by decide +kernel) rfl
theorem wk_1062 : Cond.methodLink "RopeTreatyModel" (208 : Nat) ⟨"RopeTreatyModel", "drawn", "()Z"⟩ ∈ tblG := wdG (i := 1062) (by decide +kernel) rfl
theorem wk_1064 : Cond.instanceMethod ⟨"RopeTreatyModel", "drawn", "()Z"⟩ ∈ tblG := wdG (i := 1064) (by decide +kernel) rfl
theorem wk_1065 : Cond.code ⟨"RopeTreatyModel", "drawn", "()Z"⟩ prog_9_method_59_code (4 : Nat) (Option.some Jvm.ClassFile.FieldType.boolean) ∈ tblG := wdG (i := 1065) (by decide +kernel) rfl
theorem wk_1066 : Cond.methodLink "RopeTreatyModel" (205 : Nat) ⟨"RopeTreatyModel", "draw", "()I"⟩ ∈ tblG := wdG (i := 1066) (by decide +kernel) rfl
theorem wk_1068 : Cond.instanceMethod ⟨"RopeTreatyModel", "draw", "()I"⟩ ∈ tblG := wdG (i := 1068) (by decide +kernel) rfl
theorem wk_1069 : Cond.code ⟨"RopeTreatyModel", "draw", "()I"⟩ prog_9_method_58_code (1 : Nat) (Option.some Jvm.ClassFile.FieldType.int) ∈ tblG := wdG (i := 1069) (by decide +kernel) rfl
theorem wk_1070 : Cond.constant "RopeTreatyModel" (204 : Nat) (1103515245 : Int32) ∈ tblG := wdG (i := 1070) (by decide +kernel) rfl
theorem wk_1072 : Cond.instanceMethod ⟨"RopeTreatyModel", "seed", "(I)I"⟩ ∈ tblG := wdG (i := 1072) (by decide +kernel) rfl
theorem wk_1073 : Cond.selects "RopeTreatyModel" ⟨"RopeTreatyModel", "seed", "(I)I"⟩ ⟨"RopeTreatyModel", "seed", "(I)I"⟩ ∈ tblG := wdG (i := 1073) (by decide +kernel) rfl
theorem wk_1074 : Cond.code ⟨"RopeTreatyModel", "seed", "(I)I"⟩ prog_9_method_61_code (2 : Nat) (Option.some Jvm.ClassFile.FieldType.int) ∈ tblG := wdG (i := 1074) (by decide +kernel) rfl
theorem wk_1076 : Cond.instanceMethod ⟨"RopeTreatyModel", "then", "(III)I"⟩ ∈ tblG := wdG (i := 1076) (by decide +kernel) rfl
theorem wk_1077 : Cond.selects "RopeTreatyModel" ⟨"RopeTreatyModel", "then", "(III)I"⟩ ⟨"RopeTreatyModel", "then", "(III)I"⟩ ∈ tblG := wdG (i := 1077) (by decide +kernel) rfl
theorem wk_1078 : Cond.code ⟨"RopeTreatyModel", "then", "(III)I"⟩ prog_9_method_63_code (5 : Nat) (Option.some Jvm.ClassFile.FieldType.int) ∈ tblG := wdG (i := 1078) (by decide +kernel) rfl
theorem wk_1079 : Cond.methodLink "RopeTreatyModel" (211 : Nat) ⟨"RopeTreatyModel", "thinks", "()V"⟩ ∈ tblG := wdG (i := 1079) (by decide +kernel) rfl
theorem wk_1081 : Cond.instanceMethod ⟨"RopeTreatyModel", "thinks", "()V"⟩ ∈ tblG := wdG (i := 1081) (by decide +kernel) rfl
theorem wk_1082 : Cond.code ⟨"RopeTreatyModel", "thinks", "()V"⟩ prog_9_method_6_code (1 : Nat) (Option.none : Option Jvm.ClassFile.FieldType) ∈ tblG := wdG (i := 1082) (by decide +kernel) rfl
theorem wk_1083 : Cond.methodLink "RopeTreatyModel" (50 : Nat) ⟨"RopeTreatyModel", "copyAll", "([I[I)V"⟩ ∈ tblG := wdG (i := 1083) (by decide +kernel) rfl
theorem wk_1084 : Cond.static ⟨"RopeTreatyModel", "copyAll", "([I[I)V"⟩ ∈ tblG := wdG (i := 1084) (by decide +kernel) rfl
theorem wk_1085 : Cond.code ⟨"RopeTreatyModel", "copyAll", "([I[I)V"⟩ prog_9_method_5_code (3 : Nat) (Option.none : Option Jvm.ClassFile.FieldType) ∈ tblG := wdG (i := 1085) (by decide +kernel) rfl
theorem wk_1086 : Cond.methodLink "RopeTreatyModel" (214 : Nat) ⟨"RopeTreatyModel", "goesFor", "(I)V"⟩ ∈ tblG := wdG (i := 1086) (by decide +kernel) rfl
theorem wk_1088 : Cond.instanceMethod ⟨"RopeTreatyModel", "goesFor", "(I)V"⟩ ∈ tblG := wdG (i := 1088) (by decide +kernel) rfl
theorem wk_1089 : Cond.code ⟨"RopeTreatyModel", "goesFor", "(I)V"⟩ prog_9_method_62_code (4 : Nat) (Option.none : Option Jvm.ClassFile.FieldType) ∈ tblG := wdG (i := 1089) (by decide +kernel) rfl
theorem wk_1090 : Cond.methodLink "RopeTreatyModel" (217 : Nat) ⟨"RopeTreatyModel", "putsBack", "()V"⟩ ∈ tblG := wdG (i := 1090) (by decide +kernel) rfl
theorem wk_1092 : Cond.instanceMethod ⟨"RopeTreatyModel", "putsBack", "()V"⟩ ∈ tblG := wdG (i := 1092) (by decide +kernel) rfl
theorem wk_1093 : Cond.code ⟨"RopeTreatyModel", "putsBack", "()V"⟩ prog_9_method_7_code (1 : Nat) (Option.none : Option Jvm.ClassFile.FieldType) ∈ tblG := wdG (i := 1093) (by decide +kernel) rfl
theorem wk_1095 : Cond.instanceMethod ⟨"RopeTreatyModel", "lasts", "(I)I"⟩ ∈ tblG := wdG (i := 1095) (by decide +kernel) rfl
theorem wk_1096 : Cond.selects "RopeTreatyModel" ⟨"RopeTreatyModel", "lasts", "(I)I"⟩ ⟨"RopeTreatyModel", "lasts", "(I)I"⟩ ∈ tblG := wdG (i := 1096) (by decide +kernel) rfl
theorem wk_1097 : Cond.code ⟨"RopeTreatyModel", "lasts", "(I)I"⟩ prog_9_method_64_code (3 : Nat) (Option.some Jvm.ClassFile.FieldType.int) ∈ tblG := wdG (i := 1097) (by decide +kernel) rfl
theorem wk_1098 : Cond.constant "RopeTreatyModel" (220 : Nat) (-1000000002 : Int32) ∈ tblG := wdG (i := 1098) (by decide +kernel) rfl
theorem wk_1100 : Cond.instanceMethod ⟨"RopeTreatyModel", "agree", "(I)I"⟩ ∈ tblG := wdG (i := 1100) (by decide +kernel) rfl
theorem wk_1101 : Cond.selects "RopeTreatyModel" ⟨"RopeTreatyModel", "agree", "(I)I"⟩ ⟨"RopeTreatyModel", "agree", "(I)I"⟩ ∈ tblG := wdG (i := 1101) (by decide +kernel) rfl
theorem wk_1102 : Cond.code ⟨"RopeTreatyModel", "agree", "(I)I"⟩ prog_9_method_65_code (6 : Nat) (Option.some Jvm.ClassFile.FieldType.int) ∈ tblG := wdG (i := 1102) (by decide +kernel) rfl
theorem wk_1104 : Cond.instanceMethod ⟨"RopeTreatyModel", "fairest", "(I)I"⟩ ∈ tblG := wdG (i := 1104) (by decide +kernel) rfl
theorem wk_1105 : Cond.selects "RopeTreatyModel" ⟨"RopeTreatyModel", "fairest", "(I)I"⟩ ⟨"RopeTreatyModel", "fairest", "(I)I"⟩ ∈ tblG := wdG (i := 1105) (by decide +kernel) rfl
theorem wk_1106 : Cond.code ⟨"RopeTreatyModel", "fairest", "(I)I"⟩ prog_9_method_67_code (6 : Nat) (Option.some Jvm.ClassFile.FieldType.int) ∈ tblG := wdG (i := 1106) (by decide +kernel) rfl
theorem wk_1107 : Cond.methodLink "RopeTreatyModel" (221 : Nat) ⟨"RopeTreatyModel", "leastLiking", "(I)I"⟩ ∈ tblG := wdG (i := 1107) (by decide +kernel) rfl
theorem wk_1109 : Cond.instanceMethod ⟨"RopeTreatyModel", "leastLiking", "(I)I"⟩ ∈ tblG := wdG (i := 1109) (by decide +kernel) rfl
theorem wk_1110 : Cond.code ⟨"RopeTreatyModel", "leastLiking", "(I)I"⟩ prog_9_method_66_code (5 : Nat) (Option.some Jvm.ClassFile.FieldType.int) ∈ tblG := wdG (i := 1110) (by decide +kernel) rfl
theorem wk_1112 : Cond.instanceMethod ⟨"RopeTreatyModel", "balks", "(I)I"⟩ ∈ tblG := wdG (i := 1112) (by decide +kernel) rfl
theorem wk_1113 : Cond.selects "RopeTreatyModel" ⟨"RopeTreatyModel", "balks", "(I)I"⟩ ⟨"RopeTreatyModel", "balks", "(I)I"⟩ ∈ tblG := wdG (i := 1113) (by decide +kernel) rfl
theorem wk_1114 : Cond.code ⟨"RopeTreatyModel", "balks", "(I)I"⟩ prog_9_method_70_code (6 : Nat) (Option.some Jvm.ClassFile.FieldType.int) ∈ tblG := wdG (i := 1114) (by decide +kernel) rfl
theorem wk_1115 : Cond.methodLink "RopeTreatyModel" (227 : Nat) ⟨"RopeTreatyModel", "balksOf", "(I)I"⟩ ∈ tblG := wdG (i := 1115) (by decide +kernel) rfl
theorem wk_1117 : Cond.instanceMethod ⟨"RopeTreatyModel", "balksOf", "(I)I"⟩ ∈ tblG := wdG (i := 1117) (by decide +kernel) rfl
theorem wk_1118 : Cond.code ⟨"RopeTreatyModel", "balksOf", "(I)I"⟩ prog_9_method_69_code (4 : Nat) (Option.some Jvm.ClassFile.FieldType.int) ∈ tblG := wdG (i := 1118) (by decide +kernel) rfl
theorem wk_1119 : Cond.methodLink "RopeTreatyModel" (224 : Nat) ⟨"RopeTreatyModel", "whoAlone", "(I)I"⟩ ∈ tblG := wdG (i := 1119) (by decide +kernel) rfl
theorem wk_1121 : Cond.instanceMethod ⟨"RopeTreatyModel", "whoAlone", "(I)I"⟩ ∈ tblG := wdG (i := 1121) (by decide +kernel) rfl
theorem wk_1122 : Cond.code ⟨"RopeTreatyModel", "whoAlone", "(I)I"⟩ prog_9_method_68_code (6 : Nat) (Option.some Jvm.ClassFile.FieldType.int) ∈ tblG := wdG (i := 1122) (by decide +kernel) rfl
theorem wk_1124 : Cond.instanceMethod ⟨"RopeTreatyModel", "soon", "(I)I"⟩ ∈ tblG := wdG (i := 1124) (by decide +kernel) rfl
theorem wk_1125 : Cond.selects "RopeTreatyModel" ⟨"RopeTreatyModel", "soon", "(I)I"⟩ ⟨"RopeTreatyModel", "soon", "(I)I"⟩ ∈ tblG := wdG (i := 1125) (by decide +kernel) rfl
theorem wk_1126 : Cond.code ⟨"RopeTreatyModel", "soon", "(I)I"⟩ prog_9_method_71_code (3 : Nat) (Option.some Jvm.ClassFile.FieldType.int) ∈ tblG := wdG (i := 1126) (by decide +kernel) rfl
theorem wk_1128 : Cond.instanceMethod ⟨"RopeTreatyModel", "meets", "(IIII)I"⟩ ∈ tblG := wdG (i := 1128) (by decide +kernel) rfl
theorem wk_1129 : Cond.selects "RopeTreatyModel" ⟨"RopeTreatyModel", "meets", "(IIII)I"⟩ ⟨"RopeTreatyModel", "meets", "(IIII)I"⟩ ∈ tblG := wdG (i := 1129) (by decide +kernel) rfl
theorem wk_1130 : Cond.code ⟨"RopeTreatyModel", "meets", "(IIII)I"⟩ prog_9_method_72_code (6 : Nat) (Option.some Jvm.ClassFile.FieldType.int) ∈ tblG := wdG (i := 1130) (by decide +kernel) rfl
theorem wk_1132 : Cond.instanceMethod ⟨"RopeTreatyModel", "odds", "(II)I"⟩ ∈ tblG := wdG (i := 1132) (by decide +kernel) rfl
theorem wk_1133 : Cond.selects "RopeTreatyModel" ⟨"RopeTreatyModel", "odds", "(II)I"⟩ ⟨"RopeTreatyModel", "odds", "(II)I"⟩ ∈ tblG := wdG (i := 1133) (by decide +kernel) rfl
theorem wk_1134 : Cond.code ⟨"RopeTreatyModel", "odds", "(II)I"⟩ prog_9_method_73_code (6 : Nat) (Option.some Jvm.ClassFile.FieldType.int) ∈ tblG := wdG (i := 1134) (by decide +kernel) rfl
theorem wk_1136 : Cond.instanceMethod ⟨"RopeTreatyModel", "fits", "(I)I"⟩ ∈ tblG := wdG (i := 1136) (by decide +kernel) rfl
theorem wk_1137 : Cond.selects "RopeTreatyModel" ⟨"RopeTreatyModel", "fits", "(I)I"⟩ ⟨"RopeTreatyModel", "fits", "(I)I"⟩ ∈ tblG := wdG (i := 1137) (by decide +kernel) rfl
theorem wk_1138 : Cond.code ⟨"RopeTreatyModel", "fits", "(I)I"⟩ prog_9_method_75_code (4 : Nat) (Option.some Jvm.ClassFile.FieldType.int) ∈ tblG := wdG (i := 1138) (by decide +kernel) rfl
theorem wk_1139 : Cond.methodLink "RopeTreatyModel" (230 : Nat) ⟨"RopeTreatyModel", "notThere", "(I)I"⟩ ∈ tblG := wdG (i := 1139) (by decide +kernel) rfl
theorem wk_1141 : Cond.instanceMethod ⟨"RopeTreatyModel", "notThere", "(I)I"⟩ ∈ tblG := wdG (i := 1141) (by decide +kernel) rfl
theorem wk_1142 : Cond.code ⟨"RopeTreatyModel", "notThere", "(I)I"⟩ prog_9_method_91_code (2 : Nat) (Option.some Jvm.ClassFile.FieldType.int) ∈ tblG := wdG (i := 1142) (by decide +kernel) rfl
theorem wk_1143 : Cond.methodLink "RopeTreatyModel" (276 : Nat) ⟨"RopeTreatyModel", "isSheet", "(I)Z"⟩ ∈ tblG := wdG (i := 1143) (by decide +kernel) rfl
theorem wk_1144 : Cond.static ⟨"RopeTreatyModel", "isSheet", "(I)Z"⟩ ∈ tblG := wdG (i := 1144) (by decide +kernel) rfl
theorem wk_1145 : Cond.code ⟨"RopeTreatyModel", "isSheet", "(I)Z"⟩ prog_9_method_89_code (1 : Nat) (Option.some Jvm.ClassFile.FieldType.boolean) ∈ tblG := wdG (i := 1145) (by decide +kernel) rfl
theorem wk_1146 : Cond.methodLink "RopeTreatyModel" (233 : Nat) ⟨"RopeTreatyModel", "isSo", "(I)Z"⟩ ∈ tblG := wdG (i := 1146) (by decide +kernel) rfl
theorem wk_1148 : Cond.instanceMethod ⟨"RopeTreatyModel", "isSo", "(I)Z"⟩ ∈ tblG := wdG (i := 1148) (by decide +kernel) rfl
theorem wk_1149 : Cond.code ⟨"RopeTreatyModel", "isSo", "(I)Z"⟩ prog_9_method_74_code (4 : Nat) (Option.some Jvm.ClassFile.FieldType.boolean) ∈ tblG := wdG (i := 1149) (by decide +kernel) rfl
theorem wk_1151 : Cond.instanceMethod ⟨"RopeTreatyModel", "voice", "(III)I"⟩ ∈ tblG := wdG (i := 1151) (by decide +kernel) rfl
theorem wk_1152 : Cond.selects "RopeTreatyModel" ⟨"RopeTreatyModel", "voice", "(III)I"⟩ ⟨"RopeTreatyModel", "voice", "(III)I"⟩ ∈ tblG := wdG (i := 1152) (by decide +kernel) rfl
theorem wk_1153 : Cond.code ⟨"RopeTreatyModel", "voice", "(III)I"⟩ prog_9_method_87_code (5 : Nat) (Option.some Jvm.ClassFile.FieldType.int) ∈ tblG := wdG (i := 1153) (by decide +kernel) rfl
theorem wk_1154 : Cond.methodLink "RopeTreatyModel" (248 : Nat) ⟨"RopeTreatyModel", "sings", "(II)I"⟩ ∈ tblG := wdG (i := 1154) (by decide +kernel) rfl
theorem wk_1156 : Cond.instanceMethod ⟨"RopeTreatyModel", "sings", "(II)I"⟩ ∈ tblG := wdG (i := 1156) (by decide +kernel) rfl
theorem wk_1157 : Cond.code ⟨"RopeTreatyModel", "sings", "(II)I"⟩ prog_9_method_79_code (3 : Nat) (Option.some Jvm.ClassFile.FieldType.int) ∈ tblG := wdG (i := 1157) (by decide +kernel) rfl
theorem wk_1158 : Cond.methodLink "RopeTreatyModel" (245 : Nat) ⟨"RopeTreatyModel", "masterSings", "(II)I"⟩ ∈ tblG := wdG (i := 1158) (by decide +kernel) rfl
theorem wk_1160 : Cond.instanceMethod ⟨"RopeTreatyModel", "masterSings", "(II)I"⟩ ∈ tblG := wdG (i := 1160) (by decide +kernel) rfl
theorem wk_1161 : Cond.code ⟨"RopeTreatyModel", "masterSings", "(II)I"⟩ prog_9_method_78_code (3 : Nat) (Option.some Jvm.ClassFile.FieldType.int) ∈ tblG := wdG (i := 1161) (by decide +kernel) rfl
theorem wk_1162 : Cond.methodLink "RopeTreatyModel" (239 : Nat) ⟨"RopeTreatyModel", "begins", "(I)V"⟩ ∈ tblG := wdG (i := 1162) (by decide +kernel) rfl
theorem wk_1164 : Cond.instanceMethod ⟨"RopeTreatyModel", "begins", "(I)V"⟩ ∈ tblG := wdG (i := 1164) (by decide +kernel) rfl
theorem wk_1165 : Cond.code ⟨"RopeTreatyModel", "begins", "(I)V"⟩ prog_9_method_76_code (2 : Nat) (Option.none : Option Jvm.ClassFile.FieldType) ∈ tblG := wdG (i := 1165) (by decide +kernel) rfl
theorem wk_1166 : Cond.methodLink "RopeTreatyModel" (242 : Nat) ⟨"RopeTreatyModel", "plainSings", "(II)I"⟩ ∈ tblG := wdG (i := 1166) (by decide +kernel) rfl
theorem wk_1168 : Cond.instanceMethod ⟨"RopeTreatyModel", "plainSings", "(II)I"⟩ ∈ tblG := wdG (i := 1168) (by decide +kernel) rfl
theorem wk_1169 : Cond.code ⟨"RopeTreatyModel", "plainSings", "(II)I"⟩ prog_9_method_77_code (3 : Nat) (Option.some Jvm.ClassFile.FieldType.int) ∈ tblG := wdG (i := 1169) (by decide +kernel) rfl
theorem wk_1170 : Cond.methodLink "RopeTreatyModel" (257 : Nat) ⟨"RopeTreatyModel", "jumps", "(II)I"⟩ ∈ tblG := wdG (i := 1170) (by decide +kernel) rfl
theorem wk_1172 : Cond.instanceMethod ⟨"RopeTreatyModel", "jumps", "(II)I"⟩ ∈ tblG := wdG (i := 1172) (by decide +kernel) rfl
theorem wk_1173 : Cond.code ⟨"RopeTreatyModel", "jumps", "(II)I"⟩ prog_9_method_82_code (3 : Nat) (Option.some Jvm.ClassFile.FieldType.int) ∈ tblG := wdG (i := 1173) (by decide +kernel) rfl
theorem wk_1174 : Cond.methodLink "RopeTreatyModel" (254 : Nat) ⟨"RopeTreatyModel", "conJumps", "(II)I"⟩ ∈ tblG := wdG (i := 1174) (by decide +kernel) rfl
theorem wk_1176 : Cond.instanceMethod ⟨"RopeTreatyModel", "conJumps", "(II)I"⟩ ∈ tblG := wdG (i := 1176) (by decide +kernel) rfl
theorem wk_1177 : Cond.code ⟨"RopeTreatyModel", "conJumps", "(II)I"⟩ prog_9_method_81_code (3 : Nat) (Option.some Jvm.ClassFile.FieldType.int) ∈ tblG := wdG (i := 1177) (by decide +kernel) rfl
theorem wk_1178 : Cond.methodLink "RopeTreatyModel" (251 : Nat) ⟨"RopeTreatyModel", "plainJumps", "(II)I"⟩ ∈ tblG := wdG (i := 1178) (by decide +kernel) rfl
theorem wk_1180 : Cond.instanceMethod ⟨"RopeTreatyModel", "plainJumps", "(II)I"⟩ ∈ tblG := wdG (i := 1180) (by decide +kernel) rfl
theorem wk_1181 : Cond.code ⟨"RopeTreatyModel", "plainJumps", "(II)I"⟩ prog_9_method_80_code (3 : Nat) (Option.some Jvm.ClassFile.FieldType.int) ∈ tblG := wdG (i := 1181) (by decide +kernel) rfl
theorem wk_1182 : Cond.methodLink "RopeTreatyModel" (269 : Nat) ⟨"RopeTreatyModel", "claps", "(II)I"⟩ ∈ tblG := wdG (i := 1182) (by decide +kernel) rfl
theorem wk_1184 : Cond.instanceMethod ⟨"RopeTreatyModel", "claps", "(II)I"⟩ ∈ tblG := wdG (i := 1184) (by decide +kernel) rfl
theorem wk_1185 : Cond.code ⟨"RopeTreatyModel", "claps", "(II)I"⟩ prog_9_method_84_code (3 : Nat) (Option.some Jvm.ClassFile.FieldType.int) ∈ tblG := wdG (i := 1185) (by decide +kernel) rfl
theorem wk_1186 : Cond.methodLink "RopeTreatyModel" (260 : Nat) ⟨"RopeTreatyModel", "plainClaps", "(II)I"⟩ ∈ tblG := wdG (i := 1186) (by decide +kernel) rfl
theorem wk_1188 : Cond.instanceMethod ⟨"RopeTreatyModel", "plainClaps", "(II)I"⟩ ∈ tblG := wdG (i := 1188) (by decide +kernel) rfl
theorem wk_1189 : Cond.code ⟨"RopeTreatyModel", "plainClaps", "(II)I"⟩ prog_9_method_83_code (3 : Nat) (Option.some Jvm.ClassFile.FieldType.int) ∈ tblG := wdG (i := 1189) (by decide +kernel) rfl
theorem wk_1190 : Cond.methodLink "RopeTreatyModel" (272 : Nat) ⟨"RopeTreatyModel", "partsBy", "(II)I"⟩ ∈ tblG := wdG (i := 1190) (by decide +kernel) rfl
theorem wk_1192 : Cond.instanceMethod ⟨"RopeTreatyModel", "partsBy", "(II)I"⟩ ∈ tblG := wdG (i := 1192) (by decide +kernel) rfl
theorem wk_1193 : Cond.code ⟨"RopeTreatyModel", "partsBy", "(II)I"⟩ prog_9_method_86_code (4 : Nat) (Option.some Jvm.ClassFile.FieldType.int) ∈ tblG := wdG (i := 1193) (by decide +kernel) rfl
theorem wk_1194 : Cond.methodLink "RopeTreatyModel" (266 : Nat) ⟨"RopeTreatyModel", "plainParts", "(II)I"⟩ ∈ tblG := wdG (i := 1194) (by decide +kernel) rfl
theorem wk_1196 : Cond.instanceMethod ⟨"RopeTreatyModel", "plainParts", "(II)I"⟩ ∈ tblG := wdG (i := 1196) (by decide +kernel) rfl
theorem wk_1197 : Cond.code ⟨"RopeTreatyModel", "plainParts", "(II)I"⟩ prog_9_method_85_code (4 : Nat) (Option.some Jvm.ClassFile.FieldType.int) ∈ tblG := wdG (i := 1197) (by decide +kernel) rfl
theorem wk_1198 : Cond.constant "RopeTreatyModel" (275 : Nat) (-1000000006 : Int32) ∈ tblG := wdG (i := 1198) (by decide +kernel) rfl
theorem wk_1200 : Cond.instanceMethod ⟨"RopeTreatyModel", "body", "(I)I"⟩ ∈ tblG := wdG (i := 1200) (by decide +kernel) rfl
theorem wk_1201 : Cond.selects "RopeTreatyModel" ⟨"RopeTreatyModel", "body", "(I)I"⟩ ⟨"RopeTreatyModel", "body", "(I)I"⟩ ∈ tblG := wdG (i := 1201) (by decide +kernel) rfl
theorem wk_1202 : Cond.code ⟨"RopeTreatyModel", "body", "(I)I"⟩ prog_9_method_88_code (2 : Nat) (Option.some Jvm.ClassFile.FieldType.int) ∈ tblG := wdG (i := 1202) (by decide +kernel) rfl
theorem wk_1204 : Cond.instanceMethod ⟨"RopeTreatyModel", "sheet", "(III)I"⟩ ∈ tblG := wdG (i := 1204) (by decide +kernel) rfl
theorem wk_1205 : Cond.selects "RopeTreatyModel" ⟨"RopeTreatyModel", "sheet", "(III)I"⟩ ⟨"RopeTreatyModel", "sheet", "(III)I"⟩ ∈ tblG := wdG (i := 1205) (by decide +kernel) rfl
theorem wk_1206 : Cond.code ⟨"RopeTreatyModel", "sheet", "(III)I"⟩ prog_9_method_90_code (5 : Nat) (Option.some Jvm.ClassFile.FieldType.int) ∈ tblG := wdG (i := 1206) (by decide +kernel) rfl
theorem wk_1208 : Cond.instanceMethod ⟨"RopeTreatyModel", "put", "(III)I"⟩ ∈ tblG := wdG (i := 1208) (by decide +kernel) rfl
theorem wk_1209 : Cond.selects "RopeTreatyModel" ⟨"RopeTreatyModel", "put", "(III)I"⟩ ⟨"RopeTreatyModel", "put", "(III)I"⟩ ∈ tblG := wdG (i := 1209) (by decide +kernel) rfl
theorem wk_1210 : Cond.code ⟨"RopeTreatyModel", "put", "(III)I"⟩ prog_9_method_92_code (5 : Nat) (Option.some Jvm.ClassFile.FieldType.int) ∈ tblG := wdG (i := 1210) (by decide +kernel) rfl
theorem wk_1212 : Cond.instanceMethod ⟨"RopeTreatyModel", "move", "(IIIII)I"⟩ ∈ tblG := wdG (i := 1212) (by decide +kernel) rfl
theorem wk_1213 : Cond.selects "RopeTreatyModel" ⟨"RopeTreatyModel", "move", "(IIIII)I"⟩ ⟨"RopeTreatyModel", "move", "(IIIII)I"⟩ ∈ tblG := wdG (i := 1213) (by decide +kernel) rfl
theorem wk_1214 : Cond.code ⟨"RopeTreatyModel", "move", "(IIIII)I"⟩ prog_9_method_94_code (9 : Nat) (Option.some Jvm.ClassFile.FieldType.int) ∈ tblG := wdG (i := 1214) (by decide +kernel) rfl
theorem wk_1215 : Cond.methodLink "RopeTreatyModel" (279 : Nat) ⟨"RopeTreatyModel", "notMoved", "(IIIII)I"⟩ ∈ tblG := wdG (i := 1215) (by decide +kernel) rfl
theorem wk_1217 : Cond.instanceMethod ⟨"RopeTreatyModel", "notMoved", "(IIIII)I"⟩ ∈ tblG := wdG (i := 1217) (by decide +kernel) rfl
theorem wk_1218 : Cond.code ⟨"RopeTreatyModel", "notMoved", "(IIIII)I"⟩ prog_9_method_93_code (7 : Nat) (Option.some Jvm.ClassFile.FieldType.int) ∈ tblG := wdG (i := 1218) (by decide +kernel) rfl
theorem wk_1220 : Cond.instanceMethod ⟨"RopeTreatyModel", "breaths", "(I)I"⟩ ∈ tblG := wdG (i := 1220) (by decide +kernel) rfl
theorem wk_1221 : Cond.selects "RopeTreatyModel" ⟨"RopeTreatyModel", "breaths", "(I)I"⟩ ⟨"RopeTreatyModel", "breaths", "(I)I"⟩ ∈ tblG := wdG (i := 1221) (by decide +kernel) rfl
theorem wk_1222 : Cond.code ⟨"RopeTreatyModel", "breaths", "(I)I"⟩ prog_9_method_95_code (4 : Nat) (Option.some Jvm.ClassFile.FieldType.int) ∈ tblG := wdG (i := 1222) (by decide +kernel) rfl
theorem wk_1224 : Cond.instanceMethod ⟨"RopeTreatyModel", "judge", "(I)I"⟩ ∈ tblG := wdG (i := 1224) (by decide +kernel) rfl
theorem wk_1225 : Cond.selects "RopeTreatyModel" ⟨"RopeTreatyModel", "judge", "(I)I"⟩ ⟨"RopeTreatyModel", "judge", "(I)I"⟩ ∈ tblG := wdG (i := 1225) (by decide +kernel) rfl
theorem wk_1226 : Cond.code ⟨"RopeTreatyModel", "judge", "(I)I"⟩ prog_9_method_96_code (4 : Nat) (Option.some Jvm.ClassFile.FieldType.int) ∈ tblG := wdG (i := 1226) (by decide +kernel) rfl
theorem wk_1228 : Cond.instanceMethod ⟨"RopeTreatyModel", "image", "()I"⟩ ∈ tblG := wdG (i := 1228) (by decide +kernel) rfl
theorem wk_1229 : Cond.selects "RopeTreatyModel" ⟨"RopeTreatyModel", "image", "()I"⟩ ⟨"RopeTreatyModel", "image", "()I"⟩ ∈ tblG := wdG (i := 1229) (by decide +kernel) rfl
theorem wk_1230 : Cond.code ⟨"RopeTreatyModel", "image", "()I"⟩ prog_9_method_97_code (1 : Nat) (Option.some Jvm.ClassFile.FieldType.int) ∈ tblG := wdG (i := 1230) (by decide +kernel) rfl
theorem wk_1232 : Cond.instanceMethod ⟨"RopeTreatyModel", "restore", "()I"⟩ ∈ tblG := wdG (i := 1232) (by decide +kernel) rfl
theorem wk_1233 : Cond.selects "RopeTreatyModel" ⟨"RopeTreatyModel", "restore", "()I"⟩ ⟨"RopeTreatyModel", "restore", "()I"⟩ ∈ tblG := wdG (i := 1233) (by decide +kernel) rfl
theorem wk_1234 : Cond.code ⟨"RopeTreatyModel", "restore", "()I"⟩ prog_9_method_98_code (1 : Nat) (Option.some Jvm.ClassFile.FieldType.int) ∈ tblG := wdG (i := 1234) (by decide +kernel) rfl
theorem wk_1236 : Cond.instanceMethod ⟨"RopeTreatyModel", "tell", "(I)I"⟩ ∈ tblG := wdG (i := 1236) (by decide +kernel) rfl
theorem wk_1237 : Cond.selects "RopeTreatyModel" ⟨"RopeTreatyModel", "tell", "(I)I"⟩ ⟨"RopeTreatyModel", "tell", "(I)I"⟩ ∈ tblG := wdG (i := 1237) (by decide +kernel) rfl
theorem wk_1238 : Cond.code ⟨"RopeTreatyModel", "tell", "(I)I"⟩ prog_9_method_99_code (2 : Nat) (Option.some Jvm.ClassFile.FieldType.int) ∈ tblG := wdG (i := 1238) (by decide +kernel) rfl
theorem wk_1240 : Cond.instanceMethod ⟨"RopeTreatyModel", "check", "()I"⟩ ∈ tblG := wdG (i := 1240) (by decide +kernel) rfl
theorem wk_1241 : Cond.selects "RopeTreatyModel" ⟨"RopeTreatyModel", "check", "()I"⟩ ⟨"RopeTreatyModel", "check", "()I"⟩ ∈ tblG := wdG (i := 1241) (by decide +kernel) rfl
theorem wk_1242 : Cond.code ⟨"RopeTreatyModel", "check", "()I"⟩ prog_9_method_100_code (3 : Nat) (Option.some Jvm.ClassFile.FieldType.int) ∈ tblG := wdG (i := 1242) (by decide +kernel) rfl
theorem wk_1244 : Cond.instanceMethod ⟨"RopeTreatyModel", "count", "(I)I"⟩ ∈ tblG := wdG (i := 1244) (by decide +kernel) rfl
theorem wk_1245 : Cond.selects "RopeTreatyModel" ⟨"RopeTreatyModel", "count", "(I)I"⟩ ⟨"RopeTreatyModel", "count", "(I)I"⟩ ∈ tblG := wdG (i := 1245) (by decide +kernel) rfl
theorem wk_1246 : Cond.code ⟨"RopeTreatyModel", "count", "(I)I"⟩ prog_9_method_101_code (2 : Nat) (Option.some Jvm.ClassFile.FieldType.int) ∈ tblG := wdG (i := 1246) (by decide +kernel) rfl
theorem wk_1248 : Cond.instanceMethod ⟨"RopeTreatyModel", "told", "(I)I"⟩ ∈ tblG := wdG (i := 1248) (by decide +kernel) rfl
theorem wk_1249 : Cond.selects "RopeTreatyModel" ⟨"RopeTreatyModel", "told", "(I)I"⟩ ⟨"RopeTreatyModel", "told", "(I)I"⟩ ∈ tblG := wdG (i := 1249) (by decide +kernel) rfl
theorem wk_1250 : Cond.code ⟨"RopeTreatyModel", "told", "(I)I"⟩ prog_9_method_102_code (2 : Nat) (Option.some Jvm.ClassFile.FieldType.int) ∈ tblG := wdG (i := 1250) (by decide +kernel) rfl
theorem fcX0 : FC 0 RX0 TX0 7 tyX0 := ⟨fun w hw => List.mem_filter.mpr ⟨(by decide +kernel : ∀ w ∈ u_ws RX0 TX0 7, w ∈ lw_tbl) w hw, (by decide +kernel : ∀ w ∈ u_ws RX0 TX0 7, goodWord w = true) w hw⟩, rfl, tyX0_ok, nmX0⟩
theorem fcX1 : FC 1 RX1 TX1 15 tyX1 := ⟨fun w hw => List.mem_filter.mpr ⟨(by decide +kernel : ∀ w ∈ u_ws RX1 TX1 15, w ∈ lw_tbl) w hw, (by decide +kernel : ∀ w ∈ u_ws RX1 TX1 15, goodWord w = true) w hw⟩, rfl, tyX1_ok, nmX1⟩
theorem fcX2 : FC 2 RX2 TX2 3 tyX2 := ⟨fun w hw => List.mem_filter.mpr ⟨(by decide +kernel : ∀ w ∈ u_ws RX2 TX2 3, w ∈ lw_tbl) w hw, (by decide +kernel : ∀ w ∈ u_ws RX2 TX2 3, goodWord w = true) w hw⟩, rfl, tyX2_ok, nmX2⟩
theorem fcX3 : FC 3 RX3 TX3 2 tyX3 := ⟨fun w hw => List.mem_filter.mpr ⟨(by decide +kernel : ∀ w ∈ u_ws RX3 TX3 2, w ∈ lw_tbl) w hw, (by decide +kernel : ∀ w ∈ u_ws RX3 TX3 2, goodWord w = true) w hw⟩, rfl, tyX3_ok, nmX3⟩
theorem fcX4 : FC 4 RX4 TX4 4 tyX4 := ⟨fun w hw => List.mem_filter.mpr ⟨(by decide +kernel : ∀ w ∈ u_ws RX4 TX4 4, w ∈ lw_tbl) w hw, (by decide +kernel : ∀ w ∈ u_ws RX4 TX4 4, goodWord w = true) w hw⟩, rfl, tyX4_ok, nmX4⟩
theorem fcX5 : FC 5 RX5 TX5 6 tyX5 := ⟨fun w hw => List.mem_filter.mpr ⟨(by decide +kernel : ∀ w ∈ u_ws RX5 TX5 6, w ∈ lw_tbl) w hw, (by decide +kernel : ∀ w ∈ u_ws RX5 TX5 6, goodWord w = true) w hw⟩, rfl, tyX5_ok, nmX5⟩
theorem fcX6 : FC 6 RX6 TX6 14 tyX6 := ⟨fun w hw => List.mem_filter.mpr ⟨(by decide +kernel : ∀ w ∈ u_ws RX6 TX6 14, w ∈ lw_tbl) w hw, (by decide +kernel : ∀ w ∈ u_ws RX6 TX6 14, goodWord w = true) w hw⟩, rfl, tyX6_ok, nmX6⟩
theorem fcX7 : FC 7 RX7 TX7 21 tyX7 := ⟨fun w hw => List.mem_filter.mpr ⟨(by decide +kernel : ∀ w ∈ u_ws RX7 TX7 21, w ∈ lw_tbl) w hw, (by decide +kernel : ∀ w ∈ u_ws RX7 TX7 21, goodWord w = true) w hw⟩, rfl, tyX7_ok, nmX7⟩
abbrev md_Rd_read : Md := (yX0_read, cX0_read, 3, (some .int))
theorem cv_Rd_read : CV md_Rd_read 2 := ⟨wk_485, wk_483, wk_484, wk_79, ⟨by decide +kernel, by decide +kernel, by decide +kernel⟩, by decide⟩
abbrev md_Rd_readOr : Md := (yX0_readOr, cX0_readOr, 3, none)
theorem cv_Rd_readOr : CV md_Rd_readOr 1 := ⟨wk_492, wk_491, wk_2, wk_79, ⟨by decide +kernel, by decide +kernel, by decide +kernel⟩, by decide⟩
abbrev md_Rd_readAnd : Md := (yX0_readAnd, cX0_readAnd, 3, none)
theorem cv_Rd_readAnd : CV md_Rd_readAnd 1 := ⟨wk_496, wk_495, wk_3, wk_79, ⟨by decide +kernel, by decide +kernel, by decide +kernel⟩, by decide⟩
abbrev md_Rd_readLikeness : Md := (yX0_readLikeness, cX0_readLikeness, 3, none)
theorem cv_Rd_readLikeness : CV md_Rd_readLikeness 1 := ⟨wk_500, wk_499, wk_4, wk_79, ⟨by decide +kernel, by decide +kernel, by decide +kernel⟩, by decide⟩
abbrev md_Rd_readSum : Md := (yX0_readSum, cX0_readSum, 4, none)
theorem cv_Rd_readSum : CV md_Rd_readSum 1 := ⟨wk_504, wk_503, wk_5, wk_79, ⟨by decide +kernel, by decide +kernel, by decide +kernel⟩, by decide⟩
abbrev md_Rd_readProduct : Md := (yX0_readProduct, cX0_readProduct, 4, none)
theorem cv_Rd_readProduct : CV md_Rd_readProduct 1 := ⟨wk_508, wk_507, wk_6, wk_79, ⟨by decide +kernel, by decide +kernel, by decide +kernel⟩, by decide⟩
abbrev md_Rd_readPart : Md := (yX0_readPart, cX0_readPart, 3, none)
theorem cv_Rd_readPart : CV md_Rd_readPart 1 := ⟨wk_512, wk_511, wk_7, wk_79, ⟨by decide +kernel, by decide +kernel, by decide +kernel⟩, by decide⟩
abbrev md_Rd_readNumber : Md := (yX0_readNumber, cX0_readNumber, 3, none)
theorem cv_Rd_readNumber : CV md_Rd_readNumber 0 := ⟨wk_534, wk_533, wk_12, wk_79, ⟨by decide +kernel, by decide +kernel, by decide +kernel⟩, by decide⟩
abbrev md_Rd_close : Md := (yX0_close, cX0_close, 1, none)
theorem cv_Rd_close : CV md_Rd_close 0 := ⟨wk_538, wk_537, wk_13, wk_79, ⟨by decide +kernel, by decide +kernel, by decide +kernel⟩, by decide⟩
abbrev md_Rd_nextName : Md := (yX0_nextName, cX0_nextName, 3, (some .int))
theorem cv_Rd_nextName : CV md_Rd_nextName 0 := ⟨wk_516, wk_515, wk_8, wk_79, ⟨by decide +kernel, by decide +kernel, by decide +kernel⟩, by decide⟩
abbrev md_Rd_isDigit : Md := (yX0_isDigit, cX0_isDigit, 1, (some .boolean))
theorem cv_Rd_isDigit : CV md_Rd_isDigit 0 := ⟨wk_530, wk_529, wk_11, wk_79, ⟨by decide +kernel, by decide +kernel, by decide +kernel⟩, by decide⟩
abbrev md_Rd_isNext : Md := (yX0_isNext, cX0_isNext, 2, (some .boolean))
theorem cv_Rd_isNext : CV md_Rd_isNext 1 := ⟨wk_522, wk_521, wk_9, wk_79, ⟨by decide +kernel, by decide +kernel, by decide +kernel⟩, by decide⟩
abbrev md_Rd_write : Md := (yX0_write, cX0_write, 2, none)
theorem cv_Rd_write : CV md_Rd_write 1 := ⟨wk_526, wk_525, wk_10, wk_79, ⟨by decide +kernel, by decide +kernel, by decide +kernel⟩, by decide⟩
abbrev md_Rp_copy : Md := (yX1_copy, cX1_copy, 2, none)
theorem cv_Rp_copy : CV md_Rp_copy 1 := ⟨wk_597, wk_595, wk_596, wk_77, ⟨by decide +kernel, by decide +kernel, by decide +kernel⟩, by decide⟩
abbrev md_Rp_has : Md := (yX1_has, cX1_has, 2, (some .boolean))
theorem cv_Rp_has : CV md_Rp_has 1 := ⟨wk_353, wk_351, wk_352, wk_77, ⟨by decide +kernel, by decide +kernel, by decide +kernel⟩, by decide⟩
abbrev md_Rp_add : Md := (yX1_add, cX1_add, 5, (some .int))
theorem cv_Rp_add : CV md_Rp_add 3 := ⟨wk_341, wk_339, wk_340, wk_77, ⟨by decide +kernel, by decide +kernel, by decide +kernel⟩, by decide⟩
abbrev md_Rp_setKindAndMark : Md := (yX1_setKindAndMark, cX1_setKindAndMark, 3, none)
theorem cv_Rp_setKindAndMark : CV md_Rp_setKindAndMark 2 := ⟨wk_345, wk_343, wk_344, wk_77, ⟨by decide +kernel, by decide +kernel, by decide +kernel⟩, by decide⟩
abbrev md_Rp_word : Md := (yX1_word, cX1_word, 1, (some .int))
theorem cv_Rp_word : CV md_Rp_word 0 := ⟨wk_365, wk_363, wk_364, wk_77, ⟨by decide +kernel, by decide +kernel, by decide +kernel⟩, by decide⟩
abbrev md_Rp_turns : Md := (yX1_turns, cX1_turns, 1, (some .boolean))
theorem cv_Rp_turns : CV md_Rp_turns 0 := ⟨wk_425, wk_423, wk_424, wk_77, ⟨by decide +kernel, by decide +kernel, by decide +kernel⟩, by decide⟩
abbrev md_Rp_mayTalk : Md := (yX1_mayTalk, cX1_mayTalk, 1, (some .boolean))
theorem cv_Rp_mayTalk : CV md_Rp_mayTalk 0 := ⟨wk_460, wk_458, wk_459, wk_77, ⟨by decide +kernel, by decide +kernel, by decide +kernel⟩, by decide⟩
abbrev md_Rp_howManyIn : Md := (yX1_howManyIn, cX1_howManyIn, 1, (some .int))
theorem cv_Rp_howManyIn : CV md_Rp_howManyIn 0 := ⟨wk_369, wk_367, wk_368, wk_77, ⟨by decide +kernel, by decide +kernel, by decide +kernel⟩, by decide⟩
abbrev md_Rp_setIn : Md := (yX1_setIn, cX1_setIn, 3, (some .int))
theorem cv_Rp_setIn : CV md_Rp_setIn 0 := ⟨wk_373, wk_371, wk_372, wk_77, ⟨by decide +kernel, by decide +kernel, by decide +kernel⟩, by decide⟩
abbrev md_Rp_takes : Md := (yX1_takes, cX1_takes, 3, (some .int))
theorem cv_Rp_takes : CV md_Rp_takes 1 := ⟨wk_361, wk_359, wk_360, wk_77, ⟨by decide +kernel, by decide +kernel, by decide +kernel⟩, by decide⟩
abbrev md_Rp_leans : Md := (yX1_leans, cX1_leans, 4, (some .int))
theorem cv_Rp_leans : CV md_Rp_leans 2 := ⟨wk_452, wk_450, wk_451, wk_77, ⟨by decide +kernel, by decide +kernel, by decide +kernel⟩, by decide⟩
abbrev md_Rp_costs : Md := (yX1_costs, cX1_costs, 2, (some .int))
theorem cv_Rp_costs : CV md_Rp_costs 1 := ⟨wk_357, wk_355, wk_356, wk_77, ⟨by decide +kernel, by decide +kernel, by decide +kernel⟩, by decide⟩
abbrev md_Rp_likes : Md := (yX1_likes, cX1_likes, 3, (some .int))
theorem cv_Rp_likes : CV md_Rp_likes 2 := ⟨wk_448, wk_446, wk_447, wk_77, ⟨by decide +kernel, by decide +kernel, by decide +kernel⟩, by decide⟩
abbrev md_Rp_isTaken : Md := (yX1_isTaken, cX1_isTaken, 3, (some .boolean))
theorem cv_Rp_isTaken : CV md_Rp_isTaken 1 := ⟨wk_465, wk_463, wk_464, wk_77, ⟨by decide +kernel, by decide +kernel, by decide +kernel⟩, by decide⟩
abbrev md_Rp_leastLiking : Md := (yX1_leastLiking, cX1_leastLiking, 4, (some .int))
theorem cv_Rp_leastLiking : CV md_Rp_leastLiking 1 := ⟨wk_615, wk_613, wk_614, wk_77, ⟨by decide +kernel, by decide +kernel, by decide +kernel⟩, by decide⟩
abbrev md_Rp_whoBalks : Md := (yX1_whoBalks, cX1_whoBalks, 3, (some .int))
theorem cv_Rp_whoBalks : CV md_Rp_whoBalks 0 := ⟨wk_623, wk_621, wk_622, wk_77, ⟨by decide +kernel, by decide +kernel, by decide +kernel⟩, by decide⟩
abbrev md_Rp_onlyAgainst : Md := (yX1_onlyAgainst, cX1_onlyAgainst, 4, (some .int))
theorem cv_Rp_onlyAgainst : CV md_Rp_onlyAgainst 1 := ⟨wk_627, wk_626, wk_16, wk_77, ⟨by decide +kernel, by decide +kernel, by decide +kernel⟩, by decide⟩
abbrev md_Rp_pass : Md := (yX1_pass, cX1_pass, 3, (some .int))
theorem cv_Rp_pass : CV md_Rp_pass 0 := ⟨wk_562, wk_560, wk_561, wk_77, ⟨by decide +kernel, by decide +kernel, by decide +kernel⟩, by decide⟩
abbrev md_Rp_skip : Md := (yX1_skip, cX1_skip, 2, (some .int))
theorem cv_Rp_skip : CV md_Rp_skip 1 := ⟨wk_567, wk_566, wk_14, wk_77, ⟨by decide +kernel, by decide +kernel, by decide +kernel⟩, by decide⟩
abbrev md_Rp_passByDraws : Md := (yX1_passByDraws, cX1_passByDraws, 4, (some .int))
theorem cv_Rp_passByDraws : CV md_Rp_passByDraws 0 := ⟨wk_577, wk_575, wk_576, wk_77, ⟨by decide +kernel, by decide +kernel, by decide +kernel⟩, by decide⟩
abbrev md_Rp_draw : Md := (yX1_draw, cX1_draw, 1, (some .int))
theorem cv_Rp_draw : CV md_Rp_draw 0 := ⟨wk_581, wk_580, wk_15, wk_77, ⟨by decide +kernel, by decide +kernel, by decide +kernel⟩, by decide⟩
abbrev md_Rp_breathsRight : Md := (yX1_breathsRight, cX1_breathsRight, 3, (some .int))
theorem cv_Rp_breathsRight : CV md_Rp_breathsRight 1 := ⟨wk_658, wk_656, wk_657, wk_77, ⟨by decide +kernel, by decide +kernel, by decide +kernel⟩, by decide⟩
abbrev md_Rp_costsRight : Md := (yX1_costsRight, cX1_costsRight, 3, (some .int))
theorem cv_Rp_costsRight : CV md_Rp_costsRight 1 := ⟨wk_734, wk_732, wk_733, wk_77, ⟨by decide +kernel, by decide +kernel, by decide +kernel⟩, by decide⟩
abbrev md_Rp_takeBreaths : Md := (yX1_takeBreaths, cX1_takeBreaths, 3, (some .int))
theorem cv_Rp_takeBreaths : CV md_Rp_takeBreaths 1 := ⟨wk_725, wk_723, wk_724, wk_77, ⟨by decide +kernel, by decide +kernel, by decide +kernel⟩, by decide⟩
abbrev md_Rw_isMissing : Md := (yX2_isMissing, cX2_isMissing, 1, (some .boolean))
theorem cv_Rw_isMissing : CV md_Rw_isMissing 0 := ⟨wk_654, wk_652, wk_653, wk_80, ⟨by decide +kernel, by decide +kernel, by decide +kernel⟩, by decide⟩
abbrev md_Rw_begin : Md := (yX2_begin, cX2_begin, 4, none)
theorem cv_Rw_begin : CV md_Rw_begin 2 := ⟨wk_700, wk_698, wk_699, wk_80, ⟨by decide +kernel, by decide +kernel, by decide +kernel⟩, by decide⟩
abbrev md_Rw_lowest : Md := (yX2_lowest, cX2_lowest, 2, (some .int))
theorem cv_Rw_lowest : CV md_Rw_lowest 1 := ⟨wk_708, wk_706, wk_707, wk_80, ⟨by decide +kernel, by decide +kernel, by decide +kernel⟩, by decide⟩
abbrev md_Rw_holds : Md := (yX2_holds, cX2_holds, 3, (some .boolean))
theorem cv_Rw_holds : CV md_Rw_holds 2 := ⟨wk_716, wk_714, wk_715, wk_80, ⟨by decide +kernel, by decide +kernel, by decide +kernel⟩, by decide⟩
abbrev md_Rw_copy : Md := (yX2_copy, cX2_copy, 2, none)
theorem cv_Rw_copy : CV md_Rw_copy 1 := ⟨wk_747, wk_745, wk_746, wk_80, ⟨by decide +kernel, by decide +kernel, by decide +kernel⟩, by decide⟩
abbrev md_Tp_add : Md := (yX3_add, cX3_add, 5, none)
theorem cv_Tp_add : CV md_Tp_add 2 := ⟨wk_474, wk_472, wk_473, wk_78, ⟨by decide +kernel, by decide +kernel, by decide +kernel⟩, by decide⟩
abbrev md_Tp_copy : Md := (yX3_copy, cX3_copy, 2, none)
theorem cv_Tp_copy : CV md_Tp_copy 1 := ⟨wk_742, wk_740, wk_741, wk_78, ⟨by decide +kernel, by decide +kernel, by decide +kernel⟩, by decide⟩
abbrev md_Tx_isTold : Md := (yX4_isTold, cX4_isTold, 1, (some .boolean))
theorem cv_Tx_isTold : CV md_Tx_isTold 0 := ⟨wk_387, wk_385, wk_386, wk_76, ⟨by decide +kernel, by decide +kernel, by decide +kernel⟩, by decide⟩
abbrev md_Tx_learn : Md := (yX4_learn, cX4_learn, 3, none)
theorem cv_Tx_learn : CV md_Tx_learn 2 := ⟨wk_542, wk_540, wk_541, wk_76, ⟨by decide +kernel, by decide +kernel, by decide +kernel⟩, by decide⟩
abbrev md_Tx_copy : Md := (yX4_copy, cX4_copy, 2, none)
theorem cv_Tx_copy : CV md_Tx_copy 1 := ⟨wk_752, wk_750, wk_751, wk_76, ⟨by decide +kernel, by decide +kernel, by decide +kernel⟩, by decide⟩
abbrev md_Tx_gives : Md := (yX4_gives, cX4_gives, 5, (some .int))
theorem cv_Tx_gives : CV md_Tx_gives 3 := ⟨wk_383, wk_381, wk_382, wk_76, ⟨by decide +kernel, by decide +kernel, by decide +kernel⟩, by decide⟩
abbrev md_Tx_work : Md := (yX4_work, cX4_work, 7, (some .int))
theorem cv_Tx_work : CV md_Tx_work 3 := ⟨wk_391, wk_390, wk_1, wk_76, ⟨by decide +kernel, by decide +kernel, by decide +kernel⟩, by decide⟩
abbrev md_Tx_meaning : Md := (yX4_meaning, cX4_meaning, 4, (some .int))
theorem cs_Tx_meaning : CS md_Tx_meaning 4 := ⟨wk_397, wk_396, wk_76, ⟨by decide +kernel, by decide +kernel, by decide +kernel⟩, by decide⟩
abbrev md_Tx_join : Md := (yX4_join, cX4_join, 3, (some .int))
theorem cs_Tx_join : CS md_Tx_join 3 := ⟨wk_394, wk_393, wk_76, ⟨by decide +kernel, by decide +kernel, by decide +kernel⟩, by decide⟩
abbrev md_Th_speak : Md := (yX5_speak, cX5_speak, 6, (some .int))
theorem cv_Th_speak : CV md_Th_speak 5 := ⟨wk_666, wk_664, wk_665, wk_81, ⟨by decide +kernel, by decide +kernel, by decide +kernel⟩, by decide⟩
abbrev md_Th_say : Md := (yX5_say, cX5_say, 6, (some .int))
theorem cv_Th_say : CV md_Th_say 4 := ⟨wk_670, wk_669, wk_17, wk_81, ⟨by decide +kernel, by decide +kernel, by decide +kernel⟩, by decide⟩
abbrev md_Th_bodyOf : Md := (yX5_bodyOf, cX5_bodyOf, 4, (some .int))
theorem cs_Th_bodyOf : CS md_Th_bodyOf 2 := ⟨wk_673, wk_672, wk_81, ⟨by decide +kernel, by decide +kernel, by decide +kernel⟩, by decide⟩
abbrev md_Th_work : Md := (yX5_work, cX5_work, 4, (some .int))
theorem cv_Th_work : CV md_Th_work 3 := ⟨wk_681, wk_680, wk_18, wk_81, ⟨by decide +kernel, by decide +kernel, by decide +kernel⟩, by decide⟩
abbrev md_Th_part : Md := (yX5_part, cX5_part, 3, (some .int))
theorem cv_Th_part : CV md_Th_part 1 := ⟨wk_685, wk_684, wk_19, wk_81, ⟨by decide +kernel, by decide +kernel, by decide +kernel⟩, by decide⟩
abbrev md_Mn_jumper : Md := (yX6_jumper, cX6_jumper, 4, (some .int))
theorem cv_Mn_jumper : CV md_Mn_jumper 3 := ⟨wk_326, wk_324, wk_325, wk_75, ⟨by decide +kernel, by decide +kernel, by decide +kernel⟩, by decide⟩
abbrev md_Mn_jumperIs : Md := (yX6_jumperIs, cX6_jumperIs, 3, (some .int))
theorem cv_Mn_jumperIs : CV md_Mn_jumperIs 2 := ⟨wk_349, wk_347, wk_348, wk_75, ⟨by decide +kernel, by decide +kernel, by decide +kernel⟩, by decide⟩
abbrev md_Mn_become : Md := (yX6_become, cX6_become, 4, (some .int))
theorem cv_Mn_become : CV md_Mn_become 2 := ⟨wk_407, wk_405, wk_406, wk_75, ⟨by decide +kernel, by decide +kernel, by decide +kernel⟩, by decide⟩
abbrev md_Mn_as : Md := (yX6_as, cX6_as, 3, (some .int))
theorem cv_Mn_as : CV md_Mn_as 2 := ⟨wk_412, wk_410, wk_411, wk_75, ⟨by decide +kernel, by decide +kernel, by decide +kernel⟩, by decide⟩
abbrev md_Mn_jump : Md := (yX6_jump, cX6_jump, 4, (some .int))
theorem cv_Mn_jump : CV md_Mn_jump 2 := ⟨wk_421, wk_419, wk_420, wk_75, ⟨by decide +kernel, by decide +kernel, by decide +kernel⟩, by decide⟩
abbrev md_Mn_rest : Md := (yX6_rest, cX6_rest, 4, (some .int))
theorem cv_Mn_rest : CV md_Mn_rest 2 := ⟨wk_429, wk_427, wk_428, wk_75, ⟨by decide +kernel, by decide +kernel, by decide +kernel⟩, by decide⟩
abbrev md_Mn_spell : Md := (yX6_spell, cX6_spell, 4, (some .int))
theorem cv_Mn_spell : CV md_Mn_spell 2 := ⟨wk_433, wk_431, wk_432, wk_75, ⟨by decide +kernel, by decide +kernel, by decide +kernel⟩, by decide⟩
abbrev md_Mn_bar : Md := (yX6_bar, cX6_bar, 3, (some .int))
theorem cv_Mn_bar : CV md_Mn_bar 1 := ⟨wk_437, wk_435, wk_436, wk_75, ⟨by decide +kernel, by decide +kernel, by decide +kernel⟩, by decide⟩
abbrev md_Mn_liking : Md := (yX6_liking, cX6_liking, 3, (some .int))
theorem cv_Mn_liking : CV md_Mn_liking 2 := ⟨wk_441, wk_439, wk_440, wk_75, ⟨by decide +kernel, by decide +kernel, by decide +kernel⟩, by decide⟩
abbrev md_Mn_talk : Md := (yX6_talk, cX6_talk, 3, (some .int))
theorem cv_Mn_talk : CV md_Mn_talk 2 := ⟨wk_456, wk_454, wk_455, wk_75, ⟨by decide +kernel, by decide +kernel, by decide +kernel⟩, by decide⟩
abbrev md_Mn_feed : Md := (yX6_feed, cX6_feed, 4, (some .int))
theorem cv_Mn_feed : CV md_Mn_feed 2 := ⟨wk_470, wk_468, wk_469, wk_75, ⟨by decide +kernel, by decide +kernel, by decide +kernel⟩, by decide⟩
abbrev md_Mn_text : Md := (yX6_text, cX6_text, 3, (some .int))
theorem cv_Mn_text : CV md_Mn_text 1 := ⟨wk_478, wk_476, wk_477, wk_75, ⟨by decide +kernel, by decide +kernel, by decide +kernel⟩, by decide⟩
abbrev md_Mn_untell : Md := (yX6_untell, cX6_untell, 3, (some .int))
theorem cv_Mn_untell : CV md_Mn_untell 1 := ⟨wk_547, wk_545, wk_546, wk_75, ⟨by decide +kernel, by decide +kernel, by decide +kernel⟩, by decide⟩
abbrev md_Mn_law : Md := (yX6_law, cX6_law, 5, (some .int))
theorem cv_Mn_law : CV md_Mn_law 4 := ⟨wk_552, wk_550, wk_551, wk_75, ⟨by decide +kernel, by decide +kernel, by decide +kernel⟩, by decide⟩
abbrev md_Mn_beats : Md := (yX6_beats, cX6_beats, 4, (some .int))
theorem cv_Mn_beats : CV md_Mn_beats 1 := ⟨wk_557, wk_555, wk_556, wk_75, ⟨by decide +kernel, by decide +kernel, by decide +kernel⟩, by decide⟩
abbrev md_Mn_loose : Md := (yX6_loose, cX6_loose, 4, (some .int))
theorem cv_Mn_loose : CV md_Mn_loose 1 := ⟨wk_573, wk_571, wk_572, wk_75, ⟨by decide +kernel, by decide +kernel, by decide +kernel⟩, by decide⟩
abbrev md_Mn_seed : Md := (yX6_seed, cX6_seed, 3, (some .int))
theorem cv_Mn_seed : CV md_Mn_seed 1 := ⟨wk_589, wk_587, wk_588, wk_75, ⟨by decide +kernel, by decide +kernel, by decide +kernel⟩, by decide⟩
abbrev md_Mn_then : Md := (yX6_then, cX6_then, 5, (some .int))
theorem cv_Mn_then : CV md_Mn_then 3 := ⟨wk_593, wk_591, wk_592, wk_75, ⟨by decide +kernel, by decide +kernel, by decide +kernel⟩, by decide⟩
abbrev md_Mn_lasts : Md := (yX6_lasts, cX6_lasts, 3, (some .int))
theorem cv_Mn_lasts : CV md_Mn_lasts 1 := ⟨wk_602, wk_600, wk_601, wk_75, ⟨by decide +kernel, by decide +kernel, by decide +kernel⟩, by decide⟩
abbrev md_Mn_agree : Md := (yX6_agree, cX6_agree, 4, (some .int))
theorem cv_Mn_agree : CV md_Mn_agree 1 := ⟨wk_606, wk_604, wk_605, wk_75, ⟨by decide +kernel, by decide +kernel, by decide +kernel⟩, by decide⟩
abbrev md_Mn_fairest : Md := (yX6_fairest, cX6_fairest, 6, (some .int))
theorem cv_Mn_fairest : CV md_Mn_fairest 1 := ⟨wk_610, wk_608, wk_609, wk_75, ⟨by decide +kernel, by decide +kernel, by decide +kernel⟩, by decide⟩
abbrev md_Mn_balks : Md := (yX6_balks, cX6_balks, 3, (some .int))
theorem cv_Mn_balks : CV md_Mn_balks 1 := ⟨wk_619, wk_617, wk_618, wk_75, ⟨by decide +kernel, by decide +kernel, by decide +kernel⟩, by decide⟩
abbrev md_Mn_soon : Md := (yX6_soon, cX6_soon, 3, (some .int))
theorem cv_Mn_soon : CV md_Mn_soon 1 := ⟨wk_632, wk_630, wk_631, wk_75, ⟨by decide +kernel, by decide +kernel, by decide +kernel⟩, by decide⟩
abbrev md_Mn_meets : Md := (yX6_meets, cX6_meets, 7, (some .int))
theorem cv_Mn_meets : CV md_Mn_meets 4 := ⟨wk_636, wk_634, wk_635, wk_75, ⟨by decide +kernel, by decide +kernel, by decide +kernel⟩, by decide⟩
abbrev md_Mn_odds : Md := (yX6_odds, cX6_odds, 5, (some .int))
theorem cv_Mn_odds : CV md_Mn_odds 2 := ⟨wk_643, wk_641, wk_642, wk_75, ⟨by decide +kernel, by decide +kernel, by decide +kernel⟩, by decide⟩
abbrev md_Mn_fits : Md := (yX6_fits, cX6_fits, 3, (some .int))
theorem cv_Mn_fits : CV md_Mn_fits 1 := ⟨wk_647, wk_645, wk_646, wk_75, ⟨by decide +kernel, by decide +kernel, by decide +kernel⟩, by decide⟩
abbrev md_Mn_voice : Md := (yX6_voice, cX6_voice, 5, (some .int))
theorem cv_Mn_voice : CV md_Mn_voice 3 := ⟨wk_662, wk_660, wk_661, wk_75, ⟨by decide +kernel, by decide +kernel, by decide +kernel⟩, by decide⟩
abbrev md_Mn_body : Md := (yX6_body, cX6_body, 2, (some .int))
theorem cv_Mn_body : CV md_Mn_body 1 := ⟨wk_689, wk_687, wk_688, wk_75, ⟨by decide +kernel, by decide +kernel, by decide +kernel⟩, by decide⟩
abbrev md_Mn_sheet : Md := (yX6_sheet, cX6_sheet, 4, (some .int))
theorem cv_Mn_sheet : CV md_Mn_sheet 3 := ⟨wk_693, wk_691, wk_692, wk_75, ⟨by decide +kernel, by decide +kernel, by decide +kernel⟩, by decide⟩
abbrev md_Mn_put : Md := (yX6_put, cX6_put, 4, (some .int))
theorem cv_Mn_put : CV md_Mn_put 3 := ⟨wk_704, wk_702, wk_703, wk_75, ⟨by decide +kernel, by decide +kernel, by decide +kernel⟩, by decide⟩
abbrev md_Mn_move : Md := (yX6_move, cX6_move, 8, (some .int))
theorem cv_Mn_move : CV md_Mn_move 5 := ⟨wk_712, wk_710, wk_711, wk_75, ⟨by decide +kernel, by decide +kernel, by decide +kernel⟩, by decide⟩
abbrev md_Mn_breaths : Md := (yX6_breaths, cX6_breaths, 2, (some .int))
theorem cv_Mn_breaths : CV md_Mn_breaths 1 := ⟨wk_721, wk_719, wk_720, wk_75, ⟨by decide +kernel, by decide +kernel, by decide +kernel⟩, by decide⟩
abbrev md_Mn_judge : Md := (yX6_judge, cX6_judge, 2, (some .int))
theorem cv_Mn_judge : CV md_Mn_judge 1 := ⟨wk_730, wk_728, wk_729, wk_75, ⟨by decide +kernel, by decide +kernel, by decide +kernel⟩, by decide⟩
abbrev md_Mn_image : Md := (yX6_image, cX6_image, 2, (some .int))
theorem cv_Mn_image : CV md_Mn_image 0 := ⟨wk_738, wk_736, wk_737, wk_75, ⟨by decide +kernel, by decide +kernel, by decide +kernel⟩, by decide⟩
abbrev md_Mn_restore : Md := (yX6_restore, cX6_restore, 2, (some .int))
theorem cv_Mn_restore : CV md_Mn_restore 0 := ⟨wk_757, wk_755, wk_756, wk_75, ⟨by decide +kernel, by decide +kernel, by decide +kernel⟩, by decide⟩
abbrev md_Mn_tell : Md := (yX6_tell, cX6_tell, 2, (some .int))
theorem cv_Mn_tell : CV md_Mn_tell 1 := ⟨wk_761, wk_759, wk_760, wk_75, ⟨by decide +kernel, by decide +kernel, by decide +kernel⟩, by decide⟩
abbrev md_Mn_check : Md := (yX6_check, cX6_check, 3, (some .int))
theorem cv_Mn_check : CV md_Mn_check 0 := ⟨wk_765, wk_763, wk_764, wk_75, ⟨by decide +kernel, by decide +kernel, by decide +kernel⟩, by decide⟩
abbrev md_Mn_count : Md := (yX6_count, cX6_count, 2, (some .int))
theorem cv_Mn_count : CV md_Mn_count 1 := ⟨wk_769, wk_767, wk_768, wk_75, ⟨by decide +kernel, by decide +kernel, by decide +kernel⟩, by decide⟩
abbrev md_Mn_told : Md := (yX6_told, cX6_told, 2, (some .int))
theorem cv_Mn_told : CV md_Mn_told 1 := ⟨wk_774, wk_772, wk_773, wk_75, ⟨by decide +kernel, by decide +kernel, by decide +kernel⟩, by decide⟩
abbrev md_Mn_error : Md := (yX6_error, cX6_error, 2, (some .int))
theorem cv_Mn_error : CV md_Mn_error 1 := ⟨wk_336, wk_335, wk_0, wk_75, ⟨by decide +kernel, by decide +kernel, by decide +kernel⟩, by decide⟩
abbrev md_Mn_isWithin : Md := (yX6_isWithin, cX6_isWithin, 2, (some .boolean))
theorem cs_Mn_isWithin : CS md_Mn_isWithin 2 := ⟨wk_332, wk_331, wk_75, ⟨by decide +kernel, by decide +kernel, by decide +kernel⟩, by decide⟩
abbrev md_Mn_isKindAndMark : Md := (yX6_isKindAndMark, cX6_isKindAndMark, 1, (some .boolean))
theorem cs_Mn_isKindAndMark : CS md_Mn_isKindAndMark 1 := ⟨wk_329, wk_328, wk_75, ⟨by decide +kernel, by decide +kernel, by decide +kernel⟩, by decide⟩
abbrev md_Mn_isTreaty : Md := (yX6_isTreaty, cX6_isTreaty, 1, (some .boolean))
theorem cs_Mn_isTreaty : CS md_Mn_isTreaty 1 := ⟨wk_444, wk_443, wk_75, ⟨by decide +kernel, by decide +kernel, by decide +kernel⟩, by decide⟩
abbrev md_Mn_isUse : Md := (yX6_isUse, cX6_isUse, 1, (some .boolean))
theorem cs_Mn_isUse : CS md_Mn_isUse 1 := ⟨wk_481, wk_480, wk_75, ⟨by decide +kernel, by decide +kernel, by decide +kernel⟩, by decide⟩
abbrev md_Mn_isSheet : Md := (yX6_isSheet, cX6_isSheet, 1, (some .boolean))
theorem cs_Mn_isSheet : CS md_Mn_isSheet 1 := ⟨wk_650, wk_649, wk_75, ⟨by decide +kernel, by decide +kernel, by decide +kernel⟩, by decide⟩
abbrev md_Mn_isBits : Md := (yX6_isBits, cX6_isBits, 1, (some .boolean))
theorem cs_Mn_isBits : CS md_Mn_isBits 1 := ⟨wk_696, wk_695, wk_75, ⟨by decide +kernel, by decide +kernel, by decide +kernel⟩, by decide⟩
abbrev md_Mn_isRest : Md := (yX6_isRest, cX6_isRest, 2, (some .boolean))
theorem cs_Mn_isRest : CS md_Mn_isRest 2 := ⟨wk_639, wk_638, wk_75, ⟨by decide +kernel, by decide +kernel, by decide +kernel⟩, by decide⟩
abbrev md_Mn_isUnder : Md := (yX6_isUnder, cX6_isUnder, 4, (some .boolean))
theorem cs_Mn_isUnder : CS md_Mn_isUnder 2 := ⟨wk_415, wk_414, wk_75, ⟨by decide +kernel, by decide +kernel, by decide +kernel⟩, by decide⟩
abbrev md_Mo_error : Md := (yX7_error, cX7_error, 2, (some .int))
theorem cv_Mo_error : CV md_Mo_error 1 := ⟨wk_859, wk_858, wk_20, wk_82, ⟨by decide +kernel, by decide +kernel, by decide +kernel⟩, by decide⟩
abbrev md_Mo_in : Md := (yX7_in, cX7_in, 3, (some .boolean))
theorem cs_Mo_in : CS md_Mo_in 3 := ⟨wk_854, wk_853, wk_82, ⟨by decide +kernel, by decide +kernel, by decide +kernel⟩, by decide⟩
abbrev md_Mo_held : Md := (yX7_held, cX7_held, 3, (some .int))
theorem cs_Mo_held : CS md_Mo_held 3 := ⟨wk_914, wk_913, wk_82, ⟨by decide +kernel, by decide +kernel, by decide +kernel⟩, by decide⟩
abbrev md_Mo_copyAll : Md := (yX7_copyAll, cX7_copyAll, 3, none)
theorem cs_Mo_copyAll : CS md_Mo_copyAll 2 := ⟨wk_1085, wk_1084, wk_82, ⟨by decide +kernel, by decide +kernel, by decide +kernel⟩, by decide⟩
abbrev md_Mo_thinks : Md := (yX7_thinks, cX7_thinks, 1, none)
theorem cv_Mo_thinks : CV md_Mo_thinks 0 := ⟨wk_1082, wk_1081, wk_54, wk_82, ⟨by decide +kernel, by decide +kernel, by decide +kernel⟩, by decide⟩
abbrev md_Mo_putsBack : Md := (yX7_putsBack, cX7_putsBack, 1, none)
theorem cv_Mo_putsBack : CV md_Mo_putsBack 0 := ⟨wk_1093, wk_1092, wk_56, wk_82, ⟨by decide +kernel, by decide +kernel, by decide +kernel⟩, by decide⟩
abbrev md_Mo_bits : Md := (yX7_bits, cX7_bits, 3, (some .int))
theorem cs_Mo_bits : CS md_Mo_bits 1 := ⟨wk_900, wk_899, wk_82, ⟨by decide +kernel, by decide +kernel, by decide +kernel⟩, by decide⟩
abbrev md_Mo_isJumper : Md := (yX7_isJumper, cX7_isJumper, 2, (some .boolean))
theorem cv_Mo_isJumper : CV md_Mo_isJumper 1 := ⟨wk_873, wk_872, wk_22, wk_82, ⟨by decide +kernel, by decide +kernel, by decide +kernel⟩, by decide⟩
abbrev md_Mo_isTreaty : Md := (yX7_isTreaty, cX7_isTreaty, 1, (some .boolean))
theorem cs_Mo_isTreaty : CS md_Mo_isTreaty 1 := ⟨wk_955, wk_954, wk_82, ⟨by decide +kernel, by decide +kernel, by decide +kernel⟩, by decide⟩
abbrev md_Mo_becomes : Md := (yX7_becomes, cX7_becomes, 4, (some .int))
theorem cv_Mo_becomes : CV md_Mo_becomes 2 := ⟨wk_922, wk_921, wk_31, wk_82, ⟨by decide +kernel, by decide +kernel, by decide +kernel⟩, by decide⟩
abbrev md_Mo_of : Md := (yX7_of, cX7_of, 3, (some .int))
theorem cv_Mo_of : CV md_Mo_of 2 := ⟨wk_877, wk_876, wk_23, wk_82, ⟨by decide +kernel, by decide +kernel, by decide +kernel⟩, by decide⟩
abbrev md_Mo_lets : Md := (yX7_lets, cX7_lets, 4, none)
theorem cv_Mo_lets : CV md_Mo_lets 3 := ⟨wk_865, wk_864, wk_21, wk_82, ⟨by decide +kernel, by decide +kernel, by decide +kernel⟩, by decide⟩
abbrev md_Mo_isIn : Md := (yX7_isIn, cX7_isIn, 2, (some .boolean))
theorem cv_Mo_isIn : CV md_Mo_isIn 1 := ⟨wk_897, wk_896, wk_28, wk_82, ⟨by decide +kernel, by decide +kernel, by decide +kernel⟩, by decide⟩
abbrev md_Mo_allIn : Md := (yX7_allIn, cX7_allIn, 3, (some .int))
theorem cv_Mo_allIn : CV md_Mo_allIn 0 := ⟨wk_893, wk_892, wk_27, wk_82, ⟨by decide +kernel, by decide +kernel, by decide +kernel⟩, by decide⟩
abbrev md_Mo_word : Md := (yX7_word, cX7_word, 1, (some .int))
theorem cv_Mo_word : CV md_Mo_word 0 := ⟨wk_889, wk_888, wk_26, wk_82, ⟨by decide +kernel, by decide +kernel, by decide +kernel⟩, by decide⟩
abbrev md_Mo_doesTurn : Md := (yX7_doesTurn, cX7_doesTurn, 1, (some .boolean))
theorem cv_Mo_doesTurn : CV md_Mo_doesTurn 0 := ⟨wk_935, wk_934, wk_32, wk_82, ⟨by decide +kernel, by decide +kernel, by decide +kernel⟩, by decide⟩
abbrev md_Mo_takesOf : Md := (yX7_takesOf, cX7_takesOf, 3, (some .int))
theorem cv_Mo_takesOf : CV md_Mo_takesOf 1 := ⟨wk_885, wk_884, wk_25, wk_82, ⟨by decide +kernel, by decide +kernel, by decide +kernel⟩, by decide⟩
abbrev md_Mo_costsOf : Md := (yX7_costsOf, cX7_costsOf, 2, (some .int))
theorem cv_Mo_costsOf : CV md_Mo_costsOf 1 := ⟨wk_881, wk_880, wk_24, wk_82, ⟨by decide +kernel, by decide +kernel, by decide +kernel⟩, by decide⟩
abbrev md_Mo_leansOf : Md := (yX7_leansOf, cX7_leansOf, 6, (some .int))
theorem cv_Mo_leansOf : CV md_Mo_leansOf 2 := ⟨wk_963, wk_962, wk_34, wk_82, ⟨by decide +kernel, by decide +kernel, by decide +kernel⟩, by decide⟩
abbrev md_Mo_likesOf : Md := (yX7_likesOf, cX7_likesOf, 3, (some .int))
theorem cv_Mo_likesOf : CV md_Mo_likesOf 2 := ⟨wk_959, wk_958, wk_33, wk_82, ⟨by decide +kernel, by decide +kernel, by decide +kernel⟩, by decide⟩
abbrev md_Mo_doesTake : Md := (yX7_doesTake, cX7_doesTake, 3, (some .boolean))
theorem cv_Mo_doesTake : CV md_Mo_doesTake 2 := ⟨wk_983, wk_982, wk_38, wk_82, ⟨by decide +kernel, by decide +kernel, by decide +kernel⟩, by decide⟩
abbrev md_Mo_isTaken : Md := (yX7_isTaken, cX7_isTaken, 4, (some .boolean))
theorem cv_Mo_isTaken : CV md_Mo_isTaken 1 := ⟨wk_979, wk_978, wk_37, wk_82, ⟨by decide +kernel, by decide +kernel, by decide +kernel⟩, by decide⟩
abbrev md_Mo_isKm : Md := (yX7_isKm, cX7_isKm, 1, (some .boolean))
theorem cs_Mo_isKm : CS md_Mo_isKm 1 := ⟨wk_851, wk_850, wk_82, ⟨by decide +kernel, by decide +kernel, by decide +kernel⟩, by decide⟩
abbrev md_Mo_jumper : Md := (yX7_jumper, cX7_jumper, 5, (some .int))
theorem cv_Mo_jumper : CV md_Mo_jumper 3 := ⟨wk_848, wk_846, wk_847, wk_82, ⟨by decide +kernel, by decide +kernel, by decide +kernel⟩, by decide⟩
abbrev md_Mo_jumperIs : Md := (yX7_jumperIs, cX7_jumperIs, 3, (some .int))
theorem cv_Mo_jumperIs : CV md_Mo_jumperIs 2 := ⟨wk_869, wk_867, wk_868, wk_82, ⟨by decide +kernel, by decide +kernel, by decide +kernel⟩, by decide⟩
abbrev md_Mo_become : Md := (yX7_become, cX7_become, 3, (some .int))
theorem cv_Mo_become : CV md_Mo_become 2 := ⟨wk_918, wk_916, wk_917, wk_82, ⟨by decide +kernel, by decide +kernel, by decide +kernel⟩, by decide⟩
abbrev md_Mo_as : Md := (yX7_as, cX7_as, 5, (some .int))
theorem cv_Mo_as : CV md_Mo_as 2 := ⟨wk_926, wk_924, wk_925, wk_82, ⟨by decide +kernel, by decide +kernel, by decide +kernel⟩, by decide⟩
abbrev md_Mo_jump : Md := (yX7_jump, cX7_jump, 3, (some .int))
theorem cv_Mo_jump : CV md_Mo_jump 2 := ⟨wk_931, wk_929, wk_930, wk_82, ⟨by decide +kernel, by decide +kernel, by decide +kernel⟩, by decide⟩
abbrev md_Mo_rest : Md := (yX7_rest, cX7_rest, 3, (some .int))
theorem cv_Mo_rest : CV md_Mo_rest 2 := ⟨wk_940, wk_938, wk_939, wk_82, ⟨by decide +kernel, by decide +kernel, by decide +kernel⟩, by decide⟩
abbrev md_Mo_spell : Md := (yX7_spell, cX7_spell, 3, (some .int))
theorem cv_Mo_spell : CV md_Mo_spell 2 := ⟨wk_944, wk_942, wk_943, wk_82, ⟨by decide +kernel, by decide +kernel, by decide +kernel⟩, by decide⟩
abbrev md_Mo_bar : Md := (yX7_bar, cX7_bar, 2, (some .int))
theorem cv_Mo_bar : CV md_Mo_bar 1 := ⟨wk_948, wk_946, wk_947, wk_82, ⟨by decide +kernel, by decide +kernel, by decide +kernel⟩, by decide⟩
abbrev md_Mo_liking : Md := (yX7_liking, cX7_liking, 3, (some .int))
theorem cv_Mo_liking : CV md_Mo_liking 2 := ⟨wk_952, wk_950, wk_951, wk_82, ⟨by decide +kernel, by decide +kernel, by decide +kernel⟩, by decide⟩
abbrev md_Mo_mayTalk : Md := (yX7_mayTalk, cX7_mayTalk, 2, (some .boolean))
theorem cv_Mo_mayTalk : CV md_Mo_mayTalk 1 := ⟨wk_971, wk_970, wk_35, wk_82, ⟨by decide +kernel, by decide +kernel, by decide +kernel⟩, by decide⟩
abbrev md_Mo_talks : Md := (yX7_talks, cX7_talks, 3, (some .boolean))
theorem cv_Mo_talks : CV md_Mo_talks 1 := ⟨wk_975, wk_974, wk_36, wk_82, ⟨by decide +kernel, by decide +kernel, by decide +kernel⟩, by decide⟩
abbrev md_Mo_talk : Md := (yX7_talk, cX7_talk, 3, (some .int))
theorem cv_Mo_talk : CV md_Mo_talk 2 := ⟨wk_967, wk_965, wk_966, wk_82, ⟨by decide +kernel, by decide +kernel, by decide +kernel⟩, by decide⟩
abbrev md_Mo_feed : Md := (yX7_feed, cX7_feed, 5, (some .int))
theorem cv_Mo_feed : CV md_Mo_feed 2 := ⟨wk_987, wk_985, wk_986, wk_82, ⟨by decide +kernel, by decide +kernel, by decide +kernel⟩, by decide⟩
abbrev md_Mo_look : Md := (yX7_look, cX7_look, 1, (some .int))
theorem cv_Mo_look : CV md_Mo_look 0 := ⟨wk_1020, wk_1019, wk_45, wk_82, ⟨by decide +kernel, by decide +kernel, by decide +kernel⟩, by decide⟩
abbrev md_Mo_lays : Md := (yX7_lays, cX7_lays, 3, none)
theorem cv_Mo_lays : CV md_Mo_lays 2 := ⟨wk_1028, wk_1027, wk_47, wk_82, ⟨by decide +kernel, by decide +kernel, by decide +kernel⟩, by decide⟩
abbrev md_Mo_nameOf : Md := (yX7_nameOf, cX7_nameOf, 2, (some .int))
theorem cv_Mo_nameOf : CV md_Mo_nameOf 1 := ⟨wk_1024, wk_1023, wk_46, wk_82, ⟨by decide +kernel, by decide +kernel, by decide +kernel⟩, by decide⟩
abbrev md_Mo_number : Md := (yX7_number, cX7_number, 3, none)
theorem cv_Mo_number : CV md_Mo_number 0 := ⟨wk_1036, wk_1035, wk_49, wk_82, ⟨by decide +kernel, by decide +kernel, by decide +kernel⟩, by decide⟩
abbrev md_Mo_opens : Md := (yX7_opens, cX7_opens, 2, none)
theorem cv_Mo_opens : CV md_Mo_opens 1 := ⟨wk_1032, wk_1031, wk_48, wk_82, ⟨by decide +kernel, by decide +kernel, by decide +kernel⟩, by decide⟩
abbrev md_Mo_one : Md := (yX7_one, cX7_one, 3, none)
theorem cv_Mo_one : CV md_Mo_one 0 := ⟨wk_1016, wk_1015, wk_44, wk_82, ⟨by decide +kernel, by decide +kernel, by decide +kernel⟩, by decide⟩
abbrev md_Mo_times : Md := (yX7_times, cX7_times, 2, none)
theorem cv_Mo_times : CV md_Mo_times 0 := ⟨wk_1012, wk_1011, wk_43, wk_82, ⟨by decide +kernel, by decide +kernel, by decide +kernel⟩, by decide⟩
abbrev md_Mo_sum : Md := (yX7_sum, cX7_sum, 2, none)
theorem cv_Mo_sum : CV md_Mo_sum 0 := ⟨wk_1008, wk_1007, wk_42, wk_82, ⟨by decide +kernel, by decide +kernel, by decide +kernel⟩, by decide⟩
abbrev md_Mo_compares : Md := (yX7_compares, cX7_compares, 2, none)
theorem cv_Mo_compares : CV md_Mo_compares 0 := ⟨wk_1004, wk_1003, wk_41, wk_82, ⟨by decide +kernel, by decide +kernel, by decide +kernel⟩, by decide⟩
abbrev md_Mo_all : Md := (yX7_all, cX7_all, 1, none)
theorem cv_Mo_all : CV md_Mo_all 0 := ⟨wk_1000, wk_999, wk_40, wk_82, ⟨by decide +kernel, by decide +kernel, by decide +kernel⟩, by decide⟩
abbrev md_Mo_any : Md := (yX7_any, cX7_any, 1, none)
theorem cv_Mo_any : CV md_Mo_any 0 := ⟨wk_996, wk_995, wk_39, wk_82, ⟨by decide +kernel, by decide +kernel, by decide +kernel⟩, by decide⟩
abbrev md_Mo_text : Md := (yX7_text, cX7_text, 4, (some .int))
theorem cv_Mo_text : CV md_Mo_text 1 := ⟨wk_992, wk_990, wk_991, wk_82, ⟨by decide +kernel, by decide +kernel, by decide +kernel⟩, by decide⟩
abbrev md_Mo_untell : Md := (yX7_untell, cX7_untell, 2, (some .int))
theorem cv_Mo_untell : CV md_Mo_untell 1 := ⟨wk_1040, wk_1038, wk_1039, wk_82, ⟨by decide +kernel, by decide +kernel, by decide +kernel⟩, by decide⟩
abbrev md_Mo_twoOf : Md := (yX7_twoOf, cX7_twoOf, 3, (some .int))
theorem cs_Mo_twoOf : CS md_Mo_twoOf 3 := ⟨wk_911, wk_910, wk_82, ⟨by decide +kernel, by decide +kernel, by decide +kernel⟩, by decide⟩
abbrev md_Mo_works : Md := (yX7_works, cX7_works, 5, (some .int))
theorem cv_Mo_works : CV md_Mo_works 1 := ⟨wk_908, wk_907, wk_30, wk_82, ⟨by decide +kernel, by decide +kernel, by decide +kernel⟩, by decide⟩
abbrev md_Mo_gives : Md := (yX7_gives, cX7_gives, 7, (some .int))
theorem cv_Mo_gives : CV md_Mo_gives 4 := ⟨wk_904, wk_903, wk_29, wk_82, ⟨by decide +kernel, by decide +kernel, by decide +kernel⟩, by decide⟩
abbrev md_Mo_law : Md := (yX7_law, cX7_law, 5, (some .int))
theorem cv_Mo_law : CV md_Mo_law 4 := ⟨wk_1044, wk_1042, wk_1043, wk_82, ⟨by decide +kernel, by decide +kernel, by decide +kernel⟩, by decide⟩
abbrev md_Mo_misses : Md := (yX7_misses, cX7_misses, 4, (some .boolean))
theorem cv_Mo_misses : CV md_Mo_misses 1 := ⟨wk_1057, wk_1056, wk_51, wk_82, ⟨by decide +kernel, by decide +kernel, by decide +kernel⟩, by decide⟩
abbrev md_Mo_goes : Md := (yX7_goes, cX7_goes, 3, (some .int))
theorem cv_Mo_goes : CV md_Mo_goes 0 := ⟨wk_1053, wk_1052, wk_50, wk_82, ⟨by decide +kernel, by decide +kernel, by decide +kernel⟩, by decide⟩
abbrev md_Mo_beats : Md := (yX7_beats, cX7_beats, 4, (some .int))
theorem cv_Mo_beats : CV md_Mo_beats 1 := ⟨wk_1048, wk_1046, wk_1047, wk_82, ⟨by decide +kernel, by decide +kernel, by decide +kernel⟩, by decide⟩
abbrev md_Mo_draw : Md := (yX7_draw, cX7_draw, 1, (some .int))
theorem cv_Mo_draw : CV md_Mo_draw 0 := ⟨wk_1069, wk_1068, wk_53, wk_82, ⟨by decide +kernel, by decide +kernel, by decide +kernel⟩, by decide⟩
abbrev md_Mo_drawn : Md := (yX7_drawn, cX7_drawn, 4, (some .boolean))
theorem cv_Mo_drawn : CV md_Mo_drawn 0 := ⟨wk_1065, wk_1064, wk_52, wk_82, ⟨by decide +kernel, by decide +kernel, by decide +kernel⟩, by decide⟩
abbrev md_Mo_loose : Md := (yX7_loose, cX7_loose, 4, (some .int))
theorem cv_Mo_loose : CV md_Mo_loose 1 := ⟨wk_1061, wk_1059, wk_1060, wk_82, ⟨by decide +kernel, by decide +kernel, by decide +kernel⟩, by decide⟩
abbrev md_Mo_seed : Md := (yX7_seed, cX7_seed, 2, (some .int))
theorem cv_Mo_seed : CV md_Mo_seed 1 := ⟨wk_1074, wk_1072, wk_1073, wk_82, ⟨by decide +kernel, by decide +kernel, by decide +kernel⟩, by decide⟩
abbrev md_Mo_goesFor : Md := (yX7_goesFor, cX7_goesFor, 4, none)
theorem cv_Mo_goesFor : CV md_Mo_goesFor 1 := ⟨wk_1089, wk_1088, wk_55, wk_82, ⟨by decide +kernel, by decide +kernel, by decide +kernel⟩, by decide⟩
abbrev md_Mo_then : Md := (yX7_then, cX7_then, 5, (some .int))
theorem cv_Mo_then : CV md_Mo_then 3 := ⟨wk_1078, wk_1076, wk_1077, wk_82, ⟨by decide +kernel, by decide +kernel, by decide +kernel⟩, by decide⟩
abbrev md_Mo_lasts : Md := (yX7_lasts, cX7_lasts, 3, (some .int))
theorem cv_Mo_lasts : CV md_Mo_lasts 1 := ⟨wk_1097, wk_1095, wk_1096, wk_82, ⟨by decide +kernel, by decide +kernel, by decide +kernel⟩, by decide⟩
abbrev md_Mo_agree : Md := (yX7_agree, cX7_agree, 6, (some .int))
theorem cv_Mo_agree : CV md_Mo_agree 1 := ⟨wk_1102, wk_1100, wk_1101, wk_82, ⟨by decide +kernel, by decide +kernel, by decide +kernel⟩, by decide⟩
abbrev md_Mo_leastLiking : Md := (yX7_leastLiking, cX7_leastLiking, 5, (some .int))
theorem cv_Mo_leastLiking : CV md_Mo_leastLiking 1 := ⟨wk_1110, wk_1109, wk_57, wk_82, ⟨by decide +kernel, by decide +kernel, by decide +kernel⟩, by decide⟩
abbrev md_Mo_fairest : Md := (yX7_fairest, cX7_fairest, 6, (some .int))
theorem cv_Mo_fairest : CV md_Mo_fairest 1 := ⟨wk_1106, wk_1104, wk_1105, wk_82, ⟨by decide +kernel, by decide +kernel, by decide +kernel⟩, by decide⟩
abbrev md_Mo_whoAlone : Md := (yX7_whoAlone, cX7_whoAlone, 6, (some .int))
theorem cv_Mo_whoAlone : CV md_Mo_whoAlone 1 := ⟨wk_1122, wk_1121, wk_59, wk_82, ⟨by decide +kernel, by decide +kernel, by decide +kernel⟩, by decide⟩
abbrev md_Mo_balksOf : Md := (yX7_balksOf, cX7_balksOf, 4, (some .int))
theorem cv_Mo_balksOf : CV md_Mo_balksOf 1 := ⟨wk_1118, wk_1117, wk_58, wk_82, ⟨by decide +kernel, by decide +kernel, by decide +kernel⟩, by decide⟩
abbrev md_Mo_balks : Md := (yX7_balks, cX7_balks, 6, (some .int))
theorem cv_Mo_balks : CV md_Mo_balks 1 := ⟨wk_1114, wk_1112, wk_1113, wk_82, ⟨by decide +kernel, by decide +kernel, by decide +kernel⟩, by decide⟩
abbrev md_Mo_soon : Md := (yX7_soon, cX7_soon, 3, (some .int))
theorem cv_Mo_soon : CV md_Mo_soon 1 := ⟨wk_1126, wk_1124, wk_1125, wk_82, ⟨by decide +kernel, by decide +kernel, by decide +kernel⟩, by decide⟩
abbrev md_Mo_meets : Md := (yX7_meets, cX7_meets, 6, (some .int))
theorem cv_Mo_meets : CV md_Mo_meets 4 := ⟨wk_1130, wk_1128, wk_1129, wk_82, ⟨by decide +kernel, by decide +kernel, by decide +kernel⟩, by decide⟩
abbrev md_Mo_odds : Md := (yX7_odds, cX7_odds, 6, (some .int))
theorem cv_Mo_odds : CV md_Mo_odds 2 := ⟨wk_1134, wk_1132, wk_1133, wk_82, ⟨by decide +kernel, by decide +kernel, by decide +kernel⟩, by decide⟩
abbrev md_Mo_isSo : Md := (yX7_isSo, cX7_isSo, 4, (some .boolean))
theorem cv_Mo_isSo : CV md_Mo_isSo 1 := ⟨wk_1149, wk_1148, wk_61, wk_82, ⟨by decide +kernel, by decide +kernel, by decide +kernel⟩, by decide⟩
abbrev md_Mo_fits : Md := (yX7_fits, cX7_fits, 4, (some .int))
theorem cv_Mo_fits : CV md_Mo_fits 1 := ⟨wk_1138, wk_1136, wk_1137, wk_82, ⟨by decide +kernel, by decide +kernel, by decide +kernel⟩, by decide⟩
abbrev md_Mo_begins : Md := (yX7_begins, cX7_begins, 2, none)
theorem cv_Mo_begins : CV md_Mo_begins 1 := ⟨wk_1165, wk_1164, wk_64, wk_82, ⟨by decide +kernel, by decide +kernel, by decide +kernel⟩, by decide⟩
abbrev md_Mo_plainSings : Md := (yX7_plainSings, cX7_plainSings, 3, (some .int))
theorem cv_Mo_plainSings : CV md_Mo_plainSings 2 := ⟨wk_1169, wk_1168, wk_65, wk_82, ⟨by decide +kernel, by decide +kernel, by decide +kernel⟩, by decide⟩
abbrev md_Mo_masterSings : Md := (yX7_masterSings, cX7_masterSings, 3, (some .int))
theorem cv_Mo_masterSings : CV md_Mo_masterSings 2 := ⟨wk_1161, wk_1160, wk_63, wk_82, ⟨by decide +kernel, by decide +kernel, by decide +kernel⟩, by decide⟩
abbrev md_Mo_sings : Md := (yX7_sings, cX7_sings, 3, (some .int))
theorem cv_Mo_sings : CV md_Mo_sings 2 := ⟨wk_1157, wk_1156, wk_62, wk_82, ⟨by decide +kernel, by decide +kernel, by decide +kernel⟩, by decide⟩
abbrev md_Mo_plainJumps : Md := (yX7_plainJumps, cX7_plainJumps, 3, (some .int))
theorem cv_Mo_plainJumps : CV md_Mo_plainJumps 2 := ⟨wk_1181, wk_1180, wk_68, wk_82, ⟨by decide +kernel, by decide +kernel, by decide +kernel⟩, by decide⟩
abbrev md_Mo_conJumps : Md := (yX7_conJumps, cX7_conJumps, 3, (some .int))
theorem cv_Mo_conJumps : CV md_Mo_conJumps 2 := ⟨wk_1177, wk_1176, wk_67, wk_82, ⟨by decide +kernel, by decide +kernel, by decide +kernel⟩, by decide⟩
abbrev md_Mo_jumps : Md := (yX7_jumps, cX7_jumps, 3, (some .int))
theorem cv_Mo_jumps : CV md_Mo_jumps 2 := ⟨wk_1173, wk_1172, wk_66, wk_82, ⟨by decide +kernel, by decide +kernel, by decide +kernel⟩, by decide⟩
abbrev md_Mo_plainClaps : Md := (yX7_plainClaps, cX7_plainClaps, 3, (some .int))
theorem cv_Mo_plainClaps : CV md_Mo_plainClaps 2 := ⟨wk_1189, wk_1188, wk_70, wk_82, ⟨by decide +kernel, by decide +kernel, by decide +kernel⟩, by decide⟩
abbrev md_Mo_claps : Md := (yX7_claps, cX7_claps, 3, (some .int))
theorem cv_Mo_claps : CV md_Mo_claps 2 := ⟨wk_1185, wk_1184, wk_69, wk_82, ⟨by decide +kernel, by decide +kernel, by decide +kernel⟩, by decide⟩
abbrev md_Mo_plainParts : Md := (yX7_plainParts, cX7_plainParts, 4, (some .int))
theorem cv_Mo_plainParts : CV md_Mo_plainParts 2 := ⟨wk_1197, wk_1196, wk_72, wk_82, ⟨by decide +kernel, by decide +kernel, by decide +kernel⟩, by decide⟩
abbrev md_Mo_partsBy : Md := (yX7_partsBy, cX7_partsBy, 4, (some .int))
theorem cv_Mo_partsBy : CV md_Mo_partsBy 2 := ⟨wk_1193, wk_1192, wk_71, wk_82, ⟨by decide +kernel, by decide +kernel, by decide +kernel⟩, by decide⟩
abbrev md_Mo_voice : Md := (yX7_voice, cX7_voice, 5, (some .int))
theorem cv_Mo_voice : CV md_Mo_voice 3 := ⟨wk_1153, wk_1151, wk_1152, wk_82, ⟨by decide +kernel, by decide +kernel, by decide +kernel⟩, by decide⟩
abbrev md_Mo_body : Md := (yX7_body, cX7_body, 2, (some .int))
theorem cv_Mo_body : CV md_Mo_body 1 := ⟨wk_1202, wk_1200, wk_1201, wk_82, ⟨by decide +kernel, by decide +kernel, by decide +kernel⟩, by decide⟩
abbrev md_Mo_isSheet : Md := (yX7_isSheet, cX7_isSheet, 1, (some .boolean))
theorem cs_Mo_isSheet : CS md_Mo_isSheet 1 := ⟨wk_1145, wk_1144, wk_82, ⟨by decide +kernel, by decide +kernel, by decide +kernel⟩, by decide⟩
abbrev md_Mo_sheet : Md := (yX7_sheet, cX7_sheet, 5, (some .int))
theorem cv_Mo_sheet : CV md_Mo_sheet 3 := ⟨wk_1206, wk_1204, wk_1205, wk_82, ⟨by decide +kernel, by decide +kernel, by decide +kernel⟩, by decide⟩
abbrev md_Mo_notThere : Md := (yX7_notThere, cX7_notThere, 2, (some .int))
theorem cv_Mo_notThere : CV md_Mo_notThere 1 := ⟨wk_1142, wk_1141, wk_60, wk_82, ⟨by decide +kernel, by decide +kernel, by decide +kernel⟩, by decide⟩
abbrev md_Mo_put : Md := (yX7_put, cX7_put, 5, (some .int))
theorem cv_Mo_put : CV md_Mo_put 3 := ⟨wk_1210, wk_1208, wk_1209, wk_82, ⟨by decide +kernel, by decide +kernel, by decide +kernel⟩, by decide⟩
abbrev md_Mo_notMoved : Md := (yX7_notMoved, cX7_notMoved, 7, (some .int))
theorem cv_Mo_notMoved : CV md_Mo_notMoved 5 := ⟨wk_1218, wk_1217, wk_73, wk_82, ⟨by decide +kernel, by decide +kernel, by decide +kernel⟩, by decide⟩
abbrev md_Mo_move : Md := (yX7_move, cX7_move, 9, (some .int))
theorem cv_Mo_move : CV md_Mo_move 5 := ⟨wk_1214, wk_1212, wk_1213, wk_82, ⟨by decide +kernel, by decide +kernel, by decide +kernel⟩, by decide⟩
abbrev md_Mo_breaths : Md := (yX7_breaths, cX7_breaths, 4, (some .int))
theorem cv_Mo_breaths : CV md_Mo_breaths 1 := ⟨wk_1222, wk_1220, wk_1221, wk_82, ⟨by decide +kernel, by decide +kernel, by decide +kernel⟩, by decide⟩
abbrev md_Mo_judge : Md := (yX7_judge, cX7_judge, 4, (some .int))
theorem cv_Mo_judge : CV md_Mo_judge 1 := ⟨wk_1226, wk_1224, wk_1225, wk_82, ⟨by decide +kernel, by decide +kernel, by decide +kernel⟩, by decide⟩
abbrev md_Mo_image : Md := (yX7_image, cX7_image, 1, (some .int))
theorem cv_Mo_image : CV md_Mo_image 0 := ⟨wk_1230, wk_1228, wk_1229, wk_82, ⟨by decide +kernel, by decide +kernel, by decide +kernel⟩, by decide⟩
abbrev md_Mo_restore : Md := (yX7_restore, cX7_restore, 1, (some .int))
theorem cv_Mo_restore : CV md_Mo_restore 0 := ⟨wk_1234, wk_1232, wk_1233, wk_82, ⟨by decide +kernel, by decide +kernel, by decide +kernel⟩, by decide⟩
abbrev md_Mo_tell : Md := (yX7_tell, cX7_tell, 2, (some .int))
theorem cv_Mo_tell : CV md_Mo_tell 1 := ⟨wk_1238, wk_1236, wk_1237, wk_82, ⟨by decide +kernel, by decide +kernel, by decide +kernel⟩, by decide⟩
abbrev md_Mo_check : Md := (yX7_check, cX7_check, 3, (some .int))
theorem cv_Mo_check : CV md_Mo_check 0 := ⟨wk_1242, wk_1240, wk_1241, wk_82, ⟨by decide +kernel, by decide +kernel, by decide +kernel⟩, by decide⟩
abbrev md_Mo_count : Md := (yX7_count, cX7_count, 2, (some .int))
theorem cv_Mo_count : CV md_Mo_count 1 := ⟨wk_1246, wk_1244, wk_1245, wk_82, ⟨by decide +kernel, by decide +kernel, by decide +kernel⟩, by decide⟩
abbrev md_Mo_told : Md := (yX7_told, cX7_told, 2, (some .int))
theorem cv_Mo_told : CV md_Mo_told 1 := ⟨wk_1250, wk_1248, wk_1249, wk_82, ⟨by decide +kernel, by decide +kernel, by decide +kernel⟩, by decide⟩
abbrev md_In_bitCount : Md := (yXI_bitCount, cXI_bitCount, 1, (some .int))
theorem cs_In_bitCount : CS md_In_bitCount 1 := ⟨wk_376, wk_375, wk_83, ⟨by decide +kernel, by decide +kernel, by decide +kernel⟩, by decide⟩
end
section
def il_Rd_read : List (Nat × Instr × Nat) := [(0, .aload_n 1, 1), (1, .getfield 18, 3), (4, .iconst 0, 1), (5, .aload_n 0, 1), (6, .getfield 15, 3), (9, .iconst 0, 1), (10, .bipush 60, 2), (12, .invokestatic 21, 3), (15, .aload_n 0, 1), (16, .aload_n 1, 1), (17, .getfield 27, 3), (20, .putfield 31, 3), (23, .aload_n 0, 1), (24, .iload_n 2, 1), (25, .putfield 32, 3), (28, .aload_n 0, 1), (29, .iconst 0, 1), (30, .putfield 35, 3), (33, .aload_n 0, 1), (34, .iconst 0, 1), (35, .putfield 38, 3), (38, .aload_n 0, 1), (39, .iconst 0, 1), (40, .putfield 41, 3), (43, .aload_n 0, 1), (44, .iconst 0, 1), (45, .invokevirtual 45, 3), (48, .aload_n 0, 1), (49, .getfield 41, 3), (52, .ifCond .ne 14, 3), (55, .aload_n 0, 1), (56, .getfield 35, 3), (59, .aload_n 0, 1), (60, .getfield 31, 3), (63, .if_icmp .ge 10, 3), (66, .aload_n 0, 1), (67, .getfield 35, 3), (70, .goto 4, 3), (73, .iconst (-1), 1), (74, .ireturn, 1)]
theorem hd_Rd_read : dall cX0_read il_Rd_read = true := by decide +kernel
def il_Rd_readOr : List (Nat × Instr × Nat) := [(0, .aload_n 0, 1), (1, .iload_n 1, 1), (2, .invokevirtual 49, 3), (5, .iconst 0, 1), (6, .istore_n 2, 1), (7, .iload_n 2, 1), (8, .bipush 60, 2), (10, .if_icmp .ge 39, 3), (13, .aload_n 0, 1), (14, .bipush 124, 2), (16, .invokevirtual 52, 3), (19, .ifCond .eq 30, 3), (22, .aload_n 0, 1), (23, .dup, 1), (24, .getfield 35, 3), (27, .iconst 1, 1), (28, .iadd, 1), (29, .putfield 35, 3), (32, .aload_n 0, 1), (33, .iload_n 1, 1), (34, .invokevirtual 49, 3), (37, .aload_n 0, 1), (38, .bipush (-124), 2), (40, .invokevirtual 56, 3), (43, .iinc 2 1, 3), (46, .goto (-39), 3), (49, .return_, 1)]
theorem hd_Rd_readOr : dall cX0_readOr il_Rd_readOr = true := by decide +kernel
def il_Rd_readAnd : List (Nat × Instr × Nat) := [(0, .aload_n 0, 1), (1, .iload_n 1, 1), (2, .invokevirtual 59, 3), (5, .iconst 0, 1), (6, .istore_n 2, 1), (7, .iload_n 2, 1), (8, .bipush 60, 2), (10, .if_icmp .ge 39, 3), (13, .aload_n 0, 1), (14, .bipush 38, 2), (16, .invokevirtual 52, 3), (19, .ifCond .eq 30, 3), (22, .aload_n 0, 1), (23, .dup, 1), (24, .getfield 35, 3), (27, .iconst 1, 1), (28, .iadd, 1), (29, .putfield 35, 3), (32, .aload_n 0, 1), (33, .iload_n 1, 1), (34, .invokevirtual 59, 3), (37, .aload_n 0, 1), (38, .bipush (-38), 2), (40, .invokevirtual 56, 3), (43, .iinc 2 1, 3), (46, .goto (-39), 3), (49, .return_, 1)]
theorem hd_Rd_readAnd : dall cX0_readAnd il_Rd_readAnd = true := by decide +kernel
def il_Rd_readLikeness : List (Nat × Instr × Nat) := [(0, .aload_n 0, 1), (1, .iload_n 1, 1), (2, .invokevirtual 62, 3), (5, .aload_n 0, 1), (6, .bipush 60, 2), (8, .invokevirtual 52, 3), (11, .ifCond .ne 21, 3), (14, .aload_n 0, 1), (15, .bipush 61, 2), (17, .invokevirtual 52, 3), (20, .ifCond .ne 12, 3), (23, .aload_n 0, 1), (24, .bipush 62, 2), (26, .invokevirtual 52, 3), (29, .ifCond .eq 34, 3), (32, .aload_n 0, 1), (33, .getfield 15, 3), (36, .aload_n 0, 1), (37, .getfield 35, 3), (40, .iaload, 1), (41, .istore_n 2, 1), (42, .aload_n 0, 1), (43, .dup, 1), (44, .getfield 35, 3), (47, .iconst 1, 1), (48, .iadd, 1), (49, .putfield 35, 3), (52, .aload_n 0, 1), (53, .iload_n 1, 1), (54, .invokevirtual 62, 3), (57, .aload_n 0, 1), (58, .iload_n 2, 1), (59, .ineg, 1), (60, .invokevirtual 56, 3), (63, .return_, 1)]
theorem hd_Rd_readLikeness : dall cX0_readLikeness il_Rd_readLikeness = true := by decide +kernel
def il_Rd_readSum : List (Nat × Instr × Nat) := [(0, .aload_n 0, 1), (1, .iload_n 1, 1), (2, .invokevirtual 65, 3), (5, .iconst 0, 1), (6, .istore_n 2, 1), (7, .iload_n 2, 1), (8, .bipush 60, 2), (10, .if_icmp .ge 58, 3), (13, .aload_n 0, 1), (14, .bipush 43, 2), (16, .invokevirtual 52, 3), (19, .ifCond .ne 12, 3), (22, .aload_n 0, 1), (23, .bipush 45, 2), (25, .invokevirtual 52, 3), (28, .ifCond .eq 40, 3), (31, .aload_n 0, 1), (32, .getfield 15, 3), (35, .aload_n 0, 1), (36, .getfield 35, 3), (39, .iaload, 1), (40, .istore_n 3, 1), (41, .aload_n 0, 1), (42, .dup, 1), (43, .getfield 35, 3), (46, .iconst 1, 1), (47, .iadd, 1), (48, .putfield 35, 3), (51, .aload_n 0, 1), (52, .iload_n 1, 1), (53, .invokevirtual 65, 3), (56, .aload_n 0, 1), (57, .iload_n 3, 1), (58, .ineg, 1), (59, .invokevirtual 56, 3), (62, .iinc 2 1, 3), (65, .goto (-58), 3), (68, .return_, 1)]
theorem hd_Rd_readSum : dall cX0_readSum il_Rd_readSum = true := by decide +kernel
def il_Rd_readProduct : List (Nat × Instr × Nat) := [(0, .aload_n 0, 1), (1, .iload_n 1, 1), (2, .invokevirtual 68, 3), (5, .iconst 0, 1), (6, .istore_n 2, 1), (7, .iload_n 2, 1), (8, .bipush 60, 2), (10, .if_icmp .ge 67, 3), (13, .aload_n 0, 1), (14, .bipush 42, 2), (16, .invokevirtual 52, 3), (19, .ifCond .ne 21, 3), (22, .aload_n 0, 1), (23, .bipush 47, 2), (25, .invokevirtual 52, 3), (28, .ifCond .ne 12, 3), (31, .aload_n 0, 1), (32, .bipush 37, 2), (34, .invokevirtual 52, 3), (37, .ifCond .eq 40, 3), (40, .aload_n 0, 1), (41, .getfield 15, 3), (44, .aload_n 0, 1), (45, .getfield 35, 3), (48, .iaload, 1), (49, .istore_n 3, 1), (50, .aload_n 0, 1), (51, .dup, 1), (52, .getfield 35, 3), (55, .iconst 1, 1), (56, .iadd, 1), (57, .putfield 35, 3), (60, .aload_n 0, 1), (61, .iload_n 1, 1), (62, .invokevirtual 68, 3), (65, .aload_n 0, 1), (66, .iload_n 3, 1), (67, .ineg, 1), (68, .invokevirtual 56, 3), (71, .iinc 2 1, 3), (74, .goto (-67), 3), (77, .return_, 1)]
theorem hd_Rd_readProduct : dall cX0_readProduct il_Rd_readProduct = true := by decide +kernel
def il_Rd_readPart : List (Nat × Instr × Nat) := [(0, .aload_n 0, 1), (1, .invokevirtual 71, 3), (4, .istore_n 2, 1), (5, .iload_n 2, 1), (6, .ifCond .lt 23, 3), (9, .aload_n 0, 1), (10, .dup, 1), (11, .getfield 35, 3), (14, .iconst 1, 1), (15, .iadd, 1), (16, .putfield 35, 3), (19, .aload_n 0, 1), (20, .iconst (-1), 1), (21, .iload_n 2, 1), (22, .isub, 1), (23, .invokevirtual 56, 3), (26, .goto 100, 3), (29, .aload_n 0, 1), (30, .invokevirtual 75, 3), (33, .ifCond .eq 10, 3), (36, .aload_n 0, 1), (37, .invokevirtual 79, 3), (40, .goto 86, 3), (43, .iload_n 1, 1), (44, .iconst 5, 1), (45, .if_icmp .ge 38, 3), (48, .aload_n 0, 1), (49, .bipush 33, 2), (51, .invokevirtual 52, 3), (54, .ifCond .eq 29, 3), (57, .aload_n 0, 1), (58, .dup, 1), (59, .getfield 35, 3), (62, .iconst 1, 1), (63, .iadd, 1), (64, .putfield 35, 3), (67, .aload_n 0, 1), (68, .iload_n 1, 1), (69, .iconst 1, 1), (70, .iadd, 1), (71, .invokevirtual 68, 3), (74, .aload_n 0, 1), (75, .bipush (-33), 2), (77, .invokevirtual 56, 3), (80, .goto 46, 3), (83, .iload_n 1, 1), (84, .iconst 5, 1), (85, .if_icmp .ge 36, 3), (88, .aload_n 0, 1), (89, .bipush 40, 2), (91, .invokevirtual 52, 3), (94, .ifCond .eq 27, 3), (97, .aload_n 0, 1), (98, .dup, 1), (99, .getfield 35, 3), (102, .iconst 1, 1), (103, .iadd, 1), (104, .putfield 35, 3), (107, .aload_n 0, 1), (108, .iload_n 1, 1), (109, .iconst 1, 1), (110, .iadd, 1), (111, .invokevirtual 45, 3), (114, .aload_n 0, 1), (115, .invokevirtual 82, 3), (118, .goto 8, 3), (121, .aload_n 0, 1), (122, .iconst 1, 1), (123, .putfield 41, 3), (126, .return_, 1)]
theorem hd_Rd_readPart : dall cX0_readPart il_Rd_readPart = true := by decide +kernel
def il_Rd_readNumber : List (Nat × Instr × Nat) := [(0, .iconst 0, 1), (1, .istore_n 1, 1), (2, .iconst 0, 1), (3, .istore_n 2, 1), (4, .iload_n 2, 1), (5, .iconst 4, 1), (6, .if_icmp .ge 44, 3), (9, .aload_n 0, 1), (10, .invokevirtual 75, 3), (13, .ifCond .eq 37, 3), (16, .iload_n 1, 1), (17, .bipush 10, 2), (19, .imul, 1), (20, .aload_n 0, 1), (21, .getfield 15, 3), (24, .aload_n 0, 1), (25, .getfield 35, 3), (28, .iaload, 1), (29, .iadd, 1), (30, .bipush 48, 2), (32, .isub, 1), (33, .istore_n 1, 1), (34, .aload_n 0, 1), (35, .dup, 1), (36, .getfield 35, 3), (39, .iconst 1, 1), (40, .iadd, 1), (41, .putfield 35, 3), (44, .iinc 2 1, 3), (47, .goto (-43), 3), (50, .aload_n 0, 1), (51, .iload_n 1, 1), (52, .invokevirtual 56, 3), (55, .return_, 1)]
theorem hd_Rd_readNumber : dall cX0_readNumber il_Rd_readNumber = true := by decide +kernel
def il_Rd_close : List (Nat × Instr × Nat) := [(0, .aload_n 0, 1), (1, .bipush 41, 2), (3, .invokevirtual 52, 3), (6, .ifCond .eq 16, 3), (9, .aload_n 0, 1), (10, .dup, 1), (11, .getfield 35, 3), (14, .iconst 1, 1), (15, .iadd, 1), (16, .putfield 35, 3), (19, .goto 8, 3), (22, .aload_n 0, 1), (23, .iconst 1, 1), (24, .putfield 41, 3), (27, .return_, 1)]
theorem hd_Rd_close : dall cX0_close il_Rd_close = true := by decide +kernel
def il_Rd_nextName : List (Nat × Instr × Nat) := [(0, .iconst 0, 1), (1, .istore_n 1, 1), (2, .iload_n 1, 1), (3, .iconst 3, 1), (4, .if_icmp .ge 40, 3), (7, .aload_n 0, 1), (8, .getfield 32, 3), (11, .iconst 3, 1), (12, .imul, 1), (13, .iload_n 1, 1), (14, .iadd, 1), (15, .istore_n 2, 1), (16, .iload_n 2, 1), (17, .getstatic 85, 3), (20, .arraylength, 1), (21, .if_icmp .ge 17, 3), (24, .aload_n 0, 1), (25, .getstatic 85, 3), (28, .iload_n 2, 1), (29, .caload, 1), (30, .invokevirtual 52, 3), (33, .ifCond .eq 5, 3), (36, .iload_n 1, 1), (37, .ireturn, 1), (38, .iinc 1 1, 3), (41, .goto (-39), 3), (44, .iconst (-1), 1), (45, .ireturn, 1)]
theorem hd_Rd_nextName : dall cX0_nextName il_Rd_nextName = true := by decide +kernel
def il_Rd_isDigit : List (Nat × Instr × Nat) := [(0, .aload_n 0, 1), (1, .getfield 41, 3), (4, .ifCond .ne 46, 3), (7, .aload_n 0, 1), (8, .getfield 35, 3), (11, .aload_n 0, 1), (12, .getfield 31, 3), (15, .if_icmp .ge 35, 3), (18, .aload_n 0, 1), (19, .getfield 15, 3), (22, .aload_n 0, 1), (23, .getfield 35, 3), (26, .iaload, 1), (27, .bipush 48, 2), (29, .if_icmp .lt 21, 3), (32, .aload_n 0, 1), (33, .getfield 15, 3), (36, .aload_n 0, 1), (37, .getfield 35, 3), (40, .iaload, 1), (41, .bipush 57, 2), (43, .if_icmp .gt 7, 3), (46, .iconst 1, 1), (47, .goto 4, 3), (50, .iconst 0, 1), (51, .ireturn, 1)]
theorem hd_Rd_isDigit : dall cX0_isDigit il_Rd_isDigit = true := by decide +kernel
def il_Rd_isNext : List (Nat × Instr × Nat) := [(0, .aload_n 0, 1), (1, .getfield 41, 3), (4, .ifCond .ne 31, 3), (7, .aload_n 0, 1), (8, .getfield 35, 3), (11, .aload_n 0, 1), (12, .getfield 31, 3), (15, .if_icmp .ge 20, 3), (18, .aload_n 0, 1), (19, .getfield 15, 3), (22, .aload_n 0, 1), (23, .getfield 35, 3), (26, .iaload, 1), (27, .iload_n 1, 1), (28, .if_icmp .ne 7, 3), (31, .iconst 1, 1), (32, .goto 4, 3), (35, .iconst 0, 1), (36, .ireturn, 1)]
theorem hd_Rd_isNext : dall cX0_isNext il_Rd_isNext = true := by decide +kernel
def il_Rd_write : List (Nat × Instr × Nat) := [(0, .aload_n 0, 1), (1, .getfield 38, 3), (4, .bipush 60, 2), (6, .if_icmp .ge 23, 3), (9, .aload_n 0, 1), (10, .getfield 9, 3), (13, .aload_n 0, 1), (14, .getfield 38, 3), (17, .iload_n 1, 1), (18, .iastore, 1), (19, .aload_n 0, 1), (20, .dup, 1), (21, .getfield 38, 3), (24, .iconst 1, 1), (25, .iadd, 1), (26, .putfield 38, 3), (29, .return_, 1)]
theorem hd_Rd_write : dall cX0_write il_Rd_write = true := by decide +kernel
def il_Rp_copy : List (Nat × Instr × Nat) := [(0, .aload_n 1, 1), (1, .getfield 9, 3), (4, .iconst 0, 1), (5, .aload_n 0, 1), (6, .getfield 9, 3), (9, .iconst 0, 1), (10, .bipush 6, 2), (12, .invokestatic 50, 3), (15, .aload_n 1, 1), (16, .getfield 15, 3), (19, .iconst 0, 1), (20, .aload_n 0, 1), (21, .getfield 15, 3), (24, .iconst 0, 1), (25, .bipush 6, 2), (27, .invokestatic 50, 3), (30, .aload_n 1, 1), (31, .getfield 18, 3), (34, .iconst 0, 1), (35, .aload_n 0, 1), (36, .getfield 18, 3), (39, .iconst 0, 1), (40, .bipush 6, 2), (42, .invokestatic 50, 3), (45, .aload_n 1, 1), (46, .getfield 21, 3), (49, .iconst 0, 1), (50, .aload_n 0, 1), (51, .getfield 21, 3), (54, .iconst 0, 1), (55, .bipush 6, 2), (57, .invokestatic 50, 3), (60, .aload_n 1, 1), (61, .getfield 24, 3), (64, .iconst 0, 1), (65, .aload_n 0, 1), (66, .getfield 24, 3), (69, .iconst 0, 1), (70, .bipush 6, 2), (72, .invokestatic 50, 3), (75, .aload_n 1, 1), (76, .getfield 27, 3), (79, .iconst 0, 1), (80, .aload_n 0, 1), (81, .getfield 27, 3), (84, .iconst 0, 1), (85, .aload_n 0, 1), (86, .getfield 27, 3), (89, .arraylength, 1), (90, .invokestatic 50, 3), (93, .aload_n 0, 1), (94, .aload_n 1, 1), (95, .getfield 56, 3), (98, .putfield 56, 3), (101, .aload_n 0, 1), (102, .aload_n 1, 1), (103, .getfield 59, 3), (106, .putfield 59, 3), (109, .aload_n 0, 1), (110, .aload_n 1, 1), (111, .getfield 36, 3), (114, .putfield 36, 3), (117, .aload_n 0, 1), (118, .aload_n 1, 1), (119, .getfield 40, 3), (122, .putfield 40, 3), (125, .aload_n 0, 1), (126, .aload_n 1, 1), (127, .getfield 62, 3), (130, .putfield 62, 3), (133, .aload_n 0, 1), (134, .aload_n 1, 1), (135, .getfield 43, 3), (138, .putfield 43, 3), (141, .return_, 1)]
theorem hd_Rp_copy : dall cX1_copy il_Rp_copy = true := by decide +kernel
def il_Rp_has : List (Nat × Instr × Nat) := [(0, .iload_n 1, 1), (1, .ifCond .lt 15, 3), (4, .iload_n 1, 1), (5, .aload_n 0, 1), (6, .getfield 56, 3), (9, .if_icmp .ge 7, 3), (12, .iconst 1, 1), (13, .goto 4, 3), (16, .iconst 0, 1), (17, .ireturn, 1)]
theorem hd_Rp_has : dall cX1_has il_Rp_has = true := by decide +kernel
def il_Rp_add : List (Nat × Instr × Nat) := [(0, .aload_n 0, 1), (1, .getfield 56, 3), (4, .istore 4, 2), (6, .aload_n 0, 1), (7, .dup, 1), (8, .getfield 56, 3), (11, .iconst 1, 1), (12, .iadd, 1), (13, .putfield 56, 3), (16, .aload_n 0, 1), (17, .iload 4, 2), (19, .iload_n 1, 1), (20, .invokevirtual 65, 3), (23, .aload_n 0, 1), (24, .getfield 18, 3), (27, .iload 4, 2), (29, .iload_n 2, 1), (30, .iastore, 1), (31, .aload_n 0, 1), (32, .getfield 21, 3), (35, .iload 4, 2), (37, .iload_n 3, 1), (38, .iastore, 1), (39, .aload_n 0, 1), (40, .getfield 24, 3), (43, .iload 4, 2), (45, .iconst 0, 1), (46, .iastore, 1), (47, .iload 4, 2), (49, .ireturn, 1)]
theorem hd_Rp_add : dall cX1_add il_Rp_add = true := by decide +kernel
def il_Rp_setKindAndMark : List (Nat × Instr × Nat) := [(0, .aload_n 0, 1), (1, .getfield 9, 3), (4, .iload_n 1, 1), (5, .iload_n 2, 1), (6, .bipush 10, 2), (8, .idiv, 1), (9, .iastore, 1), (10, .aload_n 0, 1), (11, .getfield 15, 3), (14, .iload_n 1, 1), (15, .iload_n 2, 1), (16, .bipush 10, 2), (18, .irem, 1), (19, .iastore, 1), (20, .return_, 1)]
theorem hd_Rp_setKindAndMark : dall cX1_setKindAndMark il_Rp_setKindAndMark = true := by decide +kernel
def il_Rp_word : List (Nat × Instr × Nat) := [(0, .aload_n 0, 1), (1, .getfield 59, 3), (4, .iconst 4, 1), (5, .irem, 1), (6, .ireturn, 1)]
theorem hd_Rp_word : dall cX1_word il_Rp_word = true := by decide +kernel
def il_Rp_turns : List (Nat × Instr × Nat) := [(0, .aload_n 0, 1), (1, .getfield 27, 3), (4, .iconst 0, 1), (5, .iaload, 1), (6, .ifCond .le 16, 3), (9, .aload_n 0, 1), (10, .getfield 27, 3), (13, .iconst 1, 1), (14, .iaload, 1), (15, .ifCond .le 7, 3), (18, .iconst 1, 1), (19, .goto 4, 3), (22, .iconst 0, 1), (23, .ireturn, 1)]
theorem hd_Rp_turns : dall cX1_turns il_Rp_turns = true := by decide +kernel
def il_Rp_mayTalk : List (Nat × Instr × Nat) := [(0, .aload_n 0, 1), (1, .invokevirtual 69, 3), (4, .ifCond .eq 15, 3), (7, .aload_n 0, 1), (8, .invokevirtual 73, 3), (11, .iconst 3, 1), (12, .if_icmp .eq 7, 3), (15, .iconst 1, 1), (16, .goto 4, 3), (19, .iconst 0, 1), (20, .ireturn, 1)]
theorem hd_Rp_mayTalk : dall cX1_mayTalk il_Rp_mayTalk = true := by decide +kernel
def il_Rp_howManyIn : List (Nat × Instr × Nat) := [(0, .aload_n 0, 1), (1, .invokevirtual 77, 3), (4, .invokestatic 80, 3), (7, .ireturn, 1)]
theorem hd_Rp_howManyIn : dall cX1_howManyIn il_Rp_howManyIn = true := by decide +kernel
def il_Rp_setIn : List (Nat × Instr × Nat) := [(0, .iconst 0, 1), (1, .istore_n 1, 1), (2, .iconst 0, 1), (3, .istore_n 2, 1), (4, .iload_n 2, 1), (5, .aload_n 0, 1), (6, .getfield 56, 3), (9, .if_icmp .ge 20, 3), (12, .iload_n 1, 1), (13, .aload_n 0, 1), (14, .getfield 24, 3), (17, .iload_n 2, 1), (18, .iaload, 1), (19, .iload_n 2, 1), (20, .ishl, 1), (21, .ior, 1), (22, .istore_n 1, 1), (23, .iinc 2 1, 3), (26, .goto (-22), 3), (29, .iload_n 1, 1), (30, .ireturn, 1)]
theorem hd_Rp_setIn : dall cX1_setIn il_Rp_setIn = true := by decide +kernel
def il_Rp_takes : List (Nat × Instr × Nat) := [(0, .iconst 1, 1), (1, .aload_n 0, 1), (2, .invokevirtual 73, 3), (5, .iadd, 1), (6, .istore_n 2, 1), (7, .aload_n 0, 1), (8, .getfield 9, 3), (11, .iload_n 1, 1), (12, .iaload, 1), (13, .tableswitch 62 1 6 #[39, 62, 43, 45, 54, 58], 39), (52, .iload_n 2, 1), (53, .iconst 1, 1), (54, .iadd, 1), (55, .ireturn, 1), (56, .iconst 1, 1), (57, .ireturn, 1), (58, .iload_n 2, 1), (59, .iconst 1, 1), (60, .iadd, 1), (61, .aload_n 0, 1), (62, .invokevirtual 86, 3), (65, .iadd, 1), (66, .ireturn, 1), (67, .iload_n 2, 1), (68, .iconst 2, 1), (69, .idiv, 1), (70, .ireturn, 1), (71, .iconst 2, 1), (72, .iload_n 2, 1), (73, .imul, 1), (74, .ireturn, 1), (75, .iload_n 2, 1), (76, .ireturn, 1)]
theorem hd_Rp_takes : dall cX1_takes il_Rp_takes = true := by decide +kernel
def il_Rp_leans : List (Nat × Instr × Nat) := [(0, .bipush 10, 2), (2, .iload_n 2, 1), (3, .bipush 7, 2), (5, .aload_n 0, 1), (6, .getfield 15, 3), (9, .iload_n 1, 1), (10, .iaload, 1), (11, .imul, 1), (12, .bipush 9, 2), (14, .iadd, 1), (15, .iand, 1), (16, .invokestatic 80, 3), (19, .imul, 1), (20, .istore_n 3, 1), (21, .aload_n 0, 1), (22, .getfield 9, 3), (25, .iload_n 1, 1), (26, .iaload, 1), (27, .tableswitch 98 1 6 #[37, 42, 53, 60, 68, 87], 37), (64, .bipush 60, 2), (66, .iload_n 3, 1), (67, .isub, 1), (68, .ireturn, 1), (69, .iload_n 3, 1), (70, .iconst 5, 1), (71, .aload_n 0, 1), (72, .getfield 21, 3), (75, .iload_n 1, 1), (76, .iaload, 1), (77, .imul, 1), (78, .iadd, 1), (79, .ireturn, 1), (80, .bipush 40, 2), (82, .iload_n 2, 1), (83, .iconst 5, 1), (84, .irem, 1), (85, .iadd, 1), (86, .ireturn, 1), (87, .bipush 60, 2), (89, .iload_n 3, 1), (90, .isub, 1), (91, .bipush 10, 2), (93, .isub, 1), (94, .ireturn, 1), (95, .iload_n 3, 1), (96, .iconst 5, 1), (97, .aload_n 0, 1), (98, .getfield 21, 3), (101, .iload_n 1, 1), (102, .iaload, 1), (103, .imul, 1), (104, .iadd, 1), (105, .aload_n 0, 1), (106, .getfield 59, 3), (109, .bipush 7, 2), (111, .irem, 1), (112, .iadd, 1), (113, .ireturn, 1), (114, .iload_n 3, 1), (115, .iconst 2, 1), (116, .idiv, 1), (117, .aload_n 0, 1), (118, .getfield 15, 3), (121, .iload_n 1, 1), (122, .iaload, 1), (123, .iadd, 1), (124, .ireturn, 1), (125, .iload_n 3, 1), (126, .ireturn, 1)]
theorem hd_Rp_leans : dall cX1_leans il_Rp_leans = true := by decide +kernel
def il_Rp_costs : List (Nat × Instr × Nat) := [(0, .aload_n 0, 1), (1, .getfield 46, 3), (4, .iconst 0, 1), (5, .aaload, 1), (6, .aload_n 0, 1), (7, .iload_n 1, 1), (8, .invokevirtual 89, 3), (11, .aload_n 0, 1), (12, .invokevirtual 73, 3), (15, .aload_n 0, 1), (16, .invokevirtual 86, 3), (19, .invokevirtual 92, 3), (22, .ireturn, 1)]
theorem hd_Rp_costs : dall cX1_costs il_Rp_costs = true := by decide +kernel
def il_Rp_likes : List (Nat × Instr × Nat) := [(0, .aload_n 0, 1), (1, .getfield 46, 3), (4, .iconst 1, 1), (5, .aaload, 1), (6, .aload_n 0, 1), (7, .iload_n 1, 1), (8, .iload_n 2, 1), (9, .invokevirtual 98, 3), (12, .iload_n 2, 1), (13, .aload_n 0, 1), (14, .getfield 21, 3), (17, .iload_n 1, 1), (18, .iaload, 1), (19, .invokevirtual 92, 3), (22, .ireturn, 1)]
theorem hd_Rp_likes : dall cX1_likes il_Rp_likes = true := by decide +kernel
def il_Rp_isTaken : List (Nat × Instr × Nat) := [(0, .iconst 0, 1), (1, .istore_n 2, 1), (2, .iload_n 2, 1), (3, .aload_n 0, 1), (4, .getfield 56, 3), (7, .if_icmp .ge 34, 3), (10, .aload_n 0, 1), (11, .getfield 24, 3), (14, .iload_n 2, 1), (15, .iaload, 1), (16, .iconst 1, 1), (17, .if_icmp .ne 18, 3), (20, .aload_n 0, 1), (21, .iload_n 2, 1), (22, .iload_n 1, 1), (23, .invokevirtual 102, 3), (26, .aload_n 0, 1), (27, .getfield 40, 3), (30, .if_icmp .ge 5, 3), (33, .iconst 0, 1), (34, .ireturn, 1), (35, .iinc 2 1, 3), (38, .goto (-36), 3), (41, .iconst 1, 1), (42, .ireturn, 1)]
theorem hd_Rp_isTaken : dall cX1_isTaken il_Rp_isTaken = true := by decide +kernel
def il_Rp_leastLiking : List (Nat × Instr × Nat) := [(0, .bipush 99, 2), (2, .istore_n 2, 1), (3, .iconst 0, 1), (4, .istore_n 3, 1), (5, .iload_n 3, 1), (6, .aload_n 0, 1), (7, .getfield 56, 3), (10, .if_icmp .ge 30, 3), (13, .aload_n 0, 1), (14, .getfield 24, 3), (17, .iload_n 3, 1), (18, .iaload, 1), (19, .iconst 1, 1), (20, .if_icmp .ne 14, 3), (23, .iload_n 2, 1), (24, .aload_n 0, 1), (25, .iload_n 3, 1), (26, .iload_n 1, 1), (27, .invokevirtual 102, 3), (30, .invokestatic 105, 3), (33, .istore_n 2, 1), (34, .iinc 3 1, 3), (37, .goto (-32), 3), (40, .iload_n 2, 1), (41, .ireturn, 1)]
theorem hd_Rp_leastLiking : dall cX1_leastLiking il_Rp_leastLiking = true := by decide +kernel
def il_Rp_whoBalks : List (Nat × Instr × Nat) := [(0, .iconst 0, 1), (1, .istore_n 1, 1), (2, .iload_n 1, 1), (3, .aload_n 0, 1), (4, .getfield 56, 3), (7, .if_icmp .ge 16, 3), (10, .aload_n 0, 1), (11, .getfield 33, 3), (14, .iload_n 1, 1), (15, .iconst 0, 1), (16, .iastore, 1), (17, .iinc 1 1, 3), (20, .goto (-18), 3), (23, .iconst 0, 1), (24, .istore_n 1, 1), (25, .iload_n 1, 1), (26, .bipush 64, 2), (28, .if_icmp .ge 29, 3), (31, .aload_n 0, 1), (32, .iload_n 1, 1), (33, .invokevirtual 110, 3), (36, .istore_n 2, 1), (37, .iload_n 2, 1), (38, .ifCond .lt 13, 3), (41, .aload_n 0, 1), (42, .getfield 33, 3), (45, .iload_n 2, 1), (46, .dup2, 1), (47, .iaload, 1), (48, .iconst 1, 1), (49, .iadd, 1), (50, .iastore, 1), (51, .iinc 1 1, 3), (54, .goto (-29), 3), (57, .iconst (-1), 1), (58, .istore_n 1, 1), (59, .iconst 0, 1), (60, .istore_n 2, 1), (61, .iload_n 2, 1), (62, .aload_n 0, 1), (63, .getfield 56, 3), (66, .if_icmp .ge 40, 3), (69, .aload_n 0, 1), (70, .getfield 24, 3), (73, .iload_n 2, 1), (74, .iaload, 1), (75, .iconst 1, 1), (76, .if_icmp .ne 24, 3), (79, .iload_n 1, 1), (80, .ifCond .lt 18, 3), (83, .aload_n 0, 1), (84, .getfield 33, 3), (87, .iload_n 2, 1), (88, .iaload, 1), (89, .aload_n 0, 1), (90, .getfield 33, 3), (93, .iload_n 1, 1), (94, .iaload, 1), (95, .if_icmp .le 5, 3), (98, .iload_n 2, 1), (99, .istore_n 1, 1), (100, .iinc 2 1, 3), (103, .goto (-42), 3), (106, .iload_n 1, 1), (107, .iconst 0, 1), (108, .invokestatic 113, 3), (111, .ireturn, 1)]
theorem hd_Rp_whoBalks : dall cX1_whoBalks il_Rp_whoBalks = true := by decide +kernel
def il_Rp_onlyAgainst : List (Nat × Instr × Nat) := [(0, .iconst (-1), 1), (1, .istore_n 2, 1), (2, .iconst 0, 1), (3, .istore_n 3, 1), (4, .iload_n 3, 1), (5, .aload_n 0, 1), (6, .getfield 56, 3), (9, .if_icmp .ge 40, 3), (12, .aload_n 0, 1), (13, .getfield 24, 3), (16, .iload_n 3, 1), (17, .iaload, 1), (18, .iconst 1, 1), (19, .if_icmp .ne 24, 3), (22, .aload_n 0, 1), (23, .iload_n 3, 1), (24, .iload_n 1, 1), (25, .invokevirtual 102, 3), (28, .aload_n 0, 1), (29, .getfield 40, 3), (32, .if_icmp .ge 11, 3), (35, .iload_n 2, 1), (36, .ifCond .lt 5, 3), (39, .iconst (-1), 1), (40, .ireturn, 1), (41, .iload_n 3, 1), (42, .istore_n 2, 1), (43, .iinc 3 1, 3), (46, .goto (-42), 3), (49, .iload_n 2, 1), (50, .ireturn, 1)]
theorem hd_Rp_onlyAgainst : dall cX1_onlyAgainst il_Rp_onlyAgainst = true := by decide +kernel
def il_Rp_pass : List (Nat × Instr × Nat) := [(0, .iconst 0, 1), (1, .istore_n 1, 1), (2, .aload_n 0, 1), (3, .invokevirtual 69, 3), (6, .ifCond .eq 74, 3), (9, .iconst 0, 1), (10, .istore_n 2, 1), (11, .iload_n 2, 1), (12, .aload_n 0, 1), (13, .getfield 56, 3), (16, .if_icmp .ge 20, 3), (19, .aload_n 0, 1), (20, .getfield 30, 3), (23, .iload_n 2, 1), (24, .aload_n 0, 1), (25, .iload_n 2, 1), (26, .invokevirtual 116, 3), (29, .iastore, 1), (30, .iinc 2 1, 3), (33, .goto (-22), 3), (36, .iconst 0, 1), (37, .istore_n 2, 1), (38, .iload_n 2, 1), (39, .aload_n 0, 1), (40, .getfield 56, 3), (43, .if_icmp .ge 17, 3), (46, .iload_n 1, 1), (47, .aload_n 0, 1), (48, .iload_n 2, 1), (49, .invokevirtual 119, 3), (52, .iadd, 1), (53, .istore_n 1, 1), (54, .iinc 2 1, 3), (57, .goto (-19), 3), (60, .aload_n 0, 1), (61, .getfield 27, 3), (64, .iconst 0, 1), (65, .dup2, 1), (66, .iaload, 1), (67, .iconst 1, 1), (68, .isub, 1), (69, .iastore, 1), (70, .aload_n 0, 1), (71, .getfield 27, 3), (74, .iconst 1, 1), (75, .dup2, 1), (76, .iaload, 1), (77, .iconst 1, 1), (78, .isub, 1), (79, .iastore, 1), (80, .aload_n 0, 1), (81, .ldc 122, 2), (83, .aload_n 0, 1), (84, .getfield 62, 3), (87, .iload_n 1, 1), (88, .iadd, 1), (89, .invokestatic 105, 3), (92, .putfield 62, 3), (95, .aload_n 0, 1), (96, .dup, 1), (97, .getfield 59, 3), (100, .iconst 1, 1), (101, .iadd, 1), (102, .putfield 59, 3), (105, .iload_n 1, 1), (106, .ireturn, 1)]
theorem hd_Rp_pass : dall cX1_pass il_Rp_pass = true := by decide +kernel
def il_Rp_skip : List (Nat × Instr × Nat) := [(0, .aload_n 0, 1), (1, .getfield 24, 3), (4, .iload_n 1, 1), (5, .iaload, 1), (6, .ifCond .ne 24, 3), (9, .aload_n 0, 1), (10, .getfield 18, 3), (13, .iload_n 1, 1), (14, .bipush 99, 2), (16, .aload_n 0, 1), (17, .getfield 18, 3), (20, .iload_n 1, 1), (21, .iaload, 1), (22, .iconst 1, 1), (23, .iadd, 1), (24, .invokestatic 105, 3), (27, .iastore, 1), (28, .iconst 0, 1), (29, .ireturn, 1), (30, .aload_n 0, 1), (31, .getfield 18, 3), (34, .iload_n 1, 1), (35, .iaload, 1), (36, .aload_n 0, 1), (37, .getfield 30, 3), (40, .iload_n 1, 1), (41, .iaload, 1), (42, .if_icmp .ge 12, 3), (45, .aload_n 0, 1), (46, .getfield 24, 3), (49, .iload_n 1, 1), (50, .iconst 0, 1), (51, .iastore, 1), (52, .iconst 1, 1), (53, .ireturn, 1), (54, .aload_n 0, 1), (55, .getfield 18, 3), (58, .iload_n 1, 1), (59, .dup2, 1), (60, .iaload, 1), (61, .aload_n 0, 1), (62, .getfield 30, 3), (65, .iload_n 1, 1), (66, .iaload, 1), (67, .isub, 1), (68, .iastore, 1), (69, .iconst 0, 1), (70, .ireturn, 1)]
theorem hd_Rp_skip : dall cX1_skip il_Rp_skip = true := by decide +kernel
def il_Rp_passByDraws : List (Nat × Instr × Nat) := [(0, .iconst 0, 1), (1, .istore_n 1, 1), (2, .aload_n 0, 1), (3, .getfield 56, 3), (6, .ifCond .le 67, 3), (9, .aload_n 0, 1), (10, .invokevirtual 123, 3), (13, .aload_n 0, 1), (14, .getfield 56, 3), (17, .irem, 1), (18, .istore_n 2, 1), (19, .aload_n 0, 1), (20, .invokevirtual 123, 3), (23, .bipush 64, 2), (25, .irem, 1), (26, .istore_n 3, 1), (27, .aload_n 0, 1), (28, .invokevirtual 69, 3), (31, .ifCond .eq 10, 3), (34, .aload_n 0, 1), (35, .getfield 24, 3), (38, .iload_n 2, 1), (39, .iconst 1, 1), (40, .iastore, 1), (41, .aload_n 0, 1), (42, .getfield 24, 3), (45, .iload_n 2, 1), (46, .iaload, 1), (47, .iconst 1, 1), (48, .if_icmp .ne 25, 3), (51, .aload_n 0, 1), (52, .invokevirtual 126, 3), (55, .ifCond .eq 18, 3), (58, .aload_n 0, 1), (59, .iload_n 3, 1), (60, .invokevirtual 129, 3), (63, .ifCond .eq 10, 3), (66, .aload_n 0, 1), (67, .iload_n 3, 1), (68, .putfield 36, 3), (71, .iconst 1, 1), (72, .istore_n 1, 1), (73, .aload_n 0, 1), (74, .invokevirtual 133, 3), (77, .pop, 1), (78, .iload_n 1, 1), (79, .ireturn, 1)]
theorem hd_Rp_passByDraws : dall cX1_passByDraws il_Rp_passByDraws = true := by decide +kernel
def il_Rp_draw : List (Nat × Instr × Nat) := [(0, .aload_n 0, 1), (1, .aload_n 0, 1), (2, .getfield 43, 3), (5, .ldc 136, 2), (7, .imul, 1), (8, .sipush 12345, 3), (11, .iadd, 1), (12, .putfield 43, 3), (15, .aload_n 0, 1), (16, .getfield 43, 3), (19, .bipush 8, 2), (21, .iushr, 1), (22, .ireturn, 1)]
theorem hd_Rp_draw : dall cX1_draw il_Rp_draw = true := by decide +kernel
def il_Rp_breathsRight : List (Nat × Instr × Nat) := [(0, .iconst 0, 1), (1, .istore_n 2, 1), (2, .iload_n 2, 1), (3, .aload_n 1, 1), (4, .getfield 137, 3), (7, .if_icmp .ge 32, 3), (10, .iload_n 2, 1), (11, .aload_n 0, 1), (12, .getfield 56, 3), (15, .if_icmp .ge 24, 3), (18, .aload_n 1, 1), (19, .getfield 142, 3), (22, .iload_n 2, 1), (23, .iaload, 1), (24, .aload_n 0, 1), (25, .getfield 18, 3), (28, .iload_n 2, 1), (29, .iaload, 1), (30, .if_icmp .ne 9, 3), (33, .iinc 2 1, 3), (36, .goto (-34), 3), (39, .iload_n 2, 1), (40, .ireturn, 1)]
theorem hd_Rp_breathsRight : dall cX1_breathsRight il_Rp_breathsRight = true := by decide +kernel
def il_Rp_costsRight : List (Nat × Instr × Nat) := [(0, .iconst 0, 1), (1, .istore_n 2, 1), (2, .iload_n 2, 1), (3, .aload_n 1, 1), (4, .getfield 137, 3), (7, .if_icmp .ge 31, 3), (10, .iload_n 2, 1), (11, .aload_n 0, 1), (12, .getfield 56, 3), (15, .if_icmp .ge 23, 3), (18, .aload_n 1, 1), (19, .getfield 142, 3), (22, .iload_n 2, 1), (23, .iaload, 1), (24, .aload_n 0, 1), (25, .iload_n 2, 1), (26, .invokevirtual 116, 3), (29, .if_icmp .ne 9, 3), (32, .iinc 2 1, 3), (35, .goto (-33), 3), (38, .iload_n 2, 1), (39, .ireturn, 1)]
theorem hd_Rp_costsRight : dall cX1_costsRight il_Rp_costsRight = true := by decide +kernel
def il_Rp_takeBreaths : List (Nat × Instr × Nat) := [(0, .iconst 0, 1), (1, .istore_n 2, 1), (2, .iload_n 2, 1), (3, .aload_n 1, 1), (4, .getfield 137, 3), (7, .if_icmp .ge 43, 3), (10, .iload_n 2, 1), (11, .aload_n 0, 1), (12, .getfield 56, 3), (15, .if_icmp .ge 35, 3), (18, .aload_n 1, 1), (19, .getfield 142, 3), (22, .iload_n 2, 1), (23, .iaload, 1), (24, .bipush 99, 2), (26, .invokestatic 145, 3), (29, .ifCond .eq 21, 3), (32, .aload_n 0, 1), (33, .getfield 18, 3), (36, .iload_n 2, 1), (37, .aload_n 1, 1), (38, .getfield 142, 3), (41, .iload_n 2, 1), (42, .iaload, 1), (43, .iastore, 1), (44, .iinc 2 1, 3), (47, .goto (-45), 3), (50, .iload_n 2, 1), (51, .ireturn, 1)]
theorem hd_Rp_takeBreaths : dall cX1_takeBreaths il_Rp_takeBreaths = true := by decide +kernel
def il_Rw_isMissing : List (Nat × Instr × Nat) := [(0, .aload_n 0, 1), (1, .getfield 15, 3), (4, .ifCond .ne 7, 3), (7, .iconst 1, 1), (8, .goto 4, 3), (11, .iconst 0, 1), (12, .ireturn, 1)]
theorem hd_Rw_isMissing : dall cX2_isMissing il_Rw_isMissing = true := by decide +kernel
def il_Rw_begin : List (Nat × Instr × Nat) := [(0, .aload_n 0, 1), (1, .iload_n 1, 1), (2, .putfield 15, 3), (5, .aload_n 0, 1), (6, .iload_n 2, 1), (7, .putfield 19, 3), (10, .iconst 0, 1), (11, .istore_n 3, 1), (12, .iload_n 3, 1), (13, .bipush 24, 2), (15, .if_icmp .ge 16, 3), (18, .aload_n 0, 1), (19, .getfield 9, 3), (22, .iload_n 3, 1), (23, .iconst 0, 1), (24, .iastore, 1), (25, .iinc 3 1, 3), (28, .goto (-16), 3), (31, .return_, 1)]
theorem hd_Rw_begin : dall cX2_begin il_Rw_begin = true := by decide +kernel
def il_Rw_lowest : List (Nat × Instr × Nat) := [(0, .aload_n 0, 1), (1, .getfield 15, 3), (4, .bipush 32, 2), (6, .if_icmp .ne 7, 3), (9, .iload_n 1, 1), (10, .goto 13, 3), (13, .iload_n 1, 1), (14, .iconst 1, 1), (15, .aload_n 0, 1), (16, .getfield 15, 3), (19, .ishl, 1), (20, .iconst 1, 1), (21, .isub, 1), (22, .iand, 1), (23, .ireturn, 1)]
theorem hd_Rw_lowest : dall cX2_lowest il_Rw_lowest = true := by decide +kernel
def il_Rw_holds : List (Nat × Instr × Nat) := [(0, .iload_n 1, 1), (1, .ifCond .lt 29, 3), (4, .iload_n 2, 1), (5, .ifCond .lt 25, 3), (8, .iload_n 2, 1), (9, .aload_n 0, 1), (10, .getfield 19, 3), (13, .if_icmp .gt 17, 3), (16, .iload_n 1, 1), (17, .aload_n 0, 1), (18, .getfield 19, 3), (21, .iload_n 2, 1), (22, .isub, 1), (23, .if_icmp .gt 7, 3), (26, .iconst 1, 1), (27, .goto 4, 3), (30, .iconst 0, 1), (31, .ireturn, 1)]
theorem hd_Rw_holds : dall cX2_holds il_Rw_holds = true := by decide +kernel
def il_Rw_copy : List (Nat × Instr × Nat) := [(0, .aload_n 1, 1), (1, .getfield 9, 3), (4, .iconst 0, 1), (5, .aload_n 0, 1), (6, .getfield 9, 3), (9, .iconst 0, 1), (10, .bipush 24, 2), (12, .invokestatic 22, 3), (15, .aload_n 0, 1), (16, .aload_n 1, 1), (17, .getfield 15, 3), (20, .putfield 15, 3), (23, .aload_n 0, 1), (24, .aload_n 1, 1), (25, .getfield 19, 3), (28, .putfield 19, 3), (31, .return_, 1)]
theorem hd_Rw_copy : dall cX2_copy il_Rw_copy = true := by decide +kernel
def il_Tp_add : List (Nat × Instr × Nat) := [(0, .iconst 0, 1), (1, .istore 4, 2), (3, .iload 4, 2), (5, .iload_n 3, 1), (6, .if_icmp .ge 49, 3), (9, .aload_n 0, 1), (10, .getfield 15, 3), (13, .bipush 60, 2), (15, .if_icmp .ge 40, 3), (18, .aload_n 0, 1), (19, .getfield 9, 3), (22, .aload_n 0, 1), (23, .getfield 15, 3), (26, .lload_n 1, 1), (27, .bipush 8, 2), (29, .iload 4, 2), (31, .imul, 1), (32, .lushr, 1), (33, .l2i, 1), (34, .sipush 255, 3), (37, .iand, 1), (38, .iastore, 1), (39, .aload_n 0, 1), (40, .dup, 1), (41, .getfield 15, 3), (44, .iconst 1, 1), (45, .iadd, 1), (46, .putfield 15, 3), (49, .iinc 4 1, 3), (52, .goto (-49), 3), (55, .return_, 1)]
theorem hd_Tp_add : dall cX3_add il_Tp_add = true := by decide +kernel
def il_Tp_copy : List (Nat × Instr × Nat) := [(0, .aload_n 1, 1), (1, .getfield 9, 3), (4, .iconst 0, 1), (5, .aload_n 0, 1), (6, .getfield 9, 3), (9, .iconst 0, 1), (10, .bipush 60, 2), (12, .invokestatic 19, 3), (15, .aload_n 0, 1), (16, .aload_n 1, 1), (17, .getfield 15, 3), (20, .putfield 15, 3), (23, .return_, 1)]
theorem hd_Tp_copy : dall cX3_copy il_Tp_copy = true := by decide +kernel
def il_Tx_isTold : List (Nat × Instr × Nat) := [(0, .aload_n 0, 1), (1, .getfield 22, 3), (4, .ifCond .le 7, 3), (7, .iconst 1, 1), (8, .goto 4, 3), (11, .iconst 0, 1), (12, .ireturn, 1)]
theorem hd_Tx_isTold : dall cX4_isTold il_Tx_isTold = true := by decide +kernel
def il_Tx_learn : List (Nat × Instr × Nat) := [(0, .aload_n 1, 1), (1, .iconst 0, 1), (2, .aload_n 0, 1), (3, .getfield 9, 3), (6, .iconst 0, 1), (7, .bipush 60, 2), (9, .invokestatic 25, 3), (12, .aload_n 0, 1), (13, .iload_n 2, 1), (14, .putfield 22, 3), (17, .return_, 1)]
theorem hd_Tx_learn : dall cX4_learn il_Tx_learn = true := by decide +kernel
def il_Tx_copy : List (Nat × Instr × Nat) := [(0, .aload_n 0, 1), (1, .aload_n 1, 1), (2, .getfield 9, 3), (5, .aload_n 1, 1), (6, .getfield 22, 3), (9, .invokevirtual 31, 3), (12, .return_, 1)]
theorem hd_Tx_copy : dall cX4_copy il_Tx_copy = true := by decide +kernel
def il_Tx_gives : List (Nat × Instr × Nat) := [(0, .aload_n 0, 1), (1, .invokevirtual 35, 3), (4, .ifCond .eq 13, 3), (7, .aload_n 0, 1), (8, .iload_n 1, 1), (9, .iload_n 2, 1), (10, .iload_n 3, 1), (11, .invokevirtual 39, 3), (14, .goto 4, 3), (17, .iload_n 1, 1), (18, .istore 4, 2), (20, .iconst 0, 1), (21, .aload_n 0, 1), (22, .getfield 18, 3), (25, .iload 4, 2), (27, .invokestatic 43, 3), (30, .invokestatic 49, 3), (33, .ireturn, 1)]
theorem hd_Tx_gives : dall cX4_gives il_Tx_gives = true := by decide +kernel
def il_Tx_work : List (Nat × Instr × Nat) := [(0, .iconst 0, 1), (1, .istore 4, 2), (3, .iconst 0, 1), (4, .istore 5, 2), (6, .iload 5, 2), (8, .aload_n 0, 1), (9, .getfield 22, 3), (12, .if_icmp .ge 142, 3), (15, .aload_n 0, 1), (16, .getfield 9, 3), (19, .iload 5, 2), (21, .iaload, 1), (22, .istore 6, 2), (24, .iload 6, 2), (26, .bipush (-33), 2), (28, .if_icmp .ne 38, 3), (31, .iload 4, 2), (33, .iconst 1, 1), (34, .if_icmp .lt 32, 3), (37, .aload_n 0, 1), (38, .getfield 15, 3), (41, .iload 4, 2), (43, .iconst 1, 1), (44, .isub, 1), (45, .aload_n 0, 1), (46, .getfield 15, 3), (49, .iload 4, 2), (51, .iconst 1, 1), (52, .isub, 1), (53, .iaload, 1), (54, .ifCond .ne 7, 3), (57, .iconst 1, 1), (58, .goto 4, 3), (61, .iconst 0, 1), (62, .iastore, 1), (63, .goto 85, 3), (66, .iload 6, 2), (68, .bipush (-3), 2), (70, .if_icmp .ge 46, 3), (73, .iload 4, 2), (75, .iconst 2, 1), (76, .if_icmp .lt 40, 3), (79, .iinc 4 (-1), 3), (82, .aload_n 0, 1), (83, .getfield 15, 3), (86, .iload 4, 2), (88, .iconst 1, 1), (89, .isub, 1), (90, .iload 6, 2), (92, .ineg, 1), (93, .aload_n 0, 1), (94, .getfield 15, 3), (97, .iload 4, 2), (99, .iconst 1, 1), (100, .isub, 1), (101, .iaload, 1), (102, .aload_n 0, 1), (103, .getfield 15, 3), (106, .iload 4, 2), (108, .iaload, 1), (109, .invokestatic 52, 3), (112, .iastore, 1), (113, .goto 35, 3), (116, .iload 6, 2), (118, .bipush (-3), 2), (120, .if_icmp .lt 28, 3), (123, .iload 4, 2), (125, .bipush 60, 2), (127, .if_icmp .ge 21, 3), (130, .aload_n 0, 1), (131, .getfield 15, 3), (134, .iload 4, 2), (136, .iload 6, 2), (138, .iload_n 1, 1), (139, .iload_n 2, 1), (140, .iload_n 3, 1), (141, .invokestatic 55, 3), (144, .iastore, 1), (145, .iinc 4 1, 3), (148, .iinc 5 1, 3), (151, .goto (-145), 3), (154, .aload_n 0, 1), (155, .getfield 15, 3), (158, .iconst 0, 1), (159, .iaload, 1), (160, .ireturn, 1)]
theorem hd_Tx_work : dall cX4_work il_Tx_work = true := by decide +kernel
def il_Tx_meaning : List (Nat × Instr × Nat) := [(0, .iload_n 0, 1), (1, .tableswitch 33 (-3) (-1) #[31, 29, 27], 27), (28, .iload_n 1, 1), (29, .ireturn, 1), (30, .iload_n 2, 1), (31, .ireturn, 1), (32, .iload_n 3, 1), (33, .ireturn, 1), (34, .iload_n 0, 1), (35, .ireturn, 1)]
theorem hd_Tx_meaning : dall cX4_meaning il_Tx_meaning = true := by decide +kernel
def il_Tx_join : List (Nat × Instr × Nat) := [(0, .iload_n 0, 1), (1, .lookupswitch 188 #[(37, 176), (38, 105), (42, 160), (43, 152), (45, 156), (47, 164), (60, 119), (61, 130), (62, 141), (124, 91)], 91), (92, .iload_n 1, 1), (93, .ifCond .ne 7, 3), (96, .iload_n 2, 1), (97, .ifCond .eq 7, 3), (100, .iconst 1, 1), (101, .goto 4, 3), (104, .iconst 0, 1), (105, .ireturn, 1), (106, .iload_n 1, 1), (107, .ifCond .eq 11, 3), (110, .iload_n 2, 1), (111, .ifCond .eq 7, 3), (114, .iconst 1, 1), (115, .goto 4, 3), (118, .iconst 0, 1), (119, .ireturn, 1), (120, .iload_n 1, 1), (121, .iload_n 2, 1), (122, .if_icmp .ge 7, 3), (125, .iconst 1, 1), (126, .goto 4, 3), (129, .iconst 0, 1), (130, .ireturn, 1), (131, .iload_n 1, 1), (132, .iload_n 2, 1), (133, .if_icmp .ne 7, 3), (136, .iconst 1, 1), (137, .goto 4, 3), (140, .iconst 0, 1), (141, .ireturn, 1), (142, .iload_n 1, 1), (143, .iload_n 2, 1), (144, .if_icmp .le 7, 3), (147, .iconst 1, 1), (148, .goto 4, 3), (151, .iconst 0, 1), (152, .ireturn, 1), (153, .iload_n 1, 1), (154, .iload_n 2, 1), (155, .iadd, 1), (156, .ireturn, 1), (157, .iload_n 1, 1), (158, .iload_n 2, 1), (159, .isub, 1), (160, .ireturn, 1), (161, .iload_n 1, 1), (162, .iload_n 2, 1), (163, .imul, 1), (164, .ireturn, 1), (165, .iload_n 2, 1), (166, .ifCond .ne 7, 3), (169, .iconst 0, 1), (170, .goto 6, 3), (173, .iload_n 1, 1), (174, .iload_n 2, 1), (175, .idiv, 1), (176, .ireturn, 1), (177, .iload_n 2, 1), (178, .ifCond .ne 7, 3), (181, .iconst 0, 1), (182, .goto 6, 3), (185, .iload_n 1, 1), (186, .iload_n 2, 1), (187, .irem, 1), (188, .ireturn, 1), (189, .iconst 0, 1), (190, .ireturn, 1)]
theorem hd_Tx_join : dall cX4_join il_Tx_join = true := by decide +kernel
def il_Th_speak : List (Nat × Instr × Nat) := [(0, .aload_n 0, 1), (1, .iload_n 1, 1), (2, .putfield 15, 3), (5, .aload_n 0, 1), (6, .iload_n 2, 1), (7, .putfield 19, 3), (10, .aload_n 0, 1), (11, .iload_n 3, 1), (12, .putfield 22, 3), (15, .aload_n 0, 1), (16, .iconst 0, 1), (17, .putfield 25, 3), (20, .aload_n 0, 1), (21, .iconst 0, 1), (22, .putfield 28, 3), (25, .aload_n 0, 1), (26, .aload_n 0, 1), (27, .getfield 15, 3), (30, .iload 4, 2), (32, .iload 5, 2), (34, .iconst 0, 1), (35, .invokevirtual 32, 3), (38, .ireturn, 1)]
theorem hd_Th_speak : dall cX5_speak il_Th_speak = true := by decide +kernel
def il_Th_say : List (Nat × Instr × Nat) := [(0, .aload_n 0, 1), (1, .getfield 28, 3), (4, .ifCond .ne 10, 3), (7, .iload 4, 2), (9, .bipush 20, 2), (11, .if_icmp .lt 5, 3), (14, .iconst 0, 1), (15, .ireturn, 1), (16, .iload_n 1, 1), (17, .iload_n 2, 1), (18, .invokestatic 36, 3), (21, .istore 5, 2), (23, .aload_n 0, 1), (24, .getfield 25, 3), (27, .bipush 30, 2), (29, .if_icmp .ge 24, 3), (32, .aload_n 0, 1), (33, .getfield 11, 3), (36, .aload_n 0, 1), (37, .getfield 25, 3), (40, .iload 5, 2), (42, .iastore, 1), (43, .aload_n 0, 1), (44, .dup, 1), (45, .getfield 25, 3), (48, .iconst 1, 1), (49, .iadd, 1), (50, .putfield 25, 3), (53, .aload_n 0, 1), (54, .iload 5, 2), (56, .iload_n 3, 1), (57, .iload 4, 2), (59, .iconst 1, 1), (60, .iadd, 1), (61, .invokevirtual 40, 3), (64, .ireturn, 1)]
theorem hd_Th_say : dall cX5_say il_Th_say = true := by decide +kernel
end
section
def il_Th_bodyOf : List (Nat × Instr × Nat) := [(0, .iload_n 0, 1), (1, .istore_n 2, 1), (2, .iconst 0, 1), (3, .istore_n 3, 1), (4, .iload_n 3, 1), (5, .bipush 7, 2), (7, .if_icmp .ge 46, 3), (10, .iload_n 2, 1), (11, .bipush 6, 2), (13, .invokestatic 44, 3), (16, .ifCond .eq 37, 3), (19, .getstatic 48, 3), (22, .iload_n 2, 1), (23, .iconst 4, 1), (24, .imul, 1), (25, .iload_n 1, 1), (26, .iadd, 1), (27, .iaload, 1), (28, .ifCond .eq 13, 3), (31, .getstatic 48, 3), (34, .iload_n 2, 1), (35, .iconst 4, 1), (36, .imul, 1), (37, .iload_n 1, 1), (38, .iadd, 1), (39, .iaload, 1), (40, .ireturn, 1), (41, .getstatic 51, 3), (44, .iload_n 2, 1), (45, .iaload, 1), (46, .istore_n 2, 1), (47, .iinc 3 1, 3), (50, .goto (-46), 3), (53, .iconst 0, 1), (54, .ireturn, 1)]
theorem hd_Th_bodyOf : dall cX5_bodyOf il_Th_bodyOf = true := by decide +kernel
def il_Th_work : List (Nat × Instr × Nat) := [(0, .iload_n 1, 1), (1, .lookupswitch 266 #[(10, 115), (11, 122), (12, 136), (13, 153), (20, 159), (21, 170), (30, 191), (40, 202), (50, 213), (51, 224), (60, 238), (70, 249), (71, 252)], 115), (116, .iload_n 2, 1), (117, .aload_n 0, 1), (118, .getfield 19, 3), (121, .iadd, 1), (122, .ireturn, 1), (123, .aload_n 0, 1), (124, .aload_n 0, 1), (125, .getfield 15, 3), (128, .iconst 0, 1), (129, .iload_n 2, 1), (130, .iload_n 3, 1), (131, .invokevirtual 32, 3), (134, .iconst 2, 1), (135, .imul, 1), (136, .ireturn, 1), (137, .aload_n 0, 1), (138, .aload_n 0, 1), (139, .getfield 15, 3), (142, .iconst 1, 1), (143, .iload_n 2, 1), (144, .iload_n 3, 1), (145, .invokevirtual 32, 3), (148, .aload_n 0, 1), (149, .getfield 22, 3), (152, .isub, 1), (153, .ireturn, 1), (154, .aload_n 0, 1), (155, .iload_n 2, 1), (156, .invokevirtual 54, 3), (159, .ireturn, 1), (160, .aload_n 0, 1), (161, .iconst 0, 1), (162, .iconst 0, 1), (163, .iload_n 2, 1), (164, .iload_n 3, 1), (165, .invokevirtual 32, 3), (168, .iconst 4, 1), (169, .isub, 1), (170, .ireturn, 1), (171, .aload_n 0, 1), (172, .iconst 0, 1), (173, .iconst 3, 1), (174, .iload_n 2, 1), (175, .iload_n 3, 1), (176, .invokevirtual 32, 3), (179, .aload_n 0, 1), (180, .aload_n 0, 1), (181, .getfield 15, 3), (184, .iconst 1, 1), (185, .iconst 1, 1), (186, .iload_n 3, 1), (187, .invokevirtual 32, 3), (190, .iadd, 1), (191, .ireturn, 1), (192, .iconst 0, 1), (193, .aload_n 0, 1), (194, .iconst 0, 1), (195, .iconst 1, 1), (196, .iload_n 2, 1), (197, .iload_n 3, 1), (198, .invokevirtual 32, 3), (201, .isub, 1), (202, .ireturn, 1), (203, .aload_n 0, 1), (204, .iconst 0, 1), (205, .iconst 2, 1), (206, .iload_n 2, 1), (207, .iconst 2, 1), (208, .idiv, 1), (209, .iload_n 3, 1), (210, .invokevirtual 32, 3), (213, .ireturn, 1), (214, .aload_n 0, 1), (215, .iconst 1, 1), (216, .iconst 0, 1), (217, .iload_n 2, 1), (218, .iload_n 3, 1), (219, .invokevirtual 32, 3), (222, .iconst 3, 1), (223, .imul, 1), (224, .ireturn, 1), (225, .aload_n 0, 1), (226, .iconst 1, 1), (227, .iconst 2, 1), (228, .iload_n 2, 1), (229, .iload_n 3, 1), (230, .invokevirtual 32, 3), (233, .aload_n 0, 1), (234, .getfield 19, 3), (237, .ixor, 1), (238, .ireturn, 1), (239, .aload_n 0, 1), (240, .iconst 2, 1), (241, .iconst 1, 1), (242, .iload_n 2, 1), (243, .iconst 1, 1), (244, .iadd, 1), (245, .iload_n 3, 1), (246, .invokevirtual 32, 3), (249, .ireturn, 1), (250, .bipush 9, 2), (252, .ireturn, 1), (253, .aload_n 0, 1), (254, .iconst 0, 1), (255, .iconst 1, 1), (256, .iload_n 2, 1), (257, .iload_n 3, 1), (258, .invokevirtual 32, 3), (261, .aload_n 0, 1), (262, .getfield 22, 3), (265, .iadd, 1), (266, .ireturn, 1), (267, .iconst 0, 1), (268, .ireturn, 1)]
theorem hd_Th_work : dall cX5_work il_Th_work = true := by decide +kernel
def il_Th_part : List (Nat × Instr × Nat) := [(0, .aload_n 0, 1), (1, .getfield 22, 3), (4, .aload_n 0, 1), (5, .getfield 19, 3), (8, .isub, 1), (9, .istore_n 2, 1), (10, .aload_n 0, 1), (11, .iload_n 2, 1), (12, .ifCond .ne 7, 3), (15, .iconst 1, 1), (16, .goto 4, 3), (19, .iconst 0, 1), (20, .putfield 28, 3), (23, .aload_n 0, 1), (24, .getfield 28, 3), (27, .ifCond .eq 7, 3), (30, .iconst 0, 1), (31, .goto 6, 3), (34, .iload_n 1, 1), (35, .iload_n 2, 1), (36, .idiv, 1), (37, .ireturn, 1)]
theorem hd_Th_part : dall cX5_part il_Th_part = true := by decide +kernel
def il_Mn_jumper : List (Nat × Instr × Nat) := [(0, .iload_n 1, 1), (1, .invokestatic 82, 3), (4, .ifCond .eq 20, 3), (7, .iload_n 2, 1), (8, .bipush 99, 2), (10, .invokestatic 86, 3), (13, .ifCond .eq 11, 3), (16, .iload_n 3, 1), (17, .iconst 1, 1), (18, .invokestatic 86, 3), (21, .ifCond .ne 9, 3), (24, .aload_n 0, 1), (25, .iconst 1, 1), (26, .invokevirtual 90, 3), (29, .ireturn, 1), (30, .aload_n 0, 1), (31, .getfield 25, 3), (34, .getfield 94, 3), (37, .bipush 6, 2), (39, .if_icmp .lt 9, 3), (42, .aload_n 0, 1), (43, .iconst 4, 1), (44, .invokevirtual 90, 3), (47, .ireturn, 1), (48, .aload_n 0, 1), (49, .getfield 25, 3), (52, .iload_n 1, 1), (53, .iload_n 2, 1), (54, .iload_n 3, 1), (55, .invokevirtual 98, 3), (58, .ireturn, 1)]
theorem hd_Mn_jumper : dall cX6_jumper il_Mn_jumper = true := by decide +kernel
def il_Mn_jumperIs : List (Nat × Instr × Nat) := [(0, .aload_n 0, 1), (1, .getfield 25, 3), (4, .iload_n 1, 1), (5, .invokevirtual 102, 3), (8, .ifCond .ne 9, 3), (11, .aload_n 0, 1), (12, .iconst 1, 1), (13, .invokevirtual 90, 3), (16, .ireturn, 1), (17, .iload_n 2, 1), (18, .tableswitch 97 0 5 #[38, 48, 58, 68, 78, 88], 38), (56, .aload_n 0, 1), (57, .getfield 25, 3), (60, .getfield 105, 3), (63, .iload_n 1, 1), (64, .iaload, 1), (65, .ireturn, 1), (66, .aload_n 0, 1), (67, .getfield 25, 3), (70, .getfield 108, 3), (73, .iload_n 1, 1), (74, .iaload, 1), (75, .ireturn, 1), (76, .aload_n 0, 1), (77, .getfield 25, 3), (80, .getfield 111, 3), (83, .iload_n 1, 1), (84, .iaload, 1), (85, .ireturn, 1), (86, .aload_n 0, 1), (87, .getfield 25, 3), (90, .getfield 114, 3), (93, .iload_n 1, 1), (94, .iaload, 1), (95, .ireturn, 1), (96, .aload_n 0, 1), (97, .getfield 25, 3), (100, .getfield 117, 3), (103, .iload_n 1, 1), (104, .iaload, 1), (105, .ireturn, 1), (106, .aload_n 0, 1), (107, .getfield 25, 3), (110, .iload_n 1, 1), (111, .invokevirtual 120, 3), (114, .ireturn, 1), (115, .aload_n 0, 1), (116, .iconst 1, 1), (117, .invokevirtual 90, 3), (120, .ireturn, 1)]
theorem hd_Mn_jumperIs : dall cX6_jumperIs il_Mn_jumperIs = true := by decide +kernel
def il_Mn_become : List (Nat × Instr × Nat) := [(0, .aload_n 0, 1), (1, .getfield 25, 3), (4, .iload_n 1, 1), (5, .invokevirtual 102, 3), (8, .ifCond .eq 10, 3), (11, .iload_n 2, 1), (12, .invokestatic 82, 3), (15, .ifCond .ne 9, 3), (18, .aload_n 0, 1), (19, .iconst 1, 1), (20, .invokevirtual 90, 3), (23, .ireturn, 1), (24, .aload_n 0, 1), (25, .getfield 25, 3), (28, .getfield 105, 3), (31, .iload_n 1, 1), (32, .iaload, 1), (33, .istore_n 3, 1), (34, .aload_n 0, 1), (35, .getfield 25, 3), (38, .iload_n 1, 1), (39, .iload_n 2, 1), (40, .invokevirtual 123, 3), (43, .iload_n 3, 1), (44, .ireturn, 1)]
theorem hd_Mn_become : dall cX6_become il_Mn_become = true := by decide +kernel
def il_Mn_as : List (Nat × Instr × Nat) := [(0, .aload_n 0, 1), (1, .getfield 25, 3), (4, .iload_n 1, 1), (5, .invokevirtual 102, 3), (8, .ifCond .eq 12, 3), (11, .iload_n 2, 1), (12, .bipush 6, 2), (14, .invokestatic 86, 3), (17, .ifCond .ne 9, 3), (20, .aload_n 0, 1), (21, .iconst 1, 1), (22, .invokevirtual 90, 3), (25, .ireturn, 1), (26, .aload_n 0, 1), (27, .getfield 25, 3), (30, .getfield 105, 3), (33, .iload_n 1, 1), (34, .iaload, 1), (35, .iload_n 2, 1), (36, .invokestatic 127, 3), (39, .ifCond .eq 15, 3), (42, .aload_n 0, 1), (43, .getfield 25, 3), (46, .getfield 108, 3), (49, .iload_n 1, 1), (50, .iaload, 1), (51, .goto 8, 3), (54, .aload_n 0, 1), (55, .iconst 5, 1), (56, .invokevirtual 90, 3), (59, .ireturn, 1)]
theorem hd_Mn_as : dall cX6_as il_Mn_as = true := by decide +kernel
def il_Mn_jump : List (Nat × Instr × Nat) := [(0, .aload_n 0, 1), (1, .getfield 25, 3), (4, .iload_n 1, 1), (5, .invokevirtual 102, 3), (8, .ifCond .eq 11, 3), (11, .iload_n 2, 1), (12, .iconst 1, 1), (13, .invokestatic 86, 3), (16, .ifCond .ne 9, 3), (19, .aload_n 0, 1), (20, .iconst 1, 1), (21, .invokevirtual 90, 3), (24, .ireturn, 1), (25, .iload_n 2, 1), (26, .iconst 1, 1), (27, .if_icmp .ne 19, 3), (30, .aload_n 0, 1), (31, .getfield 25, 3), (34, .invokevirtual 130, 3), (37, .ifCond .ne 9, 3), (40, .aload_n 0, 1), (41, .iconst 3, 1), (42, .invokevirtual 90, 3), (45, .ireturn, 1), (46, .aload_n 0, 1), (47, .getfield 25, 3), (50, .getfield 117, 3), (53, .iload_n 1, 1), (54, .iaload, 1), (55, .istore_n 3, 1), (56, .aload_n 0, 1), (57, .getfield 25, 3), (60, .getfield 117, 3), (63, .iload_n 1, 1), (64, .iload_n 2, 1), (65, .iastore, 1), (66, .iload_n 3, 1), (67, .ireturn, 1)]
theorem hd_Mn_jump : dall cX6_jump il_Mn_jump = true := by decide +kernel
def il_Mn_rest : List (Nat × Instr × Nat) := [(0, .aload_n 0, 1), (1, .getfield 25, 3), (4, .iload_n 1, 1), (5, .invokevirtual 102, 3), (8, .ifCond .eq 12, 3), (11, .iload_n 2, 1), (12, .bipush 99, 2), (14, .invokestatic 86, 3), (17, .ifCond .ne 9, 3), (20, .aload_n 0, 1), (21, .iconst 1, 1), (22, .invokevirtual 90, 3), (25, .ireturn, 1), (26, .aload_n 0, 1), (27, .getfield 25, 3), (30, .getfield 111, 3), (33, .iload_n 1, 1), (34, .iaload, 1), (35, .istore_n 3, 1), (36, .aload_n 0, 1), (37, .getfield 25, 3), (40, .getfield 111, 3), (43, .iload_n 1, 1), (44, .iload_n 2, 1), (45, .iastore, 1), (46, .iload_n 3, 1), (47, .ireturn, 1)]
theorem hd_Mn_rest : dall cX6_rest il_Mn_rest = true := by decide +kernel
def il_Mn_spell : List (Nat × Instr × Nat) := [(0, .iload_n 1, 1), (1, .iconst 1, 1), (2, .invokestatic 86, 3), (5, .ifCond .eq 12, 3), (8, .iload_n 2, 1), (9, .bipush 99, 2), (11, .invokestatic 86, 3), (14, .ifCond .ne 9, 3), (17, .aload_n 0, 1), (18, .iconst 1, 1), (19, .invokevirtual 90, 3), (22, .ireturn, 1), (23, .aload_n 0, 1), (24, .getfield 25, 3), (27, .getfield 134, 3), (30, .iload_n 1, 1), (31, .iaload, 1), (32, .istore_n 3, 1), (33, .aload_n 0, 1), (34, .getfield 25, 3), (37, .getfield 134, 3), (40, .iload_n 1, 1), (41, .iload_n 2, 1), (42, .iastore, 1), (43, .iload_n 3, 1), (44, .ireturn, 1)]
theorem hd_Mn_spell : dall cX6_spell il_Mn_spell = true := by decide +kernel
def il_Mn_bar : List (Nat × Instr × Nat) := [(0, .iload_n 1, 1), (1, .bipush 99, 2), (3, .invokestatic 86, 3), (6, .ifCond .ne 9, 3), (9, .aload_n 0, 1), (10, .iconst 1, 1), (11, .invokevirtual 90, 3), (14, .ireturn, 1), (15, .aload_n 0, 1), (16, .getfield 25, 3), (19, .getfield 137, 3), (22, .istore_n 2, 1), (23, .aload_n 0, 1), (24, .getfield 25, 3), (27, .iload_n 1, 1), (28, .putfield 137, 3), (31, .iload_n 2, 1), (32, .ireturn, 1)]
theorem hd_Mn_bar : dall cX6_bar il_Mn_bar = true := by decide +kernel
def il_Mn_liking : List (Nat × Instr × Nat) := [(0, .aload_n 0, 1), (1, .getfield 25, 3), (4, .iload_n 1, 1), (5, .invokevirtual 102, 3), (8, .ifCond .eq 10, 3), (11, .iload_n 2, 1), (12, .invokestatic 140, 3), (15, .ifCond .ne 9, 3), (18, .aload_n 0, 1), (19, .iconst 1, 1), (20, .invokevirtual 90, 3), (23, .ireturn, 1), (24, .aload_n 0, 1), (25, .getfield 25, 3), (28, .iload_n 1, 1), (29, .iload_n 2, 1), (30, .invokevirtual 143, 3), (33, .ireturn, 1)]
theorem hd_Mn_liking : dall cX6_liking il_Mn_liking = true := by decide +kernel
def il_Mn_talk : List (Nat × Instr × Nat) := [(0, .aload_n 0, 1), (1, .getfield 25, 3), (4, .iload_n 1, 1), (5, .invokevirtual 102, 3), (8, .ifCond .eq 10, 3), (11, .iload_n 2, 1), (12, .invokestatic 140, 3), (15, .ifCond .ne 9, 3), (18, .aload_n 0, 1), (19, .iconst 1, 1), (20, .invokevirtual 90, 3), (23, .ireturn, 1), (24, .aload_n 0, 1), (25, .getfield 25, 3), (28, .getfield 117, 3), (31, .iload_n 1, 1), (32, .iaload, 1), (33, .ifCond .eq 13, 3), (36, .aload_n 0, 1), (37, .getfield 25, 3), (40, .invokevirtual 147, 3), (43, .ifCond .ne 9, 3), (46, .aload_n 0, 1), (47, .iconst 3, 1), (48, .invokevirtual 90, 3), (51, .ireturn, 1), (52, .aload_n 0, 1), (53, .getfield 25, 3), (56, .iload_n 2, 1), (57, .invokevirtual 150, 3), (60, .ifCond .ne 5, 3), (63, .iconst 0, 1), (64, .ireturn, 1), (65, .aload_n 0, 1), (66, .getfield 25, 3), (69, .iload_n 2, 1), (70, .putfield 153, 3), (73, .iconst 1, 1), (74, .ireturn, 1)]
theorem hd_Mn_talk : dall cX6_talk il_Mn_talk = true := by decide +kernel
def il_Mn_feed : List (Nat × Instr × Nat) := [(0, .iload_n 3, 1), (1, .iconst 1, 1), (2, .if_icmp .lt 9, 3), (5, .iload_n 3, 1), (6, .bipush 8, 2), (8, .if_icmp .le 9, 3), (11, .aload_n 0, 1), (12, .iconst 1, 1), (13, .invokevirtual 90, 3), (16, .ireturn, 1), (17, .iload_n 3, 1), (18, .bipush 60, 2), (20, .aload_n 0, 1), (21, .getfield 38, 3), (24, .getfield 156, 3), (27, .isub, 1), (28, .if_icmp .le 9, 3), (31, .aload_n 0, 1), (32, .iconst 4, 1), (33, .invokevirtual 90, 3), (36, .ireturn, 1), (37, .aload_n 0, 1), (38, .getfield 38, 3), (41, .lload_n 1, 1), (42, .iload_n 3, 1), (43, .invokevirtual 159, 3), (46, .aload_n 0, 1), (47, .getfield 38, 3), (50, .getfield 156, 3), (53, .ireturn, 1)]
theorem hd_Mn_feed : dall cX6_feed il_Mn_feed = true := by decide +kernel
def il_Mn_text : List (Nat × Instr × Nat) := [(0, .iload_n 1, 1), (1, .invokestatic 162, 3), (4, .ifCond .ne 9, 3), (7, .aload_n 0, 1), (8, .iconst 1, 1), (9, .invokevirtual 90, 3), (12, .ireturn, 1), (13, .aload_n 0, 1), (14, .getfield 48, 3), (17, .aload_n 0, 1), (18, .getfield 38, 3), (21, .iload_n 1, 1), (22, .invokevirtual 165, 3), (25, .istore_n 2, 1), (26, .aload_n 0, 1), (27, .getfield 38, 3), (30, .iconst 0, 1), (31, .putfield 156, 3), (34, .iload_n 2, 1), (35, .iconst (-1), 1), (36, .if_icmp .eq 8, 3), (39, .bipush (-10), 2), (41, .iload_n 2, 1), (42, .isub, 1), (43, .ireturn, 1), (44, .aload_n 0, 1), (45, .getfield 13, 3), (48, .iload_n 1, 1), (49, .aaload, 1), (50, .aload_n 0, 1), (51, .getfield 48, 3), (54, .getfield 169, 3), (57, .aload_n 0, 1), (58, .getfield 48, 3), (61, .getfield 172, 3), (64, .invokevirtual 175, 3), (67, .iconst 1, 1), (68, .ireturn, 1)]
theorem hd_Mn_text : dall cX6_text il_Mn_text = true := by decide +kernel
def il_Mn_untell : List (Nat × Instr × Nat) := [(0, .iload_n 1, 1), (1, .invokestatic 162, 3), (4, .ifCond .ne 9, 3), (7, .aload_n 0, 1), (8, .iconst 1, 1), (9, .invokevirtual 90, 3), (12, .ireturn, 1), (13, .aload_n 0, 1), (14, .getfield 13, 3), (17, .iload_n 1, 1), (18, .aaload, 1), (19, .invokevirtual 179, 3), (22, .ifCond .eq 7, 3), (25, .iconst 1, 1), (26, .goto 4, 3), (29, .iconst 0, 1), (30, .istore_n 2, 1), (31, .aload_n 0, 1), (32, .getfield 13, 3), (35, .iload_n 1, 1), (36, .aaload, 1), (37, .iconst 0, 1), (38, .putfield 182, 3), (41, .iload_n 2, 1), (42, .ireturn, 1)]
theorem hd_Mn_untell : dall cX6_untell il_Mn_untell = true := by decide +kernel
def il_Mn_law : List (Nat × Instr × Nat) := [(0, .iload_n 1, 1), (1, .invokestatic 162, 3), (4, .ifCond .eq 19, 3), (7, .aload_n 0, 1), (8, .getfield 13, 3), (11, .iload_n 1, 1), (12, .aaload, 1), (13, .iload_n 2, 1), (14, .iload_n 3, 1), (15, .iload 4, 2), (17, .invokevirtual 183, 3), (20, .goto 8, 3), (23, .aload_n 0, 1), (24, .iconst 1, 1), (25, .invokevirtual 90, 3), (28, .ireturn, 1)]
theorem hd_Mn_law : dall cX6_law il_Mn_law = true := by decide +kernel
def il_Mn_beats : List (Nat × Instr × Nat) := [(0, .iload_n 1, 1), (1, .iconst 1, 1), (2, .if_icmp .lt 9, 3), (5, .iload_n 1, 1), (6, .bipush 99, 2), (8, .if_icmp .le 9, 3), (11, .aload_n 0, 1), (12, .iconst 1, 1), (13, .invokevirtual 90, 3), (16, .ireturn, 1), (17, .aload_n 0, 1), (18, .getfield 25, 3), (21, .getfield 186, 3), (24, .iload_n 1, 1), (25, .iadd, 1), (26, .ldc 189, 2), (28, .if_icmp .le 9, 3), (31, .aload_n 0, 1), (32, .iconst 3, 1), (33, .invokevirtual 90, 3), (36, .ireturn, 1), (37, .iconst 0, 1), (38, .istore_n 2, 1), (39, .iconst 0, 1), (40, .istore_n 3, 1), (41, .iload_n 3, 1), (42, .iload_n 1, 1), (43, .if_icmp .ge 19, 3), (46, .iload_n 2, 1), (47, .aload_n 0, 1), (48, .getfield 25, 3), (51, .invokevirtual 190, 3), (54, .iadd, 1), (55, .istore_n 2, 1), (56, .iinc 3 1, 3), (59, .goto (-18), 3), (62, .iload_n 2, 1), (63, .ireturn, 1)]
theorem hd_Mn_beats : dall cX6_beats il_Mn_beats = true := by decide +kernel
def il_Mn_loose : List (Nat × Instr × Nat) := [(0, .iload_n 1, 1), (1, .iconst 1, 1), (2, .if_icmp .lt 9, 3), (5, .iload_n 1, 1), (6, .bipush 30, 2), (8, .if_icmp .le 9, 3), (11, .aload_n 0, 1), (12, .iconst 1, 1), (13, .invokevirtual 90, 3), (16, .ireturn, 1), (17, .aload_n 0, 1), (18, .getfield 25, 3), (21, .getfield 186, 3), (24, .iload_n 1, 1), (25, .iadd, 1), (26, .ldc 189, 2), (28, .if_icmp .le 9, 3), (31, .aload_n 0, 1), (32, .iconst 3, 1), (33, .invokevirtual 90, 3), (36, .ireturn, 1), (37, .iconst 0, 1), (38, .istore_n 2, 1), (39, .iconst 0, 1), (40, .istore_n 3, 1), (41, .iload_n 3, 1), (42, .iload_n 1, 1), (43, .if_icmp .ge 19, 3), (46, .iload_n 2, 1), (47, .aload_n 0, 1), (48, .getfield 25, 3), (51, .invokevirtual 194, 3), (54, .iadd, 1), (55, .istore_n 2, 1), (56, .iinc 3 1, 3), (59, .goto (-18), 3), (62, .iload_n 2, 1), (63, .ireturn, 1)]
theorem hd_Mn_loose : dall cX6_loose il_Mn_loose = true := by decide +kernel
def il_Mn_seed : List (Nat × Instr × Nat) := [(0, .aload_n 0, 1), (1, .getfield 25, 3), (4, .getfield 197, 3), (7, .istore_n 2, 1), (8, .aload_n 0, 1), (9, .getfield 25, 3), (12, .iload_n 1, 1), (13, .putfield 197, 3), (16, .iload_n 2, 1), (17, .ireturn, 1)]
theorem hd_Mn_seed : dall cX6_seed il_Mn_seed = true := by decide +kernel
def il_Mn_then : List (Nat × Instr × Nat) := [(0, .aload_n 0, 1), (1, .getfield 25, 3), (4, .iload_n 1, 1), (5, .invokevirtual 102, 3), (8, .ifCond .eq 20, 3), (11, .iload_n 2, 1), (12, .bipush 99, 2), (14, .invokestatic 86, 3), (17, .ifCond .eq 11, 3), (20, .iload_n 3, 1), (21, .iconst 1, 1), (22, .invokestatic 86, 3), (25, .ifCond .ne 9, 3), (28, .aload_n 0, 1), (29, .iconst 1, 1), (30, .invokevirtual 90, 3), (33, .ireturn, 1), (34, .aload_n 0, 1), (35, .getfield 29, 3), (38, .aload_n 0, 1), (39, .getfield 25, 3), (42, .invokevirtual 200, 3), (45, .iconst 0, 1), (46, .istore 4, 2), (48, .iload 4, 2), (50, .iload_n 2, 1), (51, .if_icmp .ge 17, 3), (54, .aload_n 0, 1), (55, .getfield 29, 3), (58, .invokevirtual 190, 3), (61, .pop, 1), (62, .iinc 4 1, 3), (65, .goto (-17), 3), (68, .iload_n 3, 1), (69, .ifCond .ne 15, 3), (72, .aload_n 0, 1), (73, .getfield 29, 3), (76, .getfield 111, 3), (79, .iload_n 1, 1), (80, .iaload, 1), (81, .goto 12, 3), (84, .aload_n 0, 1), (85, .getfield 29, 3), (88, .getfield 117, 3), (91, .iload_n 1, 1), (92, .iaload, 1), (93, .ireturn, 1)]
theorem hd_Mn_then : dall cX6_then il_Mn_then = true := by decide +kernel
def il_Mn_lasts : List (Nat × Instr × Nat) := [(0, .aload_n 0, 1), (1, .getfield 25, 3), (4, .iload_n 1, 1), (5, .invokevirtual 102, 3), (8, .ifCond .ne 9, 3), (11, .aload_n 0, 1), (12, .iconst 1, 1), (13, .invokevirtual 90, 3), (16, .ireturn, 1), (17, .aload_n 0, 1), (18, .getfield 25, 3), (21, .getfield 117, 3), (24, .iload_n 1, 1), (25, .iaload, 1), (26, .ifCond .ne 9, 3), (29, .aload_n 0, 1), (30, .iconst 3, 1), (31, .invokevirtual 90, 3), (34, .ireturn, 1), (35, .aload_n 0, 1), (36, .getfield 29, 3), (39, .aload_n 0, 1), (40, .getfield 25, 3), (43, .invokevirtual 200, 3), (46, .iconst 1, 1), (47, .istore_n 2, 1), (48, .iload_n 2, 1), (49, .bipush 99, 2), (51, .if_icmp .gt 31, 3), (54, .aload_n 0, 1), (55, .getfield 29, 3), (58, .invokevirtual 190, 3), (61, .pop, 1), (62, .aload_n 0, 1), (63, .getfield 29, 3), (66, .getfield 117, 3), (69, .iload_n 1, 1), (70, .iaload, 1), (71, .ifCond .ne 5, 3), (74, .iload_n 2, 1), (75, .ireturn, 1), (76, .iinc 2 1, 3), (79, .goto (-31), 3), (82, .aload_n 0, 1), (83, .iconst 2, 1), (84, .invokevirtual 90, 3), (87, .ireturn, 1)]
theorem hd_Mn_lasts : dall cX6_lasts il_Mn_lasts = true := by decide +kernel
def il_Mn_agree : List (Nat × Instr × Nat) := [(0, .iload_n 1, 1), (1, .iconst 1, 1), (2, .invokestatic 86, 3), (5, .ifCond .ne 9, 3), (8, .aload_n 0, 1), (9, .iconst 1, 1), (10, .invokevirtual 90, 3), (13, .ireturn, 1), (14, .iconst 0, 1), (15, .istore_n 2, 1), (16, .iconst 0, 1), (17, .istore_n 3, 1), (18, .iload_n 3, 1), (19, .bipush 64, 2), (21, .if_icmp .ge 30, 3), (24, .aload_n 0, 1), (25, .getfield 25, 3), (28, .iload_n 3, 1), (29, .invokevirtual 150, 3), (32, .ifCond .eq 13, 3), (35, .iload_n 1, 1), (36, .iconst 1, 1), (37, .if_icmp .ne 5, 3), (40, .iload_n 3, 1), (41, .ireturn, 1), (42, .iinc 2 1, 3), (45, .iinc 3 1, 3), (48, .goto (-30), 3), (51, .iload_n 1, 1), (52, .iconst 1, 1), (53, .if_icmp .ne 11, 3), (56, .aload_n 0, 1), (57, .iconst 2, 1), (58, .invokevirtual 90, 3), (61, .goto 4, 3), (64, .iload_n 2, 1), (65, .ireturn, 1)]
theorem hd_Mn_agree : dall cX6_agree il_Mn_agree = true := by decide +kernel
def il_Mn_fairest : List (Nat × Instr × Nat) := [(0, .iload_n 1, 1), (1, .iconst 1, 1), (2, .invokestatic 86, 3), (5, .ifCond .ne 9, 3), (8, .aload_n 0, 1), (9, .iconst 1, 1), (10, .invokevirtual 90, 3), (13, .ireturn, 1), (14, .aload_n 0, 1), (15, .getfield 25, 3), (18, .invokevirtual 204, 3), (21, .ifCond .ne 9, 3), (24, .aload_n 0, 1), (25, .iconst 3, 1), (26, .invokevirtual 90, 3), (29, .ireturn, 1), (30, .iconst 0, 1), (31, .istore_n 2, 1), (32, .iconst (-1), 1), (33, .istore_n 3, 1), (34, .iconst 0, 1), (35, .istore 4, 2), (37, .iload 4, 2), (39, .bipush 64, 2), (41, .if_icmp .ge 32, 3), (44, .aload_n 0, 1), (45, .getfield 25, 3), (48, .iload 4, 2), (50, .invokevirtual 207, 3), (53, .istore 5, 2), (55, .iload 5, 2), (57, .iload_n 3, 1), (58, .if_icmp .le 9, 3), (61, .iload 4, 2), (63, .istore_n 2, 1), (64, .iload 5, 2), (66, .istore_n 3, 1), (67, .iinc 4 1, 3), (70, .goto (-33), 3), (73, .iload_n 1, 1), (74, .ifCond .ne 7, 3), (77, .iload_n 2, 1), (78, .goto 4, 3), (81, .iload_n 3, 1), (82, .ireturn, 1)]
theorem hd_Mn_fairest : dall cX6_fairest il_Mn_fairest = true := by decide +kernel
def il_Mn_balks : List (Nat × Instr × Nat) := [(0, .iload_n 1, 1), (1, .iconst 1, 1), (2, .invokestatic 86, 3), (5, .ifCond .ne 9, 3), (8, .aload_n 0, 1), (9, .iconst 1, 1), (10, .invokevirtual 90, 3), (13, .ireturn, 1), (14, .aload_n 0, 1), (15, .getfield 25, 3), (18, .invokevirtual 204, 3), (21, .ifCond .ne 9, 3), (24, .aload_n 0, 1), (25, .iconst 3, 1), (26, .invokevirtual 90, 3), (29, .ireturn, 1), (30, .aload_n 0, 1), (31, .getfield 25, 3), (34, .invokevirtual 210, 3), (37, .istore_n 2, 1), (38, .iload_n 1, 1), (39, .ifCond .ne 7, 3), (42, .iload_n 2, 1), (43, .goto 12, 3), (46, .aload_n 0, 1), (47, .getfield 25, 3), (50, .getfield 213, 3), (53, .iload_n 2, 1), (54, .iaload, 1), (55, .ireturn, 1)]
theorem hd_Mn_balks : dall cX6_balks il_Mn_balks = true := by decide +kernel
def il_Mn_soon : List (Nat × Instr × Nat) := [(0, .iload_n 1, 1), (1, .invokestatic 140, 3), (4, .ifCond .ne 9, 3), (7, .aload_n 0, 1), (8, .iconst 1, 1), (9, .invokevirtual 90, 3), (12, .ireturn, 1), (13, .aload_n 0, 1), (14, .getfield 29, 3), (17, .aload_n 0, 1), (18, .getfield 25, 3), (21, .invokevirtual 200, 3), (24, .iconst 0, 1), (25, .istore_n 2, 1), (26, .iload_n 2, 1), (27, .bipush 99, 2), (29, .if_icmp .gt 50, 3), (32, .aload_n 0, 1), (33, .getfield 29, 3), (36, .invokevirtual 204, 3), (39, .ifCond .le 26, 3), (42, .aload_n 0, 1), (43, .getfield 29, 3), (46, .invokevirtual 147, 3), (49, .ifCond .eq 16, 3), (52, .aload_n 0, 1), (53, .getfield 29, 3), (56, .iload_n 1, 1), (57, .invokevirtual 150, 3), (60, .ifCond .eq 5, 3), (63, .iload_n 2, 1), (64, .ireturn, 1), (65, .aload_n 0, 1), (66, .getfield 29, 3), (69, .invokevirtual 190, 3), (72, .pop, 1), (73, .iinc 2 1, 3), (76, .goto (-50), 3), (79, .aload_n 0, 1), (80, .iconst 2, 1), (81, .invokevirtual 90, 3), (84, .ireturn, 1)]
theorem hd_Mn_soon : dall cX6_soon il_Mn_soon = true := by decide +kernel
def il_Mn_meets : List (Nat × Instr × Nat) := [(0, .iload_n 1, 1), (1, .iload_n 2, 1), (2, .invokestatic 216, 3), (5, .ifCond .eq 12, 3), (8, .iload_n 3, 1), (9, .iload 4, 2), (11, .invokestatic 216, 3), (14, .ifCond .ne 9, 3), (17, .aload_n 0, 1), (18, .iconst 1, 1), (19, .invokevirtual 90, 3), (22, .ireturn, 1), (23, .iconst 0, 1), (24, .istore 5, 2), (26, .iload 5, 2), (28, .iload_n 2, 1), (29, .iload 4, 2), (31, .imul, 1), (32, .if_icmp .ge 41, 3), (35, .aload_n 0, 1), (36, .getfield 25, 3), (39, .getfield 186, 3), (42, .iload 5, 2), (44, .iadd, 1), (45, .istore 6, 2), (47, .iload 6, 2), (49, .iload_n 2, 1), (50, .irem, 1), (51, .iload_n 1, 1), (52, .if_icmp .ne 15, 3), (55, .iload 6, 2), (57, .iload 4, 2), (59, .irem, 1), (60, .iload_n 3, 1), (61, .if_icmp .ne 6, 3), (64, .iload 6, 2), (66, .ireturn, 1), (67, .iinc 5 1, 3), (70, .goto (-44), 3), (73, .aload_n 0, 1), (74, .iconst 2, 1), (75, .invokevirtual 90, 3), (78, .ireturn, 1)]
theorem hd_Mn_meets : dall cX6_meets il_Mn_meets = true := by decide +kernel
def il_Mn_odds : List (Nat × Instr × Nat) := [(0, .aload_n 0, 1), (1, .getfield 25, 3), (4, .iload_n 1, 1), (5, .invokevirtual 102, 3), (8, .ifCond .eq 11, 3), (11, .iload_n 2, 1), (12, .iconst 1, 1), (13, .invokestatic 86, 3), (16, .ifCond .ne 9, 3), (19, .aload_n 0, 1), (20, .iconst 1, 1), (21, .invokevirtual 90, 3), (24, .ireturn, 1), (25, .iconst 0, 1), (26, .istore_n 3, 1), (27, .iconst 0, 1), (28, .istore 4, 2), (30, .iload 4, 2), (32, .bipush 64, 2), (34, .if_icmp .ge 32, 3), (37, .aload_n 0, 1), (38, .getfield 25, 3), (41, .iload_n 1, 1), (42, .iload 4, 2), (44, .invokevirtual 143, 3), (47, .aload_n 0, 1), (48, .getfield 25, 3), (51, .getfield 137, 3), (54, .if_icmp .lt 6, 3), (57, .iinc 3 1, 3), (60, .iinc 4 1, 3), (63, .goto (-33), 3), (66, .iload_n 3, 1), (67, .ifCond .ne 8, 3), (70, .bipush 64, 2), (72, .goto 7, 3), (75, .iload_n 3, 1), (76, .iload_n 3, 1), (77, .ineg, 1), (78, .iand, 1), (79, .istore 4, 2), (81, .iload_n 2, 1), (82, .ifCond .ne 7, 3), (85, .iload_n 3, 1), (86, .goto 5, 3), (89, .bipush 64, 2), (91, .iload 4, 2), (93, .idiv, 1), (94, .ireturn, 1)]
theorem hd_Mn_odds : dall cX6_odds il_Mn_odds = true := by decide +kernel
def il_Mn_fits : List (Nat × Instr × Nat) := [(0, .iload_n 1, 1), (1, .invokestatic 219, 3), (4, .ifCond .ne 9, 3), (7, .aload_n 0, 1), (8, .iconst 1, 1), (9, .invokevirtual 90, 3), (12, .ireturn, 1), (13, .aload_n 0, 1), (14, .getfield 62, 3), (17, .iload_n 1, 1), (18, .aaload, 1), (19, .invokevirtual 222, 3), (22, .ifCond .eq 9, 3), (25, .aload_n 0, 1), (26, .iconst 2, 1), (27, .invokevirtual 90, 3), (30, .ireturn, 1), (31, .aload_n 0, 1), (32, .getfield 29, 3), (35, .aload_n 0, 1), (36, .getfield 25, 3), (39, .invokevirtual 200, 3), (42, .iconst 0, 1), (43, .istore_n 2, 1), (44, .iload_n 2, 1), (45, .bipush 99, 2), (47, .if_icmp .gt 44, 3), (50, .aload_n 0, 1), (51, .getfield 29, 3), (54, .aload_n 0, 1), (55, .getfield 62, 3), (58, .iload_n 1, 1), (59, .aaload, 1), (60, .invokevirtual 225, 3), (63, .aload_n 0, 1), (64, .getfield 62, 3), (67, .iload_n 1, 1), (68, .aaload, 1), (69, .getfield 229, 3), (72, .if_icmp .ne 5, 3), (75, .iload_n 2, 1), (76, .ireturn, 1), (77, .aload_n 0, 1), (78, .getfield 29, 3), (81, .invokevirtual 190, 3), (84, .pop, 1), (85, .iinc 2 1, 3), (88, .goto (-44), 3), (91, .aload_n 0, 1), (92, .iconst 2, 1), (93, .invokevirtual 90, 3), (96, .ireturn, 1)]
theorem hd_Mn_fits : dall cX6_fits il_Mn_fits = true := by decide +kernel
def il_Mn_voice : List (Nat × Instr × Nat) := [(0, .aload_n 0, 1), (1, .getfield 25, 3), (4, .iload_n 1, 1), (5, .invokevirtual 102, 3), (8, .ifCond .eq 11, 3), (11, .iload_n 2, 1), (12, .iconst 3, 1), (13, .invokestatic 86, 3), (16, .ifCond .ne 9, 3), (19, .aload_n 0, 1), (20, .iconst 1, 1), (21, .invokevirtual 90, 3), (24, .ireturn, 1), (25, .aload_n 0, 1), (26, .getfield 69, 3), (29, .aload_n 0, 1), (30, .getfield 25, 3), (33, .getfield 105, 3), (36, .iload_n 1, 1), (37, .iaload, 1), (38, .iload_n 1, 1), (39, .aload_n 0, 1), (40, .getfield 25, 3), (43, .getfield 108, 3), (46, .iload_n 1, 1), (47, .iaload, 1), (48, .iload_n 2, 1), (49, .iload_n 3, 1), (50, .invokevirtual 230, 3), (53, .istore 4, 2), (55, .aload_n 0, 1), (56, .getfield 69, 3), (59, .getfield 234, 3), (62, .ifCond .eq 12, 3), (65, .aload_n 0, 1), (66, .bipush 6, 2), (68, .invokevirtual 90, 3), (71, .goto 5, 3), (74, .iload 4, 2), (76, .ireturn, 1)]
theorem hd_Mn_voice : dall cX6_voice il_Mn_voice = true := by decide +kernel
def il_Mn_body : List (Nat × Instr × Nat) := [(0, .iload_n 1, 1), (1, .ifCond .lt 26, 3), (4, .iload_n 1, 1), (5, .aload_n 0, 1), (6, .getfield 69, 3), (9, .getfield 238, 3), (12, .if_icmp .ge 15, 3), (15, .aload_n 0, 1), (16, .getfield 69, 3), (19, .getfield 241, 3), (22, .iload_n 1, 1), (23, .iaload, 1), (24, .goto 8, 3), (27, .aload_n 0, 1), (28, .iconst 2, 1), (29, .invokevirtual 90, 3), (32, .ireturn, 1)]
theorem hd_Mn_body : dall cX6_body il_Mn_body = true := by decide +kernel
def il_Mn_sheet : List (Nat × Instr × Nat) := [(0, .iload_n 1, 1), (1, .invokestatic 219, 3), (4, .ifCond .eq 10, 3), (7, .iload_n 2, 1), (8, .invokestatic 244, 3), (11, .ifCond .ne 9, 3), (14, .aload_n 0, 1), (15, .iconst 1, 1), (16, .invokevirtual 90, 3), (19, .ireturn, 1), (20, .iload_n 2, 1), (21, .ifCond .eq 13, 3), (24, .iload_n 3, 1), (25, .ifCond .ge 9, 3), (28, .aload_n 0, 1), (29, .iconst 3, 1), (30, .invokevirtual 90, 3), (33, .ireturn, 1), (34, .iload_n 2, 1), (35, .ifCond .eq 15, 3), (38, .iload_n 3, 1), (39, .bipush 24, 2), (41, .if_icmp .le 9, 3), (44, .aload_n 0, 1), (45, .iconst 1, 1), (46, .invokevirtual 90, 3), (49, .ireturn, 1), (50, .aload_n 0, 1), (51, .getfield 62, 3), (54, .iload_n 1, 1), (55, .aaload, 1), (56, .iload_n 2, 1), (57, .iload_n 2, 1), (58, .ifCond .ne 7, 3), (61, .iconst 0, 1), (62, .goto 4, 3), (65, .iload_n 3, 1), (66, .invokevirtual 247, 3), (69, .iconst 1, 1), (70, .ireturn, 1)]
theorem hd_Mn_sheet : dall cX6_sheet il_Mn_sheet = true := by decide +kernel
def il_Mn_put : List (Nat × Instr × Nat) := [(0, .iload_n 1, 1), (1, .invokestatic 219, 3), (4, .ifCond .ne 9, 3), (7, .aload_n 0, 1), (8, .iconst 1, 1), (9, .invokevirtual 90, 3), (12, .ireturn, 1), (13, .aload_n 0, 1), (14, .getfield 62, 3), (17, .iload_n 1, 1), (18, .aaload, 1), (19, .invokevirtual 222, 3), (22, .ifCond .eq 9, 3), (25, .aload_n 0, 1), (26, .iconst 2, 1), (27, .invokevirtual 90, 3), (30, .ireturn, 1), (31, .iload_n 2, 1), (32, .ifCond .lt 16, 3), (35, .iload_n 2, 1), (36, .aload_n 0, 1), (37, .getfield 62, 3), (40, .iload_n 1, 1), (41, .aaload, 1), (42, .getfield 229, 3), (45, .if_icmp .lt 9, 3), (48, .aload_n 0, 1), (49, .iconst 1, 1), (50, .invokevirtual 90, 3), (53, .ireturn, 1), (54, .aload_n 0, 1), (55, .getfield 62, 3), (58, .iload_n 1, 1), (59, .aaload, 1), (60, .getfield 250, 3), (63, .iload_n 2, 1), (64, .aload_n 0, 1), (65, .getfield 62, 3), (68, .iload_n 1, 1), (69, .aaload, 1), (70, .iload_n 3, 1), (71, .invokevirtual 253, 3), (74, .iastore, 1), (75, .iconst 1, 1), (76, .ireturn, 1)]
theorem hd_Mn_put : dall cX6_put il_Mn_put = true := by decide +kernel
def il_Mn_move : List (Nat × Instr × Nat) := [(0, .iload_n 1, 1), (1, .invokestatic 219, 3), (4, .ifCond .eq 10, 3), (7, .iload_n 3, 1), (8, .invokestatic 219, 3), (11, .ifCond .ne 9, 3), (14, .aload_n 0, 1), (15, .iconst 1, 1), (16, .invokevirtual 90, 3), (19, .ireturn, 1), (20, .aload_n 0, 1), (21, .getfield 62, 3), (24, .iload_n 1, 1), (25, .aaload, 1), (26, .astore 6, 2), (28, .aload_n 0, 1), (29, .getfield 62, 3), (32, .iload_n 3, 1), (33, .aaload, 1), (34, .astore 7, 2), (36, .aload 6, 2), (38, .invokevirtual 222, 3), (41, .ifCond .ne 11, 3), (44, .aload 7, 2), (46, .invokevirtual 222, 3), (49, .ifCond .eq 9, 3), (52, .aload_n 0, 1), (53, .iconst 2, 1), (54, .invokevirtual 90, 3), (57, .ireturn, 1), (58, .aload 6, 2), (60, .getfield 256, 3), (63, .aload 7, 2), (65, .getfield 256, 3), (68, .if_icmp .eq 9, 3), (71, .aload_n 0, 1), (72, .iconst 5, 1), (73, .invokevirtual 90, 3), (76, .ireturn, 1), (77, .aload 6, 2), (79, .iload_n 2, 1), (80, .iload 5, 2), (82, .invokevirtual 259, 3), (85, .ifCond .eq 15, 3), (88, .aload 7, 2), (90, .iload 4, 2), (92, .iload 5, 2), (94, .invokevirtual 259, 3), (97, .ifCond .ne 9, 3), (100, .aload_n 0, 1), (101, .iconst 1, 1), (102, .invokevirtual 90, 3), (105, .ireturn, 1), (106, .aload 6, 2), (108, .getfield 250, 3), (111, .iload_n 2, 1), (112, .aload 7, 2), (114, .getfield 250, 3), (117, .iload 4, 2), (119, .iload 5, 2), (121, .invokestatic 262, 3), (124, .iload 5, 2), (126, .ireturn, 1)]
theorem hd_Mn_move : dall cX6_move il_Mn_move = true := by decide +kernel
def il_Mn_breaths : List (Nat × Instr × Nat) := [(0, .iload_n 1, 1), (1, .invokestatic 219, 3), (4, .ifCond .ne 9, 3), (7, .aload_n 0, 1), (8, .iconst 1, 1), (9, .invokevirtual 90, 3), (12, .ireturn, 1), (13, .aload_n 0, 1), (14, .getfield 62, 3), (17, .iload_n 1, 1), (18, .aaload, 1), (19, .invokevirtual 222, 3), (22, .ifCond .eq 11, 3), (25, .aload_n 0, 1), (26, .iconst 2, 1), (27, .invokevirtual 90, 3), (30, .goto 16, 3), (33, .aload_n 0, 1), (34, .getfield 25, 3), (37, .aload_n 0, 1), (38, .getfield 62, 3), (41, .iload_n 1, 1), (42, .aaload, 1), (43, .invokevirtual 268, 3), (46, .ireturn, 1)]
theorem hd_Mn_breaths : dall cX6_breaths il_Mn_breaths = true := by decide +kernel
def il_Mn_judge : List (Nat × Instr × Nat) := [(0, .iload_n 1, 1), (1, .invokestatic 219, 3), (4, .ifCond .ne 9, 3), (7, .aload_n 0, 1), (8, .iconst 1, 1), (9, .invokevirtual 90, 3), (12, .ireturn, 1), (13, .aload_n 0, 1), (14, .getfield 62, 3), (17, .iload_n 1, 1), (18, .aaload, 1), (19, .invokevirtual 222, 3), (22, .ifCond .eq 11, 3), (25, .aload_n 0, 1), (26, .iconst 2, 1), (27, .invokevirtual 90, 3), (30, .goto 16, 3), (33, .aload_n 0, 1), (34, .getfield 25, 3), (37, .aload_n 0, 1), (38, .getfield 62, 3), (41, .iload_n 1, 1), (42, .aaload, 1), (43, .invokevirtual 271, 3), (46, .ireturn, 1)]
theorem hd_Mn_judge : dall cX6_judge il_Mn_judge = true := by decide +kernel
def il_Mn_image : List (Nat × Instr × Nat) := [(0, .aload_n 0, 1), (1, .getfield 32, 3), (4, .aload_n 0, 1), (5, .getfield 25, 3), (8, .invokevirtual 200, 3), (11, .aload_n 0, 1), (12, .getfield 42, 3), (15, .aload_n 0, 1), (16, .getfield 38, 3), (19, .invokevirtual 274, 3), (22, .aload_n 0, 1), (23, .getfield 59, 3), (26, .aload_n 0, 1), (27, .getfield 55, 3), (30, .invokevirtual 277, 3), (33, .iconst 0, 1), (34, .istore_n 1, 1), (35, .iload_n 1, 1), (36, .iconst 2, 1), (37, .if_icmp .ge 24, 3), (40, .aload_n 0, 1), (41, .getfield 17, 3), (44, .iload_n 1, 1), (45, .aaload, 1), (46, .aload_n 0, 1), (47, .getfield 13, 3), (50, .iload_n 1, 1), (51, .aaload, 1), (52, .invokevirtual 280, 3), (55, .iinc 1 1, 3), (58, .goto (-23), 3), (61, .aload_n 0, 1), (62, .dup, 1), (63, .getfield 283, 3), (66, .iconst 1, 1), (67, .iadd, 1), (68, .putfield 283, 3), (71, .aload_n 0, 1), (72, .getfield 283, 3), (75, .ireturn, 1)]
theorem hd_Mn_image : dall cX6_image il_Mn_image = true := by decide +kernel
def il_Mn_restore : List (Nat × Instr × Nat) := [(0, .aload_n 0, 1), (1, .getfield 283, 3), (4, .ifCond .ne 9, 3), (7, .aload_n 0, 1), (8, .iconst 2, 1), (9, .invokevirtual 90, 3), (12, .ireturn, 1), (13, .aload_n 0, 1), (14, .getfield 25, 3), (17, .aload_n 0, 1), (18, .getfield 32, 3), (21, .invokevirtual 200, 3), (24, .aload_n 0, 1), (25, .getfield 38, 3), (28, .aload_n 0, 1), (29, .getfield 42, 3), (32, .invokevirtual 274, 3), (35, .aload_n 0, 1), (36, .getfield 55, 3), (39, .aload_n 0, 1), (40, .getfield 59, 3), (43, .invokevirtual 277, 3), (46, .iconst 0, 1), (47, .istore_n 1, 1), (48, .iload_n 1, 1), (49, .iconst 2, 1), (50, .if_icmp .ge 24, 3), (53, .aload_n 0, 1), (54, .getfield 13, 3), (57, .iload_n 1, 1), (58, .aaload, 1), (59, .aload_n 0, 1), (60, .getfield 17, 3), (63, .iload_n 1, 1), (64, .aaload, 1), (65, .invokevirtual 280, 3), (68, .iinc 1 1, 3), (71, .goto (-23), 3), (74, .aload_n 0, 1), (75, .getfield 25, 3), (78, .getfield 186, 3), (81, .ireturn, 1)]
theorem hd_Mn_restore : dall cX6_restore il_Mn_restore = true := by decide +kernel
def il_Mn_tell : List (Nat × Instr × Nat) := [(0, .aload_n 0, 1), (1, .getfield 55, 3), (4, .getfield 229, 3), (7, .bipush 24, 2), (9, .if_icmp .lt 9, 3), (12, .aload_n 0, 1), (13, .iconst 4, 1), (14, .invokevirtual 90, 3), (17, .ireturn, 1), (18, .aload_n 0, 1), (19, .getfield 55, 3), (22, .getfield 250, 3), (25, .aload_n 0, 1), (26, .getfield 55, 3), (29, .getfield 229, 3), (32, .iload_n 1, 1), (33, .iastore, 1), (34, .aload_n 0, 1), (35, .getfield 55, 3), (38, .dup, 1), (39, .getfield 229, 3), (42, .iconst 1, 1), (43, .iadd, 1), (44, .putfield 229, 3), (47, .aload_n 0, 1), (48, .getfield 55, 3), (51, .getfield 229, 3), (54, .ireturn, 1)]
theorem hd_Mn_tell : dall cX6_tell il_Mn_tell = true := by decide +kernel
def il_Mn_check : List (Nat × Instr × Nat) := [(0, .aload_n 0, 1), (1, .getfield 55, 3), (4, .getfield 229, 3), (7, .istore_n 1, 1), (8, .aload_n 0, 1), (9, .getfield 25, 3), (12, .aload_n 0, 1), (13, .getfield 55, 3), (16, .invokevirtual 225, 3), (19, .istore_n 2, 1), (20, .aload_n 0, 1), (21, .getfield 55, 3), (24, .iconst 0, 1), (25, .putfield 229, 3), (28, .iload_n 2, 1), (29, .iload_n 1, 1), (30, .if_icmp .ne 7, 3), (33, .iconst 0, 1), (34, .goto 6, 3), (37, .iconst 1, 1), (38, .iload_n 2, 1), (39, .iadd, 1), (40, .ireturn, 1)]
theorem hd_Mn_check : dall cX6_check il_Mn_check = true := by decide +kernel
def il_Mn_count : List (Nat × Instr × Nat) := [(0, .iload_n 1, 1), (1, .tableswitch 163 0 11 #[63, 71, 79, 87, 95, 103, 113, 123, 131, 139, 147, 155], 63), (64, .aload_n 0, 1), (65, .getfield 25, 3), (68, .getfield 94, 3), (71, .ireturn, 1), (72, .aload_n 0, 1), (73, .getfield 25, 3), (76, .invokevirtual 286, 3), (79, .ireturn, 1), (80, .aload_n 0, 1), (81, .getfield 25, 3), (84, .getfield 186, 3), (87, .ireturn, 1), (88, .aload_n 0, 1), (89, .getfield 25, 3), (92, .getfield 153, 3), (95, .ireturn, 1), (96, .aload_n 0, 1), (97, .getfield 25, 3), (100, .getfield 289, 3), (103, .ireturn, 1), (104, .aload_n 0, 1), (105, .getfield 25, 3), (108, .getfield 134, 3), (111, .iconst 0, 1), (112, .iaload, 1), (113, .ireturn, 1), (114, .aload_n 0, 1), (115, .getfield 25, 3), (118, .getfield 134, 3), (121, .iconst 1, 1), (122, .iaload, 1), (123, .ireturn, 1), (124, .aload_n 0, 1), (125, .getfield 25, 3), (128, .getfield 137, 3), (131, .ireturn, 1), (132, .aload_n 0, 1), (133, .getfield 38, 3), (136, .getfield 156, 3), (139, .ireturn, 1), (140, .aload_n 0, 1), (141, .getfield 55, 3), (144, .getfield 229, 3), (147, .ireturn, 1), (148, .aload_n 0, 1), (149, .getfield 69, 3), (152, .getfield 238, 3), (155, .ireturn, 1), (156, .aload_n 0, 1), (157, .getfield 25, 3), (160, .getfield 197, 3), (163, .ireturn, 1), (164, .aload_n 0, 1), (165, .iconst 1, 1), (166, .invokevirtual 90, 3), (169, .ireturn, 1)]
theorem hd_Mn_count : dall cX6_count il_Mn_count = true := by decide +kernel
end
section
def il_Mn_told : List (Nat × Instr × Nat) := [(0, .iload_n 1, 1), (1, .iconst 1, 1), (2, .if_icmp .lt 18, 3), (5, .iload_n 1, 1), (6, .bipush 6, 2), (8, .if_icmp .gt 12, 3), (11, .aload_n 0, 1), (12, .getfield 73, 3), (15, .iload_n 1, 1), (16, .iaload, 1), (17, .goto 8, 3), (20, .aload_n 0, 1), (21, .iconst 1, 1), (22, .invokevirtual 90, 3), (25, .ireturn, 1)]
theorem hd_Mn_told : dall cX6_told il_Mn_told = true := by decide +kernel
def il_Mn_error : List (Nat × Instr × Nat) := [(0, .aload_n 0, 1), (1, .getfield 73, 3), (4, .iload_n 1, 1), (5, .dup2, 1), (6, .iaload, 1), (7, .iconst 1, 1), (8, .iadd, 1), (9, .iastore, 1), (10, .ldc_w 292, 3), (13, .iload_n 1, 1), (14, .isub, 1), (15, .ireturn, 1)]
theorem hd_Mn_error : dall cX6_error il_Mn_error = true := by decide +kernel
def il_Mn_isWithin : List (Nat × Instr × Nat) := [(0, .iload_n 0, 1), (1, .ifCond .lt 12, 3), (4, .iload_n 0, 1), (5, .iload_n 1, 1), (6, .if_icmp .gt 7, 3), (9, .iconst 1, 1), (10, .goto 4, 3), (13, .iconst 0, 1), (14, .ireturn, 1)]
theorem hd_Mn_isWithin : dall cX6_isWithin il_Mn_isWithin = true := by decide +kernel
def il_Mn_isKindAndMark : List (Nat × Instr × Nat) := [(0, .iload_n 0, 1), (1, .bipush 69, 2), (3, .invokestatic 86, 3), (6, .ireturn, 1)]
theorem hd_Mn_isKindAndMark : dall cX6_isKindAndMark il_Mn_isKindAndMark = true := by decide +kernel
def il_Mn_isTreaty : List (Nat × Instr × Nat) := [(0, .iload_n 0, 1), (1, .bipush 63, 2), (3, .invokestatic 86, 3), (6, .ireturn, 1)]
theorem hd_Mn_isTreaty : dall cX6_isTreaty il_Mn_isTreaty = true := by decide +kernel
def il_Mn_isUse : List (Nat × Instr × Nat) := [(0, .iload_n 0, 1), (1, .iconst 1, 1), (2, .invokestatic 86, 3), (5, .ireturn, 1)]
theorem hd_Mn_isUse : dall cX6_isUse il_Mn_isUse = true := by decide +kernel
def il_Mn_isSheet : List (Nat × Instr × Nat) := [(0, .iload_n 0, 1), (1, .iconst 3, 1), (2, .invokestatic 86, 3), (5, .ireturn, 1)]
theorem hd_Mn_isSheet : dall cX6_isSheet il_Mn_isSheet = true := by decide +kernel
def il_Mn_isBits : List (Nat × Instr × Nat) := [(0, .iload_n 0, 1), (1, .ifCond .eq 21, 3), (4, .iload_n 0, 1), (5, .bipush 8, 2), (7, .if_icmp .eq 15, 3), (10, .iload_n 0, 1), (11, .bipush 16, 2), (13, .if_icmp .eq 9, 3), (16, .iload_n 0, 1), (17, .bipush 32, 2), (19, .if_icmp .ne 7, 3), (22, .iconst 1, 1), (23, .goto 4, 3), (26, .iconst 0, 1), (27, .ireturn, 1)]
theorem hd_Mn_isBits : dall cX6_isBits il_Mn_isBits = true := by decide +kernel
def il_Mn_isRest : List (Nat × Instr × Nat) := [(0, .iload_n 1, 1), (1, .iconst 1, 1), (2, .if_icmp .lt 23, 3), (5, .iload_n 1, 1), (6, .bipush 30, 2), (8, .if_icmp .gt 17, 3), (11, .iload_n 0, 1), (12, .iload_n 1, 1), (13, .iconst 1, 1), (14, .isub, 1), (15, .invokestatic 86, 3), (18, .ifCond .eq 7, 3), (21, .iconst 1, 1), (22, .goto 4, 3), (25, .iconst 0, 1), (26, .ireturn, 1)]
theorem hd_Mn_isRest : dall cX6_isRest il_Mn_isRest = true := by decide +kernel
def il_Mn_isUnder : List (Nat × Instr × Nat) := [(0, .iload_n 0, 1), (1, .istore_n 2, 1), (2, .iconst 0, 1), (3, .istore_n 3, 1), (4, .iload_n 3, 1), (5, .bipush 7, 2), (7, .if_icmp .ge 31, 3), (10, .iload_n 2, 1), (11, .bipush 6, 2), (13, .invokestatic 86, 3), (16, .ifCond .eq 22, 3), (19, .iload_n 2, 1), (20, .iload_n 1, 1), (21, .if_icmp .ne 5, 3), (24, .iconst 1, 1), (25, .ireturn, 1), (26, .getstatic 293, 3), (29, .iload_n 2, 1), (30, .iaload, 1), (31, .istore_n 2, 1), (32, .iinc 3 1, 3), (35, .goto (-31), 3), (38, .iconst 0, 1), (39, .ireturn, 1)]
theorem hd_Mn_isUnder : dall cX6_isUnder il_Mn_isUnder = true := by decide +kernel
def il_Mo_error : List (Nat × Instr × Nat) := [(0, .aload_n 0, 1), (1, .getfield 19, 3), (4, .ldc 49, 2), (6, .iload_n 1, 1), (7, .isub, 1), (8, .dup2, 1), (9, .iaload, 1), (10, .iconst 1, 1), (11, .iadd, 1), (12, .iastore, 1), (13, .iload_n 1, 1), (14, .ireturn, 1)]
theorem hd_Mo_error : dall cX7_error il_Mo_error = true := by decide +kernel
def il_Mo_in : List (Nat × Instr × Nat) := [(0, .iload_n 0, 1), (1, .iload_n 1, 1), (2, .if_icmp .lt 12, 3), (5, .iload_n 0, 1), (6, .iload_n 2, 1), (7, .if_icmp .gt 7, 3), (10, .iconst 1, 1), (11, .goto 4, 3), (14, .iconst 0, 1), (15, .ireturn, 1)]
theorem hd_Mo_in : dall cX7_in il_Mo_in = true := by decide +kernel
def il_Mo_held : List (Nat × Instr × Nat) := [(0, .iload_n 0, 1), (1, .iload_n 1, 1), (2, .if_icmp .ge 7, 3), (5, .iload_n 1, 1), (6, .goto 13, 3), (9, .iload_n 0, 1), (10, .iload_n 2, 1), (11, .if_icmp .le 7, 3), (14, .iload_n 2, 1), (15, .goto 4, 3), (18, .iload_n 0, 1), (19, .ireturn, 1)]
theorem hd_Mo_held : dall cX7_held il_Mo_held = true := by decide +kernel
def il_Mo_copyAll : List (Nat × Instr × Nat) := [(0, .iconst 0, 1), (1, .istore_n 2, 1), (2, .iload_n 2, 1), (3, .sipush 366, 3), (6, .if_icmp .ge 15, 3), (9, .aload_n 1, 1), (10, .iload_n 2, 1), (11, .aload_n 0, 1), (12, .iload_n 2, 1), (13, .iaload, 1), (14, .iastore, 1), (15, .iinc 2 1, 3), (18, .goto (-16), 3), (21, .return_, 1)]
theorem hd_Mo_copyAll : dall cX7_copyAll il_Mo_copyAll = true := by decide +kernel
def il_Mo_thinks : List (Nat × Instr × Nat) := [(0, .aload_n 0, 1), (1, .getfield 9, 3), (4, .aload_n 0, 1), (5, .getfield 16, 3), (8, .invokestatic 50, 3), (11, .return_, 1)]
theorem hd_Mo_thinks : dall cX7_thinks il_Mo_thinks = true := by decide +kernel
def il_Mo_putsBack : List (Nat × Instr × Nat) := [(0, .aload_n 0, 1), (1, .getfield 16, 3), (4, .aload_n 0, 1), (5, .getfield 9, 3), (8, .invokestatic 50, 3), (11, .return_, 1)]
theorem hd_Mo_putsBack : dall cX7_putsBack il_Mo_putsBack = true := by decide +kernel
def il_Mo_bits : List (Nat × Instr × Nat) := [(0, .iconst 0, 1), (1, .istore_n 1, 1), (2, .iload_n 0, 1), (3, .istore_n 2, 1), (4, .iload_n 2, 1), (5, .ifCond .eq 15, 3), (8, .iinc 1 1, 3), (11, .iload_n 2, 1), (12, .iload_n 2, 1), (13, .iconst 1, 1), (14, .isub, 1), (15, .iand, 1), (16, .istore_n 2, 1), (17, .goto (-13), 3), (20, .iload_n 1, 1), (21, .ireturn, 1)]
theorem hd_Mo_bits : dall cX7_bits il_Mo_bits = true := by decide +kernel
def il_Mo_isJumper : List (Nat × Instr × Nat) := [(0, .iload_n 1, 1), (1, .iconst 0, 1), (2, .aload_n 0, 1), (3, .getfield 9, 3), (6, .iconst 2, 1), (7, .iaload, 1), (8, .iconst 1, 1), (9, .isub, 1), (10, .invokestatic 54, 3), (13, .ireturn, 1)]
theorem hd_Mo_isJumper : dall cX7_isJumper il_Mo_isJumper = true := by decide +kernel
def il_Mo_isTreaty : List (Nat × Instr × Nat) := [(0, .iload_n 0, 1), (1, .iconst 0, 1), (2, .bipush 63, 2), (4, .invokestatic 54, 3), (7, .ireturn, 1)]
theorem hd_Mo_isTreaty : dall cX7_isTreaty il_Mo_isTreaty = true := by decide +kernel
def il_Mo_becomes : List (Nat × Instr × Nat) := [(0, .aload_n 0, 1), (1, .getfield 9, 3), (4, .iload_n 1, 1), (5, .iaload, 1), (6, .istore_n 3, 1), (7, .aload_n 0, 1), (8, .getfield 9, 3), (11, .iload_n 1, 1), (12, .iload_n 2, 1), (13, .iastore, 1), (14, .iload_n 3, 1), (15, .ireturn, 1)]
theorem hd_Mo_becomes : dall cX7_becomes il_Mo_becomes = true := by decide +kernel
def il_Mo_of : List (Nat × Instr × Nat) := [(0, .aload_n 0, 1), (1, .getfield 9, 3), (4, .bipush 10, 2), (6, .iconst 5, 1), (7, .iload_n 1, 1), (8, .imul, 1), (9, .iadd, 1), (10, .iload_n 2, 1), (11, .iadd, 1), (12, .iaload, 1), (13, .ireturn, 1)]
theorem hd_Mo_of : dall cX7_of il_Mo_of = true := by decide +kernel
def il_Mo_lets : List (Nat × Instr × Nat) := [(0, .aload_n 0, 1), (1, .getfield 9, 3), (4, .bipush 10, 2), (6, .iconst 5, 1), (7, .iload_n 1, 1), (8, .imul, 1), (9, .iadd, 1), (10, .iload_n 2, 1), (11, .iadd, 1), (12, .iload_n 3, 1), (13, .iastore, 1), (14, .return_, 1)]
theorem hd_Mo_lets : dall cX7_lets il_Mo_lets = true := by decide +kernel
def il_Mo_isIn : List (Nat × Instr × Nat) := [(0, .aload_n 0, 1), (1, .iload_n 1, 1), (2, .iconst 4, 1), (3, .invokevirtual 58, 3), (6, .iconst 1, 1), (7, .if_icmp .ne 7, 3), (10, .iconst 1, 1), (11, .goto 4, 3), (14, .iconst 0, 1), (15, .ireturn, 1)]
theorem hd_Mo_isIn : dall cX7_isIn il_Mo_isIn = true := by decide +kernel
def il_Mo_allIn : List (Nat × Instr × Nat) := [(0, .iconst 0, 1), (1, .istore_n 1, 1), (2, .iconst 0, 1), (3, .istore_n 2, 1), (4, .iload_n 2, 1), (5, .aload_n 0, 1), (6, .getfield 9, 3), (9, .iconst 2, 1), (10, .iaload, 1), (11, .if_icmp .ge 27, 3), (14, .iload_n 1, 1), (15, .aload_n 0, 1), (16, .iload_n 2, 1), (17, .invokevirtual 62, 3), (20, .ifCond .eq 9, 3), (23, .iconst 1, 1), (24, .iload_n 2, 1), (25, .ishl, 1), (26, .goto 4, 3), (29, .iconst 0, 1), (30, .ior, 1), (31, .istore_n 1, 1), (32, .iinc 2 1, 3), (35, .goto (-31), 3), (38, .iload_n 1, 1), (39, .ireturn, 1)]
theorem hd_Mo_allIn : dall cX7_allIn il_Mo_allIn = true := by decide +kernel
def il_Mo_word : List (Nat × Instr × Nat) := [(0, .aload_n 0, 1), (1, .getfield 9, 3), (4, .iconst 0, 1), (5, .iaload, 1), (6, .iconst 4, 1), (7, .irem, 1), (8, .ireturn, 1)]
theorem hd_Mo_word : dall cX7_word il_Mo_word = true := by decide +kernel
def il_Mo_doesTurn : List (Nat × Instr × Nat) := [(0, .aload_n 0, 1), (1, .getfield 9, 3), (4, .iconst 5, 1), (5, .iaload, 1), (6, .ifCond .le 17, 3), (9, .aload_n 0, 1), (10, .getfield 9, 3), (13, .bipush 6, 2), (15, .iaload, 1), (16, .ifCond .le 7, 3), (19, .iconst 1, 1), (20, .goto 4, 3), (23, .iconst 0, 1), (24, .ireturn, 1)]
theorem hd_Mo_doesTurn : dall cX7_doesTurn il_Mo_doesTurn = true := by decide +kernel
def il_Mo_takesOf : List (Nat × Instr × Nat) := [(0, .iconst 1, 1), (1, .aload_n 0, 1), (2, .invokevirtual 66, 3), (5, .iadd, 1), (6, .istore_n 2, 1), (7, .aload_n 0, 1), (8, .iload_n 1, 1), (9, .iconst 0, 1), (10, .invokevirtual 58, 3), (13, .tableswitch 65 1 6 #[39, 65, 43, 45, 57, 61], 39), (52, .iload_n 2, 1), (53, .iconst 1, 1), (54, .iadd, 1), (55, .ireturn, 1), (56, .iconst 1, 1), (57, .ireturn, 1), (58, .iload_n 2, 1), (59, .iconst 1, 1), (60, .iadd, 1), (61, .aload_n 0, 1), (62, .invokevirtual 70, 3), (65, .invokestatic 73, 3), (68, .iadd, 1), (69, .ireturn, 1), (70, .iload_n 2, 1), (71, .iconst 2, 1), (72, .idiv, 1), (73, .ireturn, 1), (74, .iconst 2, 1), (75, .iload_n 2, 1), (76, .imul, 1), (77, .ireturn, 1), (78, .iload_n 2, 1), (79, .ireturn, 1)]
theorem hd_Mo_takesOf : dall cX7_takesOf il_Mo_takesOf = true := by decide +kernel
def il_Mo_costsOf : List (Nat × Instr × Nat) := [(0, .aload_n 0, 1), (1, .iconst 0, 1), (2, .aload_n 0, 1), (3, .iload_n 1, 1), (4, .invokevirtual 77, 3), (7, .aload_n 0, 1), (8, .invokevirtual 66, 3), (11, .aload_n 0, 1), (12, .invokevirtual 70, 3), (15, .invokestatic 73, 3), (18, .invokevirtual 80, 3), (21, .ireturn, 1)]
theorem hd_Mo_costsOf : dall cX7_costsOf il_Mo_costsOf = true := by decide +kernel
def il_Mo_leansOf : List (Nat × Instr × Nat) := [(0, .aload_n 0, 1), (1, .iload_n 1, 1), (2, .iconst 1, 1), (3, .invokevirtual 58, 3), (6, .istore_n 3, 1), (7, .bipush 10, 2), (9, .iload_n 2, 1), (10, .bipush 7, 2), (12, .iload_n 3, 1), (13, .imul, 1), (14, .bipush 9, 2), (16, .iadd, 1), (17, .iand, 1), (18, .invokestatic 73, 3), (21, .imul, 1), (22, .istore 4, 2), (24, .iload 4, 2), (26, .iconst 5, 1), (27, .aload_n 0, 1), (28, .iload_n 1, 1), (29, .iconst 3, 1), (30, .invokevirtual 58, 3), (33, .imul, 1), (34, .iadd, 1), (35, .istore 5, 2), (37, .aload_n 0, 1), (38, .iload_n 1, 1), (39, .iconst 0, 1), (40, .invokevirtual 58, 3), (43, .tableswitch 79 1 6 #[37, 43, 46, 53, 59, 72], 37), (80, .bipush 60, 2), (82, .iload 4, 2), (84, .isub, 1), (85, .ireturn, 1), (86, .iload 5, 2), (88, .ireturn, 1), (89, .bipush 40, 2), (91, .iload_n 2, 1), (92, .iconst 5, 1), (93, .irem, 1), (94, .iadd, 1), (95, .ireturn, 1), (96, .bipush 50, 2), (98, .iload 4, 2), (100, .isub, 1), (101, .ireturn, 1), (102, .iload 5, 2), (104, .aload_n 0, 1), (105, .getfield 9, 3), (108, .iconst 0, 1), (109, .iaload, 1), (110, .bipush 7, 2), (112, .irem, 1), (113, .iadd, 1), (114, .ireturn, 1), (115, .iload 4, 2), (117, .iconst 2, 1), (118, .idiv, 1), (119, .iload_n 3, 1), (120, .iadd, 1), (121, .ireturn, 1), (122, .iload 4, 2), (124, .ireturn, 1)]
theorem hd_Mo_leansOf : dall cX7_leansOf il_Mo_leansOf = true := by decide +kernel
def il_Mo_likesOf : List (Nat × Instr × Nat) := [(0, .aload_n 0, 1), (1, .iconst 1, 1), (2, .aload_n 0, 1), (3, .iload_n 1, 1), (4, .iload_n 2, 1), (5, .invokevirtual 84, 3), (8, .iload_n 2, 1), (9, .aload_n 0, 1), (10, .iload_n 1, 1), (11, .iconst 3, 1), (12, .invokevirtual 58, 3), (15, .invokevirtual 80, 3), (18, .ireturn, 1)]
theorem hd_Mo_likesOf : dall cX7_likesOf il_Mo_likesOf = true := by decide +kernel
def il_Mo_doesTake : List (Nat × Instr × Nat) := [(0, .aload_n 0, 1), (1, .iload_n 1, 1), (2, .iload_n 2, 1), (3, .invokevirtual 87, 3), (6, .aload_n 0, 1), (7, .getfield 9, 3), (10, .bipush 7, 2), (12, .iaload, 1), (13, .if_icmp .lt 7, 3), (16, .iconst 1, 1), (17, .goto 4, 3), (20, .iconst 0, 1), (21, .ireturn, 1)]
theorem hd_Mo_doesTake : dall cX7_doesTake il_Mo_doesTake = true := by decide +kernel
def il_Mo_isTaken : List (Nat × Instr × Nat) := [(0, .iconst 1, 1), (1, .istore_n 2, 1), (2, .iconst 0, 1), (3, .istore_n 3, 1), (4, .iload_n 3, 1), (5, .aload_n 0, 1), (6, .getfield 9, 3), (9, .iconst 2, 1), (10, .iaload, 1), (11, .if_icmp .ge 36, 3), (14, .iload_n 2, 1), (15, .ifCond .eq 32, 3), (18, .aload_n 0, 1), (19, .iload_n 3, 1), (20, .invokevirtual 62, 3), (23, .ifCond .eq 12, 3), (26, .aload_n 0, 1), (27, .iload_n 3, 1), (28, .iload_n 1, 1), (29, .invokevirtual 90, 3), (32, .ifCond .eq 7, 3), (35, .iconst 1, 1), (36, .goto 4, 3), (39, .iconst 0, 1), (40, .istore_n 2, 1), (41, .iinc 3 1, 3), (44, .goto (-40), 3), (47, .iload_n 2, 1), (48, .ireturn, 1)]
theorem hd_Mo_isTaken : dall cX7_isTaken il_Mo_isTaken = true := by decide +kernel
def il_Mo_isKm : List (Nat × Instr × Nat) := [(0, .iload_n 0, 1), (1, .iconst 0, 1), (2, .bipush 69, 2), (4, .invokestatic 54, 3), (7, .ireturn, 1)]
theorem hd_Mo_isKm : dall cX7_isKm il_Mo_isKm = true := by decide +kernel
def il_Mo_jumper : List (Nat × Instr × Nat) := [(0, .iload_n 1, 1), (1, .invokestatic 94, 3), (4, .ifCond .eq 22, 3), (7, .iload_n 2, 1), (8, .iconst 0, 1), (9, .bipush 99, 2), (11, .invokestatic 54, 3), (14, .ifCond .eq 12, 3), (17, .iload_n 3, 1), (18, .iconst 0, 1), (19, .iconst 1, 1), (20, .invokestatic 54, 3), (23, .ifCond .ne 10, 3), (26, .aload_n 0, 1), (27, .ldc 97, 2), (29, .invokevirtual 98, 3), (32, .ireturn, 1), (33, .aload_n 0, 1), (34, .getfield 9, 3), (37, .iconst 2, 1), (38, .iaload, 1), (39, .istore 4, 2), (41, .iload 4, 2), (43, .bipush 6, 2), (45, .if_icmp .ne 10, 3), (48, .aload_n 0, 1), (49, .ldc 101, 2), (51, .invokevirtual 98, 3), (54, .ireturn, 1), (55, .aload_n 0, 1), (56, .getfield 9, 3), (59, .iconst 2, 1), (60, .dup2, 1), (61, .iaload, 1), (62, .iconst 1, 1), (63, .iadd, 1), (64, .iastore, 1), (65, .aload_n 0, 1), (66, .iload 4, 2), (68, .iconst 0, 1), (69, .iload_n 1, 1), (70, .bipush 10, 2), (72, .idiv, 1), (73, .invokevirtual 102, 3), (76, .aload_n 0, 1), (77, .iload 4, 2), (79, .iconst 1, 1), (80, .iload_n 1, 1), (81, .bipush 10, 2), (83, .irem, 1), (84, .invokevirtual 102, 3), (87, .aload_n 0, 1), (88, .iload 4, 2), (90, .iconst 2, 1), (91, .iload_n 2, 1), (92, .invokevirtual 102, 3), (95, .aload_n 0, 1), (96, .iload 4, 2), (98, .iconst 3, 1), (99, .iload_n 3, 1), (100, .invokevirtual 102, 3), (103, .aload_n 0, 1), (104, .iload 4, 2), (106, .iconst 4, 1), (107, .iconst 0, 1), (108, .invokevirtual 102, 3), (111, .iload 4, 2), (113, .ireturn, 1)]
theorem hd_Mo_jumper : dall cX7_jumper il_Mo_jumper = true := by decide +kernel
def il_Mo_jumperIs : List (Nat × Instr × Nat) := [(0, .aload_n 0, 1), (1, .iload_n 1, 1), (2, .invokevirtual 106, 3), (5, .ifCond .eq 12, 3), (8, .iload_n 2, 1), (9, .iconst 0, 1), (10, .iconst 5, 1), (11, .invokestatic 54, 3), (14, .ifCond .ne 10, 3), (17, .aload_n 0, 1), (18, .ldc 97, 2), (20, .invokevirtual 98, 3), (23, .ireturn, 1), (24, .iload_n 2, 1), (25, .iconst 5, 1), (26, .if_icmp .ge 12, 3), (29, .aload_n 0, 1), (30, .iload_n 1, 1), (31, .iload_n 2, 1), (32, .invokevirtual 58, 3), (35, .goto 8, 3), (38, .aload_n 0, 1), (39, .iload_n 1, 1), (40, .invokevirtual 109, 3), (43, .ireturn, 1)]
theorem hd_Mo_jumperIs : dall cX7_jumperIs il_Mo_jumperIs = true := by decide +kernel
def il_Mo_become : List (Nat × Instr × Nat) := [(0, .aload_n 0, 1), (1, .iload_n 1, 1), (2, .invokevirtual 106, 3), (5, .ifCond .eq 10, 3), (8, .iload_n 2, 1), (9, .invokestatic 94, 3), (12, .ifCond .ne 10, 3), (15, .aload_n 0, 1), (16, .ldc 97, 2), (18, .invokevirtual 98, 3), (21, .ireturn, 1), (22, .aload_n 0, 1), (23, .iload_n 1, 1), (24, .iconst 1, 1), (25, .iload_n 2, 1), (26, .bipush 10, 2), (28, .irem, 1), (29, .invokevirtual 102, 3), (32, .aload_n 0, 1), (33, .bipush 10, 2), (35, .iconst 5, 1), (36, .iload_n 1, 1), (37, .imul, 1), (38, .iadd, 1), (39, .iload_n 2, 1), (40, .bipush 10, 2), (42, .idiv, 1), (43, .invokevirtual 112, 3), (46, .ireturn, 1)]
theorem hd_Mo_become : dall cX7_become il_Mo_become = true := by decide +kernel
def il_Mo_as : List (Nat × Instr × Nat) := [(0, .aload_n 0, 1), (1, .iload_n 1, 1), (2, .invokevirtual 106, 3), (5, .ifCond .eq 13, 3), (8, .iload_n 2, 1), (9, .iconst 0, 1), (10, .bipush 6, 2), (12, .invokestatic 54, 3), (15, .ifCond .ne 10, 3), (18, .aload_n 0, 1), (19, .ldc 97, 2), (21, .invokevirtual 98, 3), (24, .ireturn, 1), (25, .aload_n 0, 1), (26, .iload_n 1, 1), (27, .iconst 0, 1), (28, .invokevirtual 58, 3), (31, .istore_n 3, 1), (32, .iload_n 2, 1), (33, .ifCond .eq 28, 3), (36, .iload_n 2, 1), (37, .iload_n 3, 1), (38, .if_icmp .eq 23, 3), (41, .iload_n 2, 1), (42, .iconst 1, 1), (43, .if_icmp .ne 8, 3), (46, .iload_n 3, 1), (47, .iconst 4, 1), (48, .if_icmp .eq 13, 3), (51, .iload_n 2, 1), (52, .iconst 2, 1), (53, .if_icmp .ne 12, 3), (56, .iload_n 3, 1), (57, .iconst 5, 1), (58, .if_icmp .ne 7, 3), (61, .iconst 1, 1), (62, .goto 4, 3), (65, .iconst 0, 1), (66, .istore 4, 2), (68, .iload 4, 2), (70, .ifCond .eq 12, 3), (73, .aload_n 0, 1), (74, .iload_n 1, 1), (75, .iconst 1, 1), (76, .invokevirtual 58, 3), (79, .goto 9, 3), (82, .aload_n 0, 1), (83, .ldc 115, 2), (85, .invokevirtual 98, 3), (88, .ireturn, 1)]
theorem hd_Mo_as : dall cX7_as il_Mo_as = true := by decide +kernel
def il_Mo_jump : List (Nat × Instr × Nat) := [(0, .aload_n 0, 1), (1, .iload_n 1, 1), (2, .invokevirtual 106, 3), (5, .ifCond .eq 12, 3), (8, .iload_n 2, 1), (9, .iconst 0, 1), (10, .iconst 1, 1), (11, .invokestatic 54, 3), (14, .ifCond .ne 10, 3), (17, .aload_n 0, 1), (18, .ldc 97, 2), (20, .invokevirtual 98, 3), (23, .ireturn, 1), (24, .iload_n 2, 1), (25, .iconst 1, 1), (26, .if_icmp .ne 19, 3), (29, .aload_n 0, 1), (30, .invokevirtual 116, 3), (33, .ifCond .ne 12, 3), (36, .aload_n 0, 1), (37, .ldc 120, 2), (39, .invokevirtual 98, 3), (42, .goto 16, 3), (45, .aload_n 0, 1), (46, .bipush 10, 2), (48, .iconst 5, 1), (49, .iload_n 1, 1), (50, .imul, 1), (51, .iadd, 1), (52, .iconst 4, 1), (53, .iadd, 1), (54, .iload_n 2, 1), (55, .invokevirtual 112, 3), (58, .ireturn, 1)]
theorem hd_Mo_jump : dall cX7_jump il_Mo_jump = true := by decide +kernel
def il_Mo_rest : List (Nat × Instr × Nat) := [(0, .aload_n 0, 1), (1, .iload_n 1, 1), (2, .invokevirtual 106, 3), (5, .ifCond .eq 29, 3), (8, .iload_n 2, 1), (9, .iconst 0, 1), (10, .bipush 99, 2), (12, .invokestatic 54, 3), (15, .ifCond .eq 19, 3), (18, .aload_n 0, 1), (19, .bipush 10, 2), (21, .iconst 5, 1), (22, .iload_n 1, 1), (23, .imul, 1), (24, .iadd, 1), (25, .iconst 2, 1), (26, .iadd, 1), (27, .iload_n 2, 1), (28, .invokevirtual 112, 3), (31, .goto 9, 3), (34, .aload_n 0, 1), (35, .ldc 97, 2), (37, .invokevirtual 98, 3), (40, .ireturn, 1)]
theorem hd_Mo_rest : dall cX7_rest il_Mo_rest = true := by decide +kernel
def il_Mo_spell : List (Nat × Instr × Nat) := [(0, .iload_n 1, 1), (1, .iconst 0, 1), (2, .iconst 1, 1), (3, .invokestatic 54, 3), (6, .ifCond .eq 24, 3), (9, .iload_n 2, 1), (10, .iconst 0, 1), (11, .bipush 99, 2), (13, .invokestatic 54, 3), (16, .ifCond .eq 14, 3), (19, .aload_n 0, 1), (20, .iconst 5, 1), (21, .iload_n 1, 1), (22, .iadd, 1), (23, .iload_n 2, 1), (24, .invokevirtual 112, 3), (27, .goto 9, 3), (30, .aload_n 0, 1), (31, .ldc 97, 2), (33, .invokevirtual 98, 3), (36, .ireturn, 1)]
theorem hd_Mo_spell : dall cX7_spell il_Mo_spell = true := by decide +kernel
def il_Mo_bar : List (Nat × Instr × Nat) := [(0, .iload_n 1, 1), (1, .iconst 0, 1), (2, .bipush 99, 2), (4, .invokestatic 54, 3), (7, .ifCond .eq 13, 3), (10, .aload_n 0, 1), (11, .bipush 7, 2), (13, .iload_n 1, 1), (14, .invokevirtual 112, 3), (17, .goto 9, 3), (20, .aload_n 0, 1), (21, .ldc 97, 2), (23, .invokevirtual 98, 3), (26, .ireturn, 1)]
theorem hd_Mo_bar : dall cX7_bar il_Mo_bar = true := by decide +kernel
def il_Mo_liking : List (Nat × Instr × Nat) := [(0, .aload_n 0, 1), (1, .iload_n 1, 1), (2, .invokevirtual 106, 3), (5, .ifCond .eq 19, 3), (8, .iload_n 2, 1), (9, .invokestatic 121, 3), (12, .ifCond .eq 12, 3), (15, .aload_n 0, 1), (16, .iload_n 1, 1), (17, .iload_n 2, 1), (18, .invokevirtual 87, 3), (21, .goto 9, 3), (24, .aload_n 0, 1), (25, .ldc 97, 2), (27, .invokevirtual 98, 3), (30, .ireturn, 1)]
theorem hd_Mo_liking : dall cX7_liking il_Mo_liking = true := by decide +kernel
def il_Mo_mayTalk : List (Nat × Instr × Nat) := [(0, .aload_n 0, 1), (1, .iload_n 1, 1), (2, .invokevirtual 62, 3), (5, .ifCond .eq 22, 3), (8, .aload_n 0, 1), (9, .invokevirtual 116, 3), (12, .ifCond .eq 15, 3), (15, .aload_n 0, 1), (16, .invokevirtual 66, 3), (19, .iconst 3, 1), (20, .if_icmp .eq 7, 3), (23, .iconst 1, 1), (24, .goto 4, 3), (27, .iconst 0, 1), (28, .ireturn, 1)]
theorem hd_Mo_mayTalk : dall cX7_mayTalk il_Mo_mayTalk = true := by decide +kernel
def il_Mo_talks : List (Nat × Instr × Nat) := [(0, .aload_n 0, 1), (1, .iload_n 1, 1), (2, .invokevirtual 124, 3), (5, .istore_n 2, 1), (6, .aload_n 0, 1), (7, .getfield 9, 3), (10, .iconst 3, 1), (11, .iload_n 2, 1), (12, .ifCond .eq 7, 3), (15, .iload_n 1, 1), (16, .goto 9, 3), (19, .aload_n 0, 1), (20, .getfield 9, 3), (23, .iconst 3, 1), (24, .iaload, 1), (25, .iastore, 1), (26, .iload_n 2, 1), (27, .ireturn, 1)]
theorem hd_Mo_talks : dall cX7_talks il_Mo_talks = true := by decide +kernel
def il_Mo_talk : List (Nat × Instr × Nat) := [(0, .aload_n 0, 1), (1, .iload_n 1, 1), (2, .invokevirtual 106, 3), (5, .ifCond .eq 10, 3), (8, .iload_n 2, 1), (9, .invokestatic 121, 3), (12, .ifCond .ne 10, 3), (15, .aload_n 0, 1), (16, .ldc 97, 2), (18, .invokevirtual 98, 3), (21, .ireturn, 1), (22, .aload_n 0, 1), (23, .iload_n 1, 1), (24, .invokevirtual 127, 3), (27, .ifCond .ne 10, 3), (30, .aload_n 0, 1), (31, .ldc 120, 2), (33, .invokevirtual 98, 3), (36, .ireturn, 1), (37, .aload_n 0, 1), (38, .iload_n 2, 1), (39, .invokevirtual 130, 3), (42, .ifCond .eq 7, 3), (45, .iconst 1, 1), (46, .goto 4, 3), (49, .iconst 0, 1), (50, .ireturn, 1)]
theorem hd_Mo_talk : dall cX7_talk il_Mo_talk = true := by decide +kernel
def il_Mo_feed : List (Nat × Instr × Nat) := [(0, .iload_n 3, 1), (1, .iconst 1, 1), (2, .bipush 8, 2), (4, .invokestatic 54, 3), (7, .ifCond .ne 10, 3), (10, .aload_n 0, 1), (11, .ldc 97, 2), (13, .invokevirtual 98, 3), (16, .ireturn, 1), (17, .aload_n 0, 1), (18, .getfield 9, 3), (21, .bipush 8, 2), (23, .iaload, 1), (24, .iload_n 3, 1), (25, .iadd, 1), (26, .bipush 60, 2), (28, .if_icmp .le 10, 3), (31, .aload_n 0, 1), (32, .ldc 101, 2), (34, .invokevirtual 98, 3), (37, .ireturn, 1), (38, .iconst 0, 1), (39, .istore 4, 2), (41, .iload 4, 2), (43, .iload_n 3, 1), (44, .if_icmp .ge 47, 3), (47, .aload_n 0, 1), (48, .getfield 9, 3), (51, .bipush 40, 2), (53, .aload_n 0, 1), (54, .getfield 9, 3), (57, .bipush 8, 2), (59, .iaload, 1), (60, .iadd, 1), (61, .lload_n 1, 1), (62, .bipush 8, 2), (64, .iload 4, 2), (66, .imul, 1), (67, .lshr, 1), (68, .ldc2_w 133, 3), (71, .land, 1), (72, .l2i, 1), (73, .iastore, 1), (74, .aload_n 0, 1), (75, .getfield 9, 3), (78, .bipush 8, 2), (80, .dup2, 1), (81, .iaload, 1), (82, .iconst 1, 1), (83, .iadd, 1), (84, .iastore, 1), (85, .iinc 4 1, 3), (88, .goto (-47), 3), (91, .aload_n 0, 1), (92, .getfield 9, 3), (95, .bipush 8, 2), (97, .iaload, 1), (98, .ireturn, 1)]
theorem hd_Mo_feed : dall cX7_feed il_Mo_feed = true := by decide +kernel
def il_Mo_look : List (Nat × Instr × Nat) := [(0, .aload_n 0, 1), (1, .getfield 135, 3), (4, .aload_n 0, 1), (5, .getfield 9, 3), (8, .bipush 8, 2), (10, .iaload, 1), (11, .if_icmp .ge 18, 3), (14, .aload_n 0, 1), (15, .getfield 9, 3), (18, .bipush 40, 2), (20, .aload_n 0, 1), (21, .getfield 135, 3), (24, .iadd, 1), (25, .iaload, 1), (26, .goto 4, 3), (29, .iconst (-1), 1), (30, .ireturn, 1)]
theorem hd_Mo_look : dall cX7_look il_Mo_look = true := by decide +kernel
def il_Mo_lays : List (Nat × Instr × Nat) := [(0, .aload_n 0, 1), (1, .getfield 139, 3), (4, .aload_n 0, 1), (5, .getfield 31, 3), (8, .arraylength, 1), (9, .if_icmp .ge 33, 3), (12, .aload_n 0, 1), (13, .getfield 31, 3), (16, .aload_n 0, 1), (17, .getfield 139, 3), (20, .iload_n 1, 1), (21, .iastore, 1), (22, .aload_n 0, 1), (23, .getfield 34, 3), (26, .aload_n 0, 1), (27, .getfield 139, 3), (30, .iload_n 2, 1), (31, .iastore, 1), (32, .aload_n 0, 1), (33, .dup, 1), (34, .getfield 139, 3), (37, .iconst 1, 1), (38, .iadd, 1), (39, .putfield 139, 3), (42, .return_, 1)]
theorem hd_Mo_lays : dall cX7_lays il_Mo_lays = true := by decide +kernel
def il_Mo_nameOf : List (Nat × Instr × Nat) := [(0, .iload_n 1, 1), (1, .tableswitch 158 98 116 #[91, 91, 158, 158, 158, 158, 158, 158, 158, 158, 124, 158, 158, 158, 91, 158, 158, 124, 124], 91), (92, .aload_n 0, 1), (93, .getfield 142, 3), (96, .ifCond .eq 7, 3), (99, .iconst (-1), 1), (100, .goto 24, 3), (103, .iload_n 1, 1), (104, .bipush 99, 2), (106, .if_icmp .ne 7, 3), (109, .iconst 0, 1), (110, .goto 14, 3), (113, .iload_n 1, 1), (114, .bipush 98, 2), (116, .if_icmp .ne 7, 3), (119, .iconst 1, 1), (120, .goto 4, 3), (123, .iconst 2, 1), (124, .ireturn, 1), (125, .aload_n 0, 1), (126, .getfield 142, 3), (129, .iconst 1, 1), (130, .if_icmp .eq 7, 3), (133, .iconst (-1), 1), (134, .goto 24, 3), (137, .iload_n 1, 1), (138, .bipush 108, 2), (140, .if_icmp .ne 7, 3), (143, .iconst 0, 1), (144, .goto 14, 3), (147, .iload_n 1, 1), (148, .bipush 116, 2), (150, .if_icmp .ne 7, 3), (153, .iconst 1, 1), (154, .goto 4, 3), (157, .iconst 2, 1), (158, .ireturn, 1), (159, .iconst (-1), 1), (160, .ireturn, 1)]
theorem hd_Mo_nameOf : dall cX7_nameOf il_Mo_nameOf = true := by decide +kernel
def il_Mo_number : List (Nat × Instr × Nat) := [(0, .iconst 0, 1), (1, .istore_n 1, 1), (2, .iconst 0, 1), (3, .istore_n 2, 1), (4, .iload_n 2, 1), (5, .iconst 4, 1), (6, .if_icmp .ge 46, 3), (9, .aload_n 0, 1), (10, .invokevirtual 145, 3), (13, .bipush 48, 2), (15, .bipush 57, 2), (17, .invokestatic 54, 3), (20, .ifCond .eq 32, 3), (23, .bipush 10, 2), (25, .iload_n 1, 1), (26, .imul, 1), (27, .aload_n 0, 1), (28, .invokevirtual 145, 3), (31, .iadd, 1), (32, .bipush 48, 2), (34, .isub, 1), (35, .istore_n 1, 1), (36, .aload_n 0, 1), (37, .dup, 1), (38, .getfield 135, 3), (41, .iconst 1, 1), (42, .iadd, 1), (43, .putfield 135, 3), (46, .iinc 2 1, 3), (49, .goto (-45), 3), (52, .aload_n 0, 1), (53, .iload_n 2, 1), (54, .ifCond .ne 7, 3), (57, .iconst 1, 1), (58, .goto 4, 3), (61, .iconst 0, 1), (62, .putfield 148, 3), (65, .aload_n 0, 1), (66, .iconst 1, 1), (67, .iload_n 1, 1), (68, .invokevirtual 152, 3), (71, .return_, 1)]
theorem hd_Mo_number : dall cX7_number il_Mo_number = true := by decide +kernel
def il_Mo_opens : List (Nat × Instr × Nat) := [(0, .aload_n 0, 1), (1, .getfield 156, 3), (4, .iconst 5, 1), (5, .if_icmp .ne 9, 3), (8, .aload_n 0, 1), (9, .iconst 1, 1), (10, .putfield 148, 3), (13, .return_, 1), (14, .aload_n 0, 1), (15, .dup, 1), (16, .getfield 156, 3), (19, .iconst 1, 1), (20, .iadd, 1), (21, .putfield 156, 3), (24, .aload_n 0, 1), (25, .dup, 1), (26, .getfield 135, 3), (29, .iconst 1, 1), (30, .iadd, 1), (31, .putfield 135, 3), (34, .iload_n 1, 1), (35, .bipush 33, 2), (37, .if_icmp .ne 16, 3), (40, .aload_n 0, 1), (41, .invokevirtual 159, 3), (44, .aload_n 0, 1), (45, .iconst 3, 1), (46, .iconst 0, 1), (47, .invokevirtual 152, 3), (50, .goto 53, 3), (53, .aload_n 0, 1), (54, .invokevirtual 162, 3), (57, .aload_n 0, 1), (58, .aload_n 0, 1), (59, .getfield 148, 3), (62, .ifCond .ne 12, 3), (65, .aload_n 0, 1), (66, .invokevirtual 145, 3), (69, .bipush 41, 2), (71, .if_icmp .eq 7, 3), (74, .iconst 1, 1), (75, .goto 4, 3), (78, .iconst 0, 1), (79, .putfield 148, 3), (82, .aload_n 0, 1), (83, .dup, 1), (84, .getfield 135, 3), (87, .aload_n 0, 1), (88, .getfield 148, 3), (91, .ifCond .eq 7, 3), (94, .iconst 0, 1), (95, .goto 4, 3), (98, .iconst 1, 1), (99, .iadd, 1), (100, .putfield 135, 3), (103, .aload_n 0, 1), (104, .dup, 1), (105, .getfield 156, 3), (108, .iconst 1, 1), (109, .isub, 1), (110, .putfield 156, 3), (113, .return_, 1)]
theorem hd_Mo_opens : dall cX7_opens il_Mo_opens = true := by decide +kernel
def il_Mo_one : List (Nat × Instr × Nat) := [(0, .aload_n 0, 1), (1, .invokevirtual 145, 3), (4, .istore_n 1, 1), (5, .aload_n 0, 1), (6, .iload_n 1, 1), (7, .invokevirtual 165, 3), (10, .istore_n 2, 1), (11, .iload_n 2, 1), (12, .ifCond .lt 22, 3), (15, .aload_n 0, 1), (16, .dup, 1), (17, .getfield 135, 3), (20, .iconst 1, 1), (21, .iadd, 1), (22, .putfield 135, 3), (25, .aload_n 0, 1), (26, .iconst 2, 1), (27, .iload_n 2, 1), (28, .invokevirtual 152, 3), (31, .goto 27, 3), (34, .iload_n 1, 1), (35, .bipush 33, 2), (37, .if_icmp .eq 9, 3), (40, .iload_n 1, 1), (41, .bipush 40, 2), (43, .if_icmp .ne 11, 3), (46, .aload_n 0, 1), (47, .iload_n 1, 1), (48, .invokevirtual 168, 3), (51, .goto 7, 3), (54, .aload_n 0, 1), (55, .invokevirtual 172, 3), (58, .return_, 1)]
theorem hd_Mo_one : dall cX7_one il_Mo_one = true := by decide +kernel
def il_Mo_times : List (Nat × Instr × Nat) := [(0, .aload_n 0, 1), (1, .invokevirtual 159, 3), (4, .aload_n 0, 1), (5, .getfield 148, 3), (8, .ifCond .ne 58, 3), (11, .aload_n 0, 1), (12, .invokevirtual 145, 3), (15, .bipush 42, 2), (17, .if_icmp .eq 21, 3), (20, .aload_n 0, 1), (21, .invokevirtual 145, 3), (24, .bipush 47, 2), (26, .if_icmp .eq 12, 3), (29, .aload_n 0, 1), (30, .invokevirtual 145, 3), (33, .bipush 37, 2), (35, .if_icmp .ne 31, 3), (38, .aload_n 0, 1), (39, .invokevirtual 145, 3), (42, .istore_n 1, 1), (43, .aload_n 0, 1), (44, .dup, 1), (45, .getfield 135, 3), (48, .iconst 1, 1), (49, .iadd, 1), (50, .putfield 135, 3), (53, .aload_n 0, 1), (54, .invokevirtual 159, 3), (57, .aload_n 0, 1), (58, .iload_n 1, 1), (59, .iconst 0, 1), (60, .invokevirtual 152, 3), (63, .goto (-59), 3), (66, .return_, 1)]
theorem hd_Mo_times : dall cX7_times il_Mo_times = true := by decide +kernel
def il_Mo_sum : List (Nat × Instr × Nat) := [(0, .aload_n 0, 1), (1, .invokevirtual 175, 3), (4, .aload_n 0, 1), (5, .getfield 148, 3), (8, .ifCond .ne 49, 3), (11, .aload_n 0, 1), (12, .invokevirtual 145, 3), (15, .bipush 43, 2), (17, .if_icmp .eq 12, 3), (20, .aload_n 0, 1), (21, .invokevirtual 145, 3), (24, .bipush 45, 2), (26, .if_icmp .ne 31, 3), (29, .aload_n 0, 1), (30, .invokevirtual 145, 3), (33, .istore_n 1, 1), (34, .aload_n 0, 1), (35, .dup, 1), (36, .getfield 135, 3), (39, .iconst 1, 1), (40, .iadd, 1), (41, .putfield 135, 3), (44, .aload_n 0, 1), (45, .invokevirtual 175, 3), (48, .aload_n 0, 1), (49, .iload_n 1, 1), (50, .iconst 0, 1), (51, .invokevirtual 152, 3), (54, .goto (-50), 3), (57, .return_, 1)]
theorem hd_Mo_sum : dall cX7_sum il_Mo_sum = true := by decide +kernel
def il_Mo_compares : List (Nat × Instr × Nat) := [(0, .aload_n 0, 1), (1, .invokevirtual 178, 3), (4, .aload_n 0, 1), (5, .invokevirtual 145, 3), (8, .istore_n 1, 1), (9, .aload_n 0, 1), (10, .getfield 148, 3), (13, .ifCond .ne 41, 3), (16, .iload_n 1, 1), (17, .bipush 60, 2), (19, .if_icmp .eq 15, 3), (22, .iload_n 1, 1), (23, .bipush 61, 2), (25, .if_icmp .eq 9, 3), (28, .iload_n 1, 1), (29, .bipush 62, 2), (31, .if_icmp .ne 23, 3), (34, .aload_n 0, 1), (35, .dup, 1), (36, .getfield 135, 3), (39, .iconst 1, 1), (40, .iadd, 1), (41, .putfield 135, 3), (44, .aload_n 0, 1), (45, .invokevirtual 178, 3), (48, .aload_n 0, 1), (49, .iload_n 1, 1), (50, .iconst 0, 1), (51, .invokevirtual 152, 3), (54, .return_, 1)]
theorem hd_Mo_compares : dall cX7_compares il_Mo_compares = true := by decide +kernel
def il_Mo_all : List (Nat × Instr × Nat) := [(0, .aload_n 0, 1), (1, .invokevirtual 181, 3), (4, .aload_n 0, 1), (5, .getfield 148, 3), (8, .ifCond .ne 36, 3), (11, .aload_n 0, 1), (12, .invokevirtual 145, 3), (15, .bipush 38, 2), (17, .if_icmp .ne 27, 3), (20, .aload_n 0, 1), (21, .dup, 1), (22, .getfield 135, 3), (25, .iconst 1, 1), (26, .iadd, 1), (27, .putfield 135, 3), (30, .aload_n 0, 1), (31, .invokevirtual 181, 3), (34, .aload_n 0, 1), (35, .bipush 38, 2), (37, .iconst 0, 1), (38, .invokevirtual 152, 3), (41, .goto (-37), 3), (44, .return_, 1)]
theorem hd_Mo_all : dall cX7_all il_Mo_all = true := by decide +kernel
def il_Mo_any : List (Nat × Instr × Nat) := [(0, .aload_n 0, 1), (1, .invokevirtual 184, 3), (4, .aload_n 0, 1), (5, .getfield 148, 3), (8, .ifCond .ne 36, 3), (11, .aload_n 0, 1), (12, .invokevirtual 145, 3), (15, .bipush 124, 2), (17, .if_icmp .ne 27, 3), (20, .aload_n 0, 1), (21, .dup, 1), (22, .getfield 135, 3), (25, .iconst 1, 1), (26, .iadd, 1), (27, .putfield 135, 3), (30, .aload_n 0, 1), (31, .invokevirtual 184, 3), (34, .aload_n 0, 1), (35, .bipush 124, 2), (37, .iconst 0, 1), (38, .invokevirtual 152, 3), (41, .goto (-37), 3), (44, .return_, 1)]
theorem hd_Mo_any : dall cX7_any il_Mo_any = true := by decide +kernel
def il_Mo_text : List (Nat × Instr × Nat) := [(0, .iload_n 1, 1), (1, .iconst 0, 1), (2, .iconst 1, 1), (3, .invokestatic 54, 3), (6, .ifCond .ne 10, 3), (9, .aload_n 0, 1), (10, .ldc 97, 2), (12, .invokevirtual 98, 3), (15, .ireturn, 1), (16, .aload_n 0, 1), (17, .iload_n 1, 1), (18, .putfield 142, 3), (21, .aload_n 0, 1), (22, .iconst 0, 1), (23, .putfield 139, 3), (26, .aload_n 0, 1), (27, .iconst 0, 1), (28, .putfield 135, 3), (31, .aload_n 0, 1), (32, .iconst 0, 1), (33, .putfield 156, 3), (36, .aload_n 0, 1), (37, .iconst 0, 1), (38, .putfield 148, 3), (41, .aload_n 0, 1), (42, .invokevirtual 162, 3), (45, .aload_n 0, 1), (46, .aload_n 0, 1), (47, .getfield 148, 3), (50, .ifCond .ne 17, 3), (53, .aload_n 0, 1), (54, .getfield 135, 3), (57, .aload_n 0, 1), (58, .getfield 9, 3), (61, .bipush 8, 2), (63, .iaload, 1), (64, .if_icmp .ge 7, 3), (67, .iconst 1, 1), (68, .goto 4, 3), (71, .iconst 0, 1), (72, .putfield 148, 3), (75, .aload_n 0, 1), (76, .getfield 9, 3), (79, .bipush 8, 2), (81, .iconst 0, 1), (82, .iastore, 1), (83, .aload_n 0, 1), (84, .getfield 148, 3), (87, .ifCond .eq 11, 3), (90, .bipush (-10), 2), (92, .aload_n 0, 1), (93, .getfield 135, 3), (96, .isub, 1), (97, .ireturn, 1), (98, .bipush 124, 2), (100, .bipush 121, 2), (102, .iload_n 1, 1), (103, .imul, 1), (104, .iadd, 1), (105, .istore_n 2, 1), (106, .aload_n 0, 1), (107, .getfield 9, 3), (110, .iload_n 2, 1), (111, .aload_n 0, 1), (112, .getfield 139, 3), (115, .iastore, 1), (116, .iconst 0, 1), (117, .istore_n 3, 1), (118, .iload_n 3, 1), (119, .aload_n 0, 1), (120, .getfield 139, 3), (123, .if_icmp .ge 42, 3), (126, .aload_n 0, 1), (127, .getfield 9, 3), (130, .iload_n 2, 1), (131, .iconst 1, 1), (132, .iadd, 1), (133, .iload_n 3, 1), (134, .iadd, 1), (135, .aload_n 0, 1), (136, .getfield 31, 3), (139, .iload_n 3, 1), (140, .iaload, 1), (141, .iastore, 1), (142, .aload_n 0, 1), (143, .getfield 9, 3), (146, .iload_n 2, 1), (147, .bipush 61, 2), (149, .iadd, 1), (150, .iload_n 3, 1), (151, .iadd, 1), (152, .aload_n 0, 1), (153, .getfield 34, 3), (156, .iload_n 3, 1), (157, .iaload, 1), (158, .iastore, 1), (159, .iinc 3 1, 3), (162, .goto (-44), 3), (165, .iconst 1, 1), (166, .ireturn, 1)]
theorem hd_Mo_text : dall cX7_text il_Mo_text = true := by decide +kernel
def il_Mo_untell : List (Nat × Instr × Nat) := [(0, .iload_n 1, 1), (1, .iconst 0, 1), (2, .iconst 1, 1), (3, .invokestatic 54, 3), (6, .ifCond .ne 10, 3), (9, .aload_n 0, 1), (10, .ldc 97, 2), (12, .invokevirtual 98, 3), (15, .ireturn, 1), (16, .aload_n 0, 1), (17, .bipush 124, 2), (19, .bipush 121, 2), (21, .iload_n 1, 1), (22, .imul, 1), (23, .iadd, 1), (24, .iconst 0, 1), (25, .invokevirtual 112, 3), (28, .ifCond .le 7, 3), (31, .iconst 1, 1), (32, .goto 4, 3), (35, .iconst 0, 1), (36, .ireturn, 1)]
theorem hd_Mo_untell : dall cX7_untell il_Mo_untell = true := by decide +kernel
def il_Mo_twoOf : List (Nat × Instr × Nat) := [(0, .iload_n 0, 1), (1, .tableswitch 202 37 62 #[143, 188, 202, 202, 202, 127, 119, 202, 123, 202, 131, 202, 202, 202, 202, 202, 202, 202, 202, 202, 202, 202, 202, 155, 166, 177], 119), (120, .iload_n 1, 1), (121, .iload_n 2, 1), (122, .iadd, 1), (123, .ireturn, 1), (124, .iload_n 1, 1), (125, .iload_n 2, 1), (126, .isub, 1), (127, .ireturn, 1), (128, .iload_n 1, 1), (129, .iload_n 2, 1), (130, .imul, 1), (131, .ireturn, 1), (132, .iload_n 2, 1), (133, .ifCond .ne 7, 3), (136, .iconst 0, 1), (137, .goto 6, 3), (140, .iload_n 1, 1), (141, .iload_n 2, 1), (142, .idiv, 1), (143, .ireturn, 1), (144, .iload_n 2, 1), (145, .ifCond .ne 7, 3), (148, .iconst 0, 1), (149, .goto 6, 3), (152, .iload_n 1, 1), (153, .iload_n 2, 1), (154, .irem, 1), (155, .ireturn, 1), (156, .iload_n 1, 1), (157, .iload_n 2, 1), (158, .if_icmp .ge 7, 3), (161, .iconst 1, 1), (162, .goto 4, 3), (165, .iconst 0, 1), (166, .ireturn, 1), (167, .iload_n 1, 1), (168, .iload_n 2, 1), (169, .if_icmp .ne 7, 3), (172, .iconst 1, 1), (173, .goto 4, 3), (176, .iconst 0, 1), (177, .ireturn, 1), (178, .iload_n 1, 1), (179, .iload_n 2, 1), (180, .if_icmp .le 7, 3), (183, .iconst 1, 1), (184, .goto 4, 3), (187, .iconst 0, 1), (188, .ireturn, 1), (189, .iload_n 1, 1), (190, .ifCond .eq 11, 3), (193, .iload_n 2, 1), (194, .ifCond .eq 7, 3), (197, .iconst 1, 1), (198, .goto 4, 3), (201, .iconst 0, 1), (202, .ireturn, 1), (203, .iload_n 1, 1), (204, .ifCond .ne 7, 3), (207, .iload_n 2, 1), (208, .ifCond .eq 7, 3), (211, .iconst 1, 1), (212, .goto 4, 3), (215, .iconst 0, 1), (216, .ireturn, 1)]
theorem hd_Mo_twoOf : dall cX7_twoOf il_Mo_twoOf = true := by decide +kernel
def il_Mo_works : List (Nat × Instr × Nat) := [(0, .iconst 0, 1), (1, .istore_n 2, 1), (2, .iconst 0, 1), (3, .istore_n 3, 1), (4, .iload_n 3, 1), (5, .aload_n 0, 1), (6, .getfield 9, 3), (9, .iload_n 1, 1), (10, .iaload, 1), (11, .if_icmp .ge 144, 3), (14, .aload_n 0, 1), (15, .getfield 9, 3), (18, .iload_n 1, 1), (19, .iconst 1, 1), (20, .iadd, 1), (21, .iload_n 3, 1), (22, .iadd, 1), (23, .iaload, 1), (24, .istore 4, 2), (26, .iload 4, 2), (28, .iconst 1, 1), (29, .if_icmp .eq 9, 3), (32, .iload 4, 2), (34, .iconst 2, 1), (35, .if_icmp .ne 51, 3), (38, .aload_n 0, 1), (39, .getfield 40, 3), (42, .iload_n 2, 1), (43, .iload 4, 2), (45, .iconst 1, 1), (46, .if_icmp .ne 17, 3), (49, .aload_n 0, 1), (50, .getfield 9, 3), (53, .iload_n 1, 1), (54, .bipush 61, 2), (56, .iadd, 1), (57, .iload_n 3, 1), (58, .iadd, 1), (59, .iaload, 1), (60, .goto 19, 3), (63, .aload_n 0, 1), (64, .getfield 37, 3), (67, .aload_n 0, 1), (68, .getfield 9, 3), (71, .iload_n 1, 1), (72, .bipush 61, 2), (74, .iadd, 1), (75, .iload_n 3, 1), (76, .iadd, 1), (77, .iaload, 1), (78, .iaload, 1), (79, .iastore, 1), (80, .iinc 2 1, 3), (83, .goto 66, 3), (86, .iload 4, 2), (88, .iconst 3, 1), (89, .if_icmp .ne 30, 3), (92, .aload_n 0, 1), (93, .getfield 40, 3), (96, .iload_n 2, 1), (97, .iconst 1, 1), (98, .isub, 1), (99, .aload_n 0, 1), (100, .getfield 40, 3), (103, .iload_n 2, 1), (104, .iconst 1, 1), (105, .isub, 1), (106, .iaload, 1), (107, .ifCond .ne 7, 3), (110, .iconst 1, 1), (111, .goto 4, 3), (114, .iconst 0, 1), (115, .iastore, 1), (116, .goto 33, 3), (119, .iinc 2 (-1), 3), (122, .aload_n 0, 1), (123, .getfield 40, 3), (126, .iload_n 2, 1), (127, .iconst 1, 1), (128, .isub, 1), (129, .iload 4, 2), (131, .aload_n 0, 1), (132, .getfield 40, 3), (135, .iload_n 2, 1), (136, .iconst 1, 1), (137, .isub, 1), (138, .iaload, 1), (139, .aload_n 0, 1), (140, .getfield 40, 3), (143, .iload_n 2, 1), (144, .iaload, 1), (145, .invokestatic 187, 3), (148, .iastore, 1), (149, .iinc 3 1, 3), (152, .goto (-148), 3), (155, .aload_n 0, 1), (156, .getfield 40, 3), (159, .iconst 0, 1), (160, .iaload, 1), (161, .ireturn, 1)]
theorem hd_Mo_works : dall cX7_works il_Mo_works = true := by decide +kernel
end
section
def il_Mo_gives : List (Nat × Instr × Nat) := [(0, .bipush 124, 2), (2, .bipush 121, 2), (4, .iload_n 1, 1), (5, .imul, 1), (6, .iadd, 1), (7, .istore 5, 2), (9, .aload_n 0, 1), (10, .getfield 37, 3), (13, .iconst 0, 1), (14, .iload_n 2, 1), (15, .iastore, 1), (16, .aload_n 0, 1), (17, .getfield 37, 3), (20, .iconst 1, 1), (21, .iload_n 3, 1), (22, .iastore, 1), (23, .aload_n 0, 1), (24, .getfield 37, 3), (27, .iconst 2, 1), (28, .iload 4, 2), (30, .iastore, 1), (31, .aload_n 0, 1), (32, .getfield 9, 3), (35, .iload 5, 2), (37, .iaload, 1), (38, .ifCond .le 12, 3), (41, .aload_n 0, 1), (42, .iload 5, 2), (44, .invokevirtual 191, 3), (47, .goto 4, 3), (50, .iload_n 2, 1), (51, .istore 6, 2), (53, .iload_n 1, 1), (54, .ifCond .ne 14, 3), (57, .iload 6, 2), (59, .iconst 0, 1), (60, .bipush 20, 2), (62, .invokestatic 194, 3), (65, .goto 11, 3), (68, .iload 6, 2), (70, .iconst 0, 1), (71, .bipush 99, 2), (73, .invokestatic 194, 3), (76, .ireturn, 1)]
theorem hd_Mo_gives : dall cX7_gives il_Mo_gives = true := by decide +kernel
def il_Mo_law : List (Nat × Instr × Nat) := [(0, .iload_n 1, 1), (1, .iconst 0, 1), (2, .iconst 1, 1), (3, .invokestatic 54, 3), (6, .ifCond .eq 15, 3), (9, .aload_n 0, 1), (10, .iload_n 1, 1), (11, .iload_n 2, 1), (12, .iload_n 3, 1), (13, .iload 4, 2), (15, .invokevirtual 80, 3), (18, .goto 9, 3), (21, .aload_n 0, 1), (22, .ldc 97, 2), (24, .invokevirtual 98, 3), (27, .ireturn, 1)]
theorem hd_Mo_law : dall cX7_law il_Mo_law = true := by decide +kernel
def il_Mo_misses : List (Nat × Instr × Nat) := [(0, .aload_n 0, 1), (1, .iload_n 1, 1), (2, .iconst 2, 1), (3, .invokevirtual 58, 3), (6, .istore_n 2, 1), (7, .aload_n 0, 1), (8, .iload_n 1, 1), (9, .invokevirtual 62, 3), (12, .ifCond .eq 17, 3), (15, .iload_n 2, 1), (16, .aload_n 0, 1), (17, .getfield 43, 3), (20, .iload_n 1, 1), (21, .iaload, 1), (22, .if_icmp .ge 7, 3), (25, .iconst 1, 1), (26, .goto 4, 3), (29, .iconst 0, 1), (30, .istore_n 3, 1), (31, .aload_n 0, 1), (32, .iload_n 1, 1), (33, .iconst 2, 1), (34, .aload_n 0, 1), (35, .iload_n 1, 1), (36, .invokevirtual 62, 3), (39, .ifCond .ne 15, 3), (42, .iload_n 2, 1), (43, .iconst 1, 1), (44, .iadd, 1), (45, .iconst 0, 1), (46, .bipush 99, 2), (48, .invokestatic 194, 3), (51, .goto 19, 3), (54, .iload_n 3, 1), (55, .ifCond .eq 7, 3), (58, .iload_n 2, 1), (59, .goto 11, 3), (62, .iload_n 2, 1), (63, .aload_n 0, 1), (64, .getfield 43, 3), (67, .iload_n 1, 1), (68, .iaload, 1), (69, .isub, 1), (70, .invokevirtual 102, 3), (73, .aload_n 0, 1), (74, .iload_n 1, 1), (75, .iconst 4, 1), (76, .iload_n 3, 1), (77, .ifCond .eq 7, 3), (80, .iconst 0, 1), (81, .goto 9, 3), (84, .aload_n 0, 1), (85, .iload_n 1, 1), (86, .iconst 4, 1), (87, .invokevirtual 58, 3), (90, .invokevirtual 102, 3), (93, .iload_n 3, 1), (94, .ireturn, 1)]
theorem hd_Mo_misses : dall cX7_misses il_Mo_misses = true := by decide +kernel
def il_Mo_goes : List (Nat × Instr × Nat) := [(0, .iconst 0, 1), (1, .istore_n 1, 1), (2, .aload_n 0, 1), (3, .invokevirtual 116, 3), (6, .ifCond .eq 87, 3), (9, .iconst 0, 1), (10, .istore_n 2, 1), (11, .iload_n 2, 1), (12, .aload_n 0, 1), (13, .getfield 9, 3), (16, .iconst 2, 1), (17, .iaload, 1), (18, .if_icmp .ge 20, 3), (21, .aload_n 0, 1), (22, .getfield 43, 3), (25, .iload_n 2, 1), (26, .aload_n 0, 1), (27, .iload_n 2, 1), (28, .invokevirtual 109, 3), (31, .iastore, 1), (32, .iinc 2 1, 3), (35, .goto (-24), 3), (38, .iconst 0, 1), (39, .istore_n 2, 1), (40, .iload_n 2, 1), (41, .aload_n 0, 1), (42, .getfield 9, 3), (45, .iconst 2, 1), (46, .iaload, 1), (47, .if_icmp .ge 25, 3), (50, .iload_n 1, 1), (51, .aload_n 0, 1), (52, .iload_n 2, 1), (53, .invokevirtual 197, 3), (56, .ifCond .eq 7, 3), (59, .iconst 1, 1), (60, .goto 4, 3), (63, .iconst 0, 1), (64, .iadd, 1), (65, .istore_n 1, 1), (66, .iinc 2 1, 3), (69, .goto (-29), 3), (72, .aload_n 0, 1), (73, .getfield 9, 3), (76, .iconst 5, 1), (77, .dup2, 1), (78, .iaload, 1), (79, .iconst 1, 1), (80, .isub, 1), (81, .iastore, 1), (82, .aload_n 0, 1), (83, .getfield 9, 3), (86, .bipush 6, 2), (88, .dup2, 1), (89, .iaload, 1), (90, .iconst 1, 1), (91, .isub, 1), (92, .iastore, 1), (93, .aload_n 0, 1), (94, .getfield 9, 3), (97, .iconst 4, 1), (98, .aload_n 0, 1), (99, .getfield 9, 3), (102, .iconst 4, 1), (103, .iaload, 1), (104, .iload_n 1, 1), (105, .iadd, 1), (106, .iconst 0, 1), (107, .ldc 200, 2), (109, .invokestatic 194, 3), (112, .iastore, 1), (113, .aload_n 0, 1), (114, .getfield 9, 3), (117, .iconst 0, 1), (118, .dup2, 1), (119, .iaload, 1), (120, .iconst 1, 1), (121, .iadd, 1), (122, .iastore, 1), (123, .iload_n 1, 1), (124, .ireturn, 1)]
theorem hd_Mo_goes : dall cX7_goes il_Mo_goes = true := by decide +kernel
def il_Mo_beats : List (Nat × Instr × Nat) := [(0, .iload_n 1, 1), (1, .iconst 1, 1), (2, .bipush 99, 2), (4, .invokestatic 54, 3), (7, .ifCond .ne 10, 3), (10, .aload_n 0, 1), (11, .ldc 97, 2), (13, .invokevirtual 98, 3), (16, .ireturn, 1), (17, .aload_n 0, 1), (18, .getfield 9, 3), (21, .iconst 0, 1), (22, .iaload, 1), (23, .iload_n 1, 1), (24, .iadd, 1), (25, .ldc 200, 2), (27, .if_icmp .le 10, 3), (30, .aload_n 0, 1), (31, .ldc 120, 2), (33, .invokevirtual 98, 3), (36, .ireturn, 1), (37, .iconst 0, 1), (38, .istore_n 2, 1), (39, .iconst 0, 1), (40, .istore_n 3, 1), (41, .iload_n 3, 1), (42, .iload_n 1, 1), (43, .if_icmp .ge 16, 3), (46, .iload_n 2, 1), (47, .aload_n 0, 1), (48, .invokevirtual 201, 3), (51, .iadd, 1), (52, .istore_n 2, 1), (53, .iinc 3 1, 3), (56, .goto (-15), 3), (59, .iload_n 2, 1), (60, .ireturn, 1)]
theorem hd_Mo_beats : dall cX7_beats il_Mo_beats = true := by decide +kernel
def il_Mo_draw : List (Nat × Instr × Nat) := [(0, .aload_n 0, 1), (1, .getfield 9, 3), (4, .iconst 1, 1), (5, .aload_n 0, 1), (6, .getfield 9, 3), (9, .iconst 1, 1), (10, .iaload, 1), (11, .ldc 204, 2), (13, .imul, 1), (14, .sipush 12345, 3), (17, .iadd, 1), (18, .iastore, 1), (19, .aload_n 0, 1), (20, .getfield 9, 3), (23, .iconst 1, 1), (24, .iaload, 1), (25, .bipush 8, 2), (27, .iushr, 1), (28, .ireturn, 1)]
theorem hd_Mo_draw : dall cX7_draw il_Mo_draw = true := by decide +kernel
def il_Mo_drawn : List (Nat × Instr × Nat) := [(0, .iconst 0, 1), (1, .istore_n 1, 1), (2, .aload_n 0, 1), (3, .getfield 9, 3), (6, .iconst 2, 1), (7, .iaload, 1), (8, .ifCond .le 68, 3), (11, .aload_n 0, 1), (12, .invokevirtual 205, 3), (15, .aload_n 0, 1), (16, .getfield 9, 3), (19, .iconst 2, 1), (20, .iaload, 1), (21, .irem, 1), (22, .istore_n 2, 1), (23, .aload_n 0, 1), (24, .invokevirtual 205, 3), (27, .bipush 64, 2), (29, .irem, 1), (30, .istore_n 3, 1), (31, .aload_n 0, 1), (32, .iload_n 2, 1), (33, .iconst 4, 1), (34, .aload_n 0, 1), (35, .invokevirtual 116, 3), (38, .ifCond .eq 7, 3), (41, .iconst 1, 1), (42, .goto 9, 3), (45, .aload_n 0, 1), (46, .iload_n 2, 1), (47, .iconst 4, 1), (48, .invokevirtual 58, 3), (51, .invokevirtual 102, 3), (54, .aload_n 0, 1), (55, .iload_n 2, 1), (56, .invokevirtual 127, 3), (59, .ifCond .eq 15, 3), (62, .aload_n 0, 1), (63, .iload_n 3, 1), (64, .invokevirtual 130, 3), (67, .ifCond .eq 7, 3), (70, .iconst 1, 1), (71, .goto 4, 3), (74, .iconst 0, 1), (75, .istore_n 1, 1), (76, .aload_n 0, 1), (77, .invokevirtual 201, 3), (80, .istore_n 2, 1), (81, .iload_n 1, 1), (82, .ireturn, 1)]
theorem hd_Mo_drawn : dall cX7_drawn il_Mo_drawn = true := by decide +kernel
def il_Mo_loose : List (Nat × Instr × Nat) := [(0, .iload_n 1, 1), (1, .iconst 1, 1), (2, .bipush 30, 2), (4, .invokestatic 54, 3), (7, .ifCond .ne 10, 3), (10, .aload_n 0, 1), (11, .ldc 97, 2), (13, .invokevirtual 98, 3), (16, .ireturn, 1), (17, .aload_n 0, 1), (18, .getfield 9, 3), (21, .iconst 0, 1), (22, .iaload, 1), (23, .iload_n 1, 1), (24, .iadd, 1), (25, .ldc 200, 2), (27, .if_icmp .le 10, 3), (30, .aload_n 0, 1), (31, .ldc 120, 2), (33, .invokevirtual 98, 3), (36, .ireturn, 1), (37, .iconst 0, 1), (38, .istore_n 2, 1), (39, .iconst 0, 1), (40, .istore_n 3, 1), (41, .iload_n 3, 1), (42, .iload_n 1, 1), (43, .if_icmp .ge 24, 3), (46, .iload_n 2, 1), (47, .aload_n 0, 1), (48, .invokevirtual 208, 3), (51, .ifCond .eq 7, 3), (54, .iconst 1, 1), (55, .goto 4, 3), (58, .iconst 0, 1), (59, .iadd, 1), (60, .istore_n 2, 1), (61, .iinc 3 1, 3), (64, .goto (-23), 3), (67, .iload_n 2, 1), (68, .ireturn, 1)]
theorem hd_Mo_loose : dall cX7_loose il_Mo_loose = true := by decide +kernel
def il_Mo_seed : List (Nat × Instr × Nat) := [(0, .aload_n 0, 1), (1, .iconst 1, 1), (2, .iload_n 1, 1), (3, .invokevirtual 112, 3), (6, .ireturn, 1)]
theorem hd_Mo_seed : dall cX7_seed il_Mo_seed = true := by decide +kernel
def il_Mo_goesFor : List (Nat × Instr × Nat) := [(0, .iconst 0, 1), (1, .istore_n 2, 1), (2, .iconst 0, 1), (3, .istore_n 3, 1), (4, .iload_n 3, 1), (5, .iload_n 1, 1), (6, .if_icmp .ge 16, 3), (9, .iload_n 2, 1), (10, .aload_n 0, 1), (11, .invokevirtual 201, 3), (14, .iadd, 1), (15, .istore_n 2, 1), (16, .iinc 3 1, 3), (19, .goto (-15), 3), (22, .return_, 1)]
theorem hd_Mo_goesFor : dall cX7_goesFor il_Mo_goesFor = true := by decide +kernel
def il_Mo_then : List (Nat × Instr × Nat) := [(0, .aload_n 0, 1), (1, .iload_n 1, 1), (2, .invokevirtual 106, 3), (5, .ifCond .eq 22, 3), (8, .iload_n 2, 1), (9, .iconst 0, 1), (10, .bipush 99, 2), (12, .invokestatic 54, 3), (15, .ifCond .eq 12, 3), (18, .iload_n 3, 1), (19, .iconst 0, 1), (20, .iconst 1, 1), (21, .invokestatic 54, 3), (24, .ifCond .ne 10, 3), (27, .aload_n 0, 1), (28, .ldc 97, 2), (30, .invokevirtual 98, 3), (33, .ireturn, 1), (34, .aload_n 0, 1), (35, .invokevirtual 211, 3), (38, .aload_n 0, 1), (39, .iload_n 2, 1), (40, .invokevirtual 214, 3), (43, .aload_n 0, 1), (44, .iload_n 1, 1), (45, .iload_n 3, 1), (46, .ifCond .ne 7, 3), (49, .iconst 2, 1), (50, .goto 4, 3), (53, .iconst 4, 1), (54, .invokevirtual 58, 3), (57, .istore 4, 2), (59, .aload_n 0, 1), (60, .invokevirtual 217, 3), (63, .iload 4, 2), (65, .ireturn, 1)]
theorem hd_Mo_then : dall cX7_then il_Mo_then = true := by decide +kernel
def il_Mo_lasts : List (Nat × Instr × Nat) := [(0, .aload_n 0, 1), (1, .iload_n 1, 1), (2, .invokevirtual 106, 3), (5, .ifCond .ne 10, 3), (8, .aload_n 0, 1), (9, .ldc 97, 2), (11, .invokevirtual 98, 3), (14, .ireturn, 1), (15, .aload_n 0, 1), (16, .iload_n 1, 1), (17, .invokevirtual 62, 3), (20, .ifCond .ne 10, 3), (23, .aload_n 0, 1), (24, .ldc 120, 2), (26, .invokevirtual 98, 3), (29, .ireturn, 1), (30, .aload_n 0, 1), (31, .invokevirtual 211, 3), (34, .iconst 0, 1), (35, .istore_n 2, 1), (36, .iload_n 2, 1), (37, .bipush 99, 2), (39, .if_icmp .gt 22, 3), (42, .aload_n 0, 1), (43, .iload_n 1, 1), (44, .invokevirtual 62, 3), (47, .ifCond .eq 14, 3), (50, .aload_n 0, 1), (51, .iconst 1, 1), (52, .invokevirtual 214, 3), (55, .iinc 2 1, 3), (58, .goto (-22), 3), (61, .aload_n 0, 1), (62, .invokevirtual 217, 3), (65, .iload_n 2, 1), (66, .bipush 99, 2), (68, .if_icmp .le 12, 3), (71, .aload_n 0, 1), (72, .ldc 220, 2), (74, .invokevirtual 98, 3), (77, .goto 4, 3), (80, .iload_n 2, 1), (81, .ireturn, 1)]
theorem hd_Mo_lasts : dall cX7_lasts il_Mo_lasts = true := by decide +kernel
def il_Mo_agree : List (Nat × Instr × Nat) := [(0, .iload_n 1, 1), (1, .iconst 0, 1), (2, .iconst 1, 1), (3, .invokestatic 54, 3), (6, .ifCond .ne 10, 3), (9, .aload_n 0, 1), (10, .ldc 97, 2), (12, .invokevirtual 98, 3), (15, .ireturn, 1), (16, .iconst 0, 1), (17, .istore_n 2, 1), (18, .iconst (-1), 1), (19, .istore_n 3, 1), (20, .bipush 63, 2), (22, .istore 4, 2), (24, .iload 4, 2), (26, .ifCond .lt 42, 3), (29, .aload_n 0, 1), (30, .iload 4, 2), (32, .invokevirtual 124, 3), (35, .istore 5, 2), (37, .iload_n 2, 1), (38, .iload 5, 2), (40, .ifCond .eq 7, 3), (43, .iconst 1, 1), (44, .goto 4, 3), (47, .iconst 0, 1), (48, .iadd, 1), (49, .istore_n 2, 1), (50, .iload 5, 2), (52, .ifCond .eq 8, 3), (55, .iload 4, 2), (57, .goto 4, 3), (60, .iload_n 3, 1), (61, .istore_n 3, 1), (62, .iinc 4 (-1), 3), (65, .goto (-41), 3), (68, .iload_n 1, 1), (69, .ifCond .ne 7, 3), (72, .iload_n 2, 1), (73, .goto 17, 3), (76, .iload_n 3, 1), (77, .ifCond .ge 12, 3), (80, .aload_n 0, 1), (81, .ldc 220, 2), (83, .invokevirtual 98, 3), (86, .goto 4, 3), (89, .iload_n 3, 1), (90, .ireturn, 1)]
theorem hd_Mo_agree : dall cX7_agree il_Mo_agree = true := by decide +kernel
def il_Mo_leastLiking : List (Nat × Instr × Nat) := [(0, .bipush 99, 2), (2, .istore_n 2, 1), (3, .iconst 0, 1), (4, .istore_n 3, 1), (5, .iload_n 3, 1), (6, .aload_n 0, 1), (7, .getfield 9, 3), (10, .iconst 2, 1), (11, .iaload, 1), (12, .if_icmp .ge 43, 3), (15, .aload_n 0, 1), (16, .iload_n 3, 1), (17, .invokevirtual 62, 3), (20, .ifCond .eq 12, 3), (23, .aload_n 0, 1), (24, .iload_n 3, 1), (25, .iload_n 1, 1), (26, .invokevirtual 87, 3), (29, .goto 5, 3), (32, .bipush 99, 2), (34, .istore 4, 2), (36, .iload 4, 2), (38, .iload_n 2, 1), (39, .if_icmp .ge 8, 3), (42, .iload 4, 2), (44, .goto 4, 3), (47, .iload_n 2, 1), (48, .istore_n 2, 1), (49, .iinc 3 1, 3), (52, .goto (-47), 3), (55, .iload_n 2, 1), (56, .ireturn, 1)]
theorem hd_Mo_leastLiking : dall cX7_leastLiking il_Mo_leastLiking = true := by decide +kernel
def il_Mo_fairest : List (Nat × Instr × Nat) := [(0, .iload_n 1, 1), (1, .iconst 0, 1), (2, .iconst 1, 1), (3, .invokestatic 54, 3), (6, .ifCond .ne 10, 3), (9, .aload_n 0, 1), (10, .ldc 97, 2), (12, .invokevirtual 98, 3), (15, .ireturn, 1), (16, .aload_n 0, 1), (17, .invokevirtual 70, 3), (20, .ifCond .ne 10, 3), (23, .aload_n 0, 1), (24, .ldc 120, 2), (26, .invokevirtual 98, 3), (29, .ireturn, 1), (30, .iconst 0, 1), (31, .istore_n 2, 1), (32, .iconst (-1), 1), (33, .istore_n 3, 1), (34, .iconst 0, 1), (35, .istore 4, 2), (37, .iload 4, 2), (39, .bipush 64, 2), (41, .if_icmp .ge 43, 3), (44, .aload_n 0, 1), (45, .iload 4, 2), (47, .invokevirtual 221, 3), (50, .istore 5, 2), (52, .iload 5, 2), (54, .iload_n 3, 1), (55, .if_icmp .le 8, 3), (58, .iload 4, 2), (60, .goto 4, 3), (63, .iload_n 2, 1), (64, .istore_n 2, 1), (65, .iload 5, 2), (67, .iload_n 3, 1), (68, .if_icmp .le 8, 3), (71, .iload 5, 2), (73, .goto 4, 3), (76, .iload_n 3, 1), (77, .istore_n 3, 1), (78, .iinc 4 1, 3), (81, .goto (-44), 3), (84, .iload_n 1, 1), (85, .ifCond .ne 7, 3), (88, .iload_n 2, 1), (89, .goto 4, 3), (92, .iload_n 3, 1), (93, .ireturn, 1)]
theorem hd_Mo_fairest : dall cX7_fairest il_Mo_fairest = true := by decide +kernel
def il_Mo_whoAlone : List (Nat × Instr × Nat) := [(0, .iconst (-1), 1), (1, .istore_n 2, 1), (2, .iconst 0, 1), (3, .istore_n 3, 1), (4, .iconst 0, 1), (5, .istore 4, 2), (7, .iload 4, 2), (9, .aload_n 0, 1), (10, .getfield 9, 3), (13, .iconst 2, 1), (14, .iaload, 1), (15, .if_icmp .ge 60, 3), (18, .aload_n 0, 1), (19, .iload 4, 2), (21, .invokevirtual 62, 3), (24, .ifCond .eq 17, 3), (27, .aload_n 0, 1), (28, .iload 4, 2), (30, .iload_n 1, 1), (31, .invokevirtual 90, 3), (34, .ifCond .ne 7, 3), (37, .iconst 1, 1), (38, .goto 4, 3), (41, .iconst 0, 1), (42, .istore 5, 2), (44, .iload 5, 2), (46, .ifCond .eq 8, 3), (49, .iload 4, 2), (51, .goto 4, 3), (54, .iload_n 2, 1), (55, .istore_n 2, 1), (56, .iload_n 3, 1), (57, .iload 5, 2), (59, .ifCond .eq 7, 3), (62, .iconst 1, 1), (63, .goto 4, 3), (66, .iconst 0, 1), (67, .iadd, 1), (68, .istore_n 3, 1), (69, .iinc 4 1, 3), (72, .goto (-65), 3), (75, .iload_n 3, 1), (76, .iconst 1, 1), (77, .if_icmp .ne 7, 3), (80, .iload_n 2, 1), (81, .goto 4, 3), (84, .iconst (-1), 1), (85, .ireturn, 1)]
theorem hd_Mo_whoAlone : dall cX7_whoAlone il_Mo_whoAlone = true := by decide +kernel
def il_Mo_balksOf : List (Nat × Instr × Nat) := [(0, .iconst 0, 1), (1, .istore_n 2, 1), (2, .iconst 0, 1), (3, .istore_n 3, 1), (4, .iload_n 3, 1), (5, .bipush 64, 2), (7, .if_icmp .ge 26, 3), (10, .iload_n 2, 1), (11, .aload_n 0, 1), (12, .iload_n 3, 1), (13, .invokevirtual 224, 3), (16, .iload_n 1, 1), (17, .if_icmp .ne 7, 3), (20, .iconst 1, 1), (21, .goto 4, 3), (24, .iconst 0, 1), (25, .iadd, 1), (26, .istore_n 2, 1), (27, .iinc 3 1, 3), (30, .goto (-26), 3), (33, .iload_n 2, 1), (34, .ireturn, 1)]
theorem hd_Mo_balksOf : dall cX7_balksOf il_Mo_balksOf = true := by decide +kernel
def il_Mo_balks : List (Nat × Instr × Nat) := [(0, .iload_n 1, 1), (1, .iconst 0, 1), (2, .iconst 1, 1), (3, .invokestatic 54, 3), (6, .ifCond .ne 10, 3), (9, .aload_n 0, 1), (10, .ldc 97, 2), (12, .invokevirtual 98, 3), (15, .ireturn, 1), (16, .aload_n 0, 1), (17, .invokevirtual 70, 3), (20, .ifCond .ne 10, 3), (23, .aload_n 0, 1), (24, .ldc 120, 2), (26, .invokevirtual 98, 3), (29, .ireturn, 1), (30, .iconst (-1), 1), (31, .istore_n 2, 1), (32, .iconst (-1), 1), (33, .istore_n 3, 1), (34, .iconst 0, 1), (35, .istore 4, 2), (37, .iload 4, 2), (39, .aload_n 0, 1), (40, .getfield 9, 3), (43, .iconst 2, 1), (44, .iaload, 1), (45, .if_icmp .ge 56, 3), (48, .aload_n 0, 1), (49, .iload 4, 2), (51, .invokevirtual 62, 3), (54, .ifCond .eq 12, 3), (57, .aload_n 0, 1), (58, .iload 4, 2), (60, .invokevirtual 227, 3), (63, .goto 4, 3), (66, .iconst (-1), 1), (67, .istore 5, 2), (69, .iload 5, 2), (71, .iload_n 3, 1), (72, .if_icmp .le 8, 3), (75, .iload 4, 2), (77, .goto 4, 3), (80, .iload_n 2, 1), (81, .istore_n 2, 1), (82, .iload 5, 2), (84, .iload_n 3, 1), (85, .if_icmp .le 8, 3), (88, .iload 5, 2), (90, .goto 4, 3), (93, .iload_n 3, 1), (94, .istore_n 3, 1), (95, .iinc 4 1, 3), (98, .goto (-61), 3), (101, .iload_n 1, 1), (102, .ifCond .ne 7, 3), (105, .iload_n 2, 1), (106, .goto 4, 3), (109, .iload_n 3, 1), (110, .ireturn, 1)]
theorem hd_Mo_balks : dall cX7_balks il_Mo_balks = true := by decide +kernel
def il_Mo_soon : List (Nat × Instr × Nat) := [(0, .iload_n 1, 1), (1, .invokestatic 121, 3), (4, .ifCond .ne 10, 3), (7, .aload_n 0, 1), (8, .ldc 97, 2), (10, .invokevirtual 98, 3), (13, .ireturn, 1), (14, .aload_n 0, 1), (15, .invokevirtual 211, 3), (18, .iconst 0, 1), (19, .istore_n 2, 1), (20, .iload_n 2, 1), (21, .bipush 99, 2), (23, .if_icmp .gt 44, 3), (26, .aload_n 0, 1), (27, .invokevirtual 70, 3), (30, .ifCond .eq 26, 3), (33, .aload_n 0, 1), (34, .invokevirtual 116, 3), (37, .ifCond .eq 19, 3), (40, .aload_n 0, 1), (41, .invokevirtual 66, 3), (44, .iconst 3, 1), (45, .if_icmp .eq 11, 3), (48, .aload_n 0, 1), (49, .iload_n 1, 1), (50, .invokevirtual 124, 3), (53, .ifCond .ne 14, 3), (56, .aload_n 0, 1), (57, .iconst 1, 1), (58, .invokevirtual 214, 3), (61, .iinc 2 1, 3), (64, .goto (-44), 3), (67, .aload_n 0, 1), (68, .invokevirtual 217, 3), (71, .iload_n 2, 1), (72, .bipush 99, 2), (74, .if_icmp .le 12, 3), (77, .aload_n 0, 1), (78, .ldc 220, 2), (80, .invokevirtual 98, 3), (83, .goto 4, 3), (86, .iload_n 2, 1), (87, .ireturn, 1)]
theorem hd_Mo_soon : dall cX7_soon il_Mo_soon = true := by decide +kernel
def il_Mo_meets : List (Nat × Instr × Nat) := [(0, .iload_n 2, 1), (1, .iconst 1, 1), (2, .bipush 30, 2), (4, .invokestatic 54, 3), (7, .ifCond .eq 37, 3), (10, .iload 4, 2), (12, .iconst 1, 1), (13, .bipush 30, 2), (15, .invokestatic 54, 3), (18, .ifCond .eq 26, 3), (21, .iload_n 1, 1), (22, .iconst 0, 1), (23, .iload_n 2, 1), (24, .iconst 1, 1), (25, .isub, 1), (26, .invokestatic 54, 3), (29, .ifCond .eq 15, 3), (32, .iload_n 3, 1), (33, .iconst 0, 1), (34, .iload 4, 2), (36, .iconst 1, 1), (37, .isub, 1), (38, .invokestatic 54, 3), (41, .ifCond .ne 10, 3), (44, .aload_n 0, 1), (45, .ldc 97, 2), (47, .invokevirtual 98, 3), (50, .ireturn, 1), (51, .aload_n 0, 1), (52, .getfield 9, 3), (55, .iconst 0, 1), (56, .iaload, 1), (57, .istore 5, 2), (59, .iload 5, 2), (61, .aload_n 0, 1), (62, .getfield 9, 3), (65, .iconst 0, 1), (66, .iaload, 1), (67, .iload_n 2, 1), (68, .iload 4, 2), (70, .imul, 1), (71, .iadd, 1), (72, .if_icmp .ge 29, 3), (75, .iload 5, 2), (77, .iload_n 2, 1), (78, .irem, 1), (79, .iload_n 1, 1), (80, .if_icmp .ne 15, 3), (83, .iload 5, 2), (85, .iload 4, 2), (87, .irem, 1), (88, .iload_n 3, 1), (89, .if_icmp .ne 6, 3), (92, .iload 5, 2), (94, .ireturn, 1), (95, .iinc 5 1, 3), (98, .goto (-39), 3), (101, .aload_n 0, 1), (102, .ldc 220, 2), (104, .invokevirtual 98, 3), (107, .ireturn, 1)]
theorem hd_Mo_meets : dall cX7_meets il_Mo_meets = true := by decide +kernel
def il_Mo_odds : List (Nat × Instr × Nat) := [(0, .aload_n 0, 1), (1, .iload_n 1, 1), (2, .invokevirtual 106, 3), (5, .ifCond .eq 12, 3), (8, .iload_n 2, 1), (9, .iconst 0, 1), (10, .iconst 1, 1), (11, .invokestatic 54, 3), (14, .ifCond .ne 10, 3), (17, .aload_n 0, 1), (18, .ldc 97, 2), (20, .invokevirtual 98, 3), (23, .ireturn, 1), (24, .iconst 0, 1), (25, .istore_n 3, 1), (26, .bipush 64, 2), (28, .istore 4, 2), (30, .iconst 0, 1), (31, .istore 5, 2), (33, .iload 5, 2), (35, .bipush 64, 2), (37, .if_icmp .ge 27, 3), (40, .iload_n 3, 1), (41, .aload_n 0, 1), (42, .iload_n 1, 1), (43, .iload 5, 2), (45, .invokevirtual 90, 3), (48, .ifCond .eq 7, 3), (51, .iconst 1, 1), (52, .goto 4, 3), (55, .iconst 0, 1), (56, .iadd, 1), (57, .istore_n 3, 1), (58, .iinc 5 1, 3), (61, .goto (-28), 3), (64, .iload_n 3, 1), (65, .iconst 2, 1), (66, .irem, 1), (67, .ifCond .ne 22, 3), (70, .iload 4, 2), (72, .iconst 1, 1), (73, .if_icmp .le 16, 3), (76, .iload_n 3, 1), (77, .iconst 2, 1), (78, .idiv, 1), (79, .istore_n 3, 1), (80, .iload 4, 2), (82, .iconst 2, 1), (83, .idiv, 1), (84, .istore 4, 2), (86, .goto (-22), 3), (89, .iload_n 2, 1), (90, .ifCond .ne 7, 3), (93, .iload_n 3, 1), (94, .goto 5, 3), (97, .iload 4, 2), (99, .ireturn, 1)]
theorem hd_Mo_odds : dall cX7_odds il_Mo_odds = true := by decide +kernel
def il_Mo_isSo : List (Nat × Instr × Nat) := [(0, .iconst 1, 1), (1, .istore_n 2, 1), (2, .iconst 0, 1), (3, .istore_n 3, 1), (4, .iload_n 3, 1), (5, .aload_n 0, 1), (6, .getfield 25, 3), (9, .iload_n 1, 1), (10, .iaload, 1), (11, .if_icmp .ge 39, 3), (14, .iload_n 2, 1), (15, .ifCond .eq 35, 3), (18, .aload_n 0, 1), (19, .getfield 28, 3), (22, .bipush 24, 2), (24, .iload_n 1, 1), (25, .imul, 1), (26, .iload_n 3, 1), (27, .iadd, 1), (28, .iaload, 1), (29, .aload_n 0, 1), (30, .iload_n 3, 1), (31, .iconst 2, 1), (32, .invokevirtual 58, 3), (35, .if_icmp .ne 7, 3), (38, .iconst 1, 1), (39, .goto 4, 3), (42, .iconst 0, 1), (43, .istore_n 2, 1), (44, .iinc 3 1, 3), (47, .goto (-43), 3), (50, .iload_n 2, 1), (51, .ireturn, 1)]
theorem hd_Mo_isSo : dall cX7_isSo il_Mo_isSo = true := by decide +kernel
def il_Mo_fits : List (Nat × Instr × Nat) := [(0, .aload_n 0, 1), (1, .iload_n 1, 1), (2, .invokevirtual 230, 3), (5, .istore_n 2, 1), (6, .iload_n 2, 1), (7, .ifCond .eq 9, 3), (10, .aload_n 0, 1), (11, .iload_n 2, 1), (12, .invokevirtual 98, 3), (15, .ireturn, 1), (16, .aload_n 0, 1), (17, .getfield 25, 3), (20, .iload_n 1, 1), (21, .iaload, 1), (22, .aload_n 0, 1), (23, .getfield 9, 3), (26, .iconst 2, 1), (27, .iaload, 1), (28, .if_icmp .le 10, 3), (31, .aload_n 0, 1), (32, .ldc 220, 2), (34, .invokevirtual 98, 3), (37, .ireturn, 1), (38, .aload_n 0, 1), (39, .invokevirtual 211, 3), (42, .iconst 0, 1), (43, .istore_n 3, 1), (44, .iload_n 3, 1), (45, .bipush 99, 2), (47, .if_icmp .gt 22, 3), (50, .aload_n 0, 1), (51, .iload_n 1, 1), (52, .invokevirtual 233, 3), (55, .ifCond .ne 14, 3), (58, .aload_n 0, 1), (59, .iconst 1, 1), (60, .invokevirtual 214, 3), (63, .iinc 3 1, 3), (66, .goto (-22), 3), (69, .aload_n 0, 1), (70, .invokevirtual 217, 3), (73, .iload_n 3, 1), (74, .bipush 99, 2), (76, .if_icmp .le 12, 3), (79, .aload_n 0, 1), (80, .ldc 220, 2), (82, .invokevirtual 98, 3), (85, .goto 4, 3), (88, .iload_n 3, 1), (89, .ireturn, 1)]
theorem hd_Mo_fits : dall cX7_fits il_Mo_fits = true := by decide +kernel
def il_Mo_begins : List (Nat × Instr × Nat) := [(0, .aload_n 0, 1), (1, .getfield 236, 3), (4, .bipush 30, 2), (6, .if_icmp .ge 23, 3), (9, .aload_n 0, 1), (10, .getfield 46, 3), (13, .aload_n 0, 1), (14, .getfield 236, 3), (17, .iload_n 1, 1), (18, .iastore, 1), (19, .aload_n 0, 1), (20, .dup, 1), (21, .getfield 236, 3), (24, .iconst 1, 1), (25, .iadd, 1), (26, .putfield 236, 3), (29, .return_, 1)]
theorem hd_Mo_begins : dall cX7_begins il_Mo_begins = true := by decide +kernel
def il_Mo_plainSings : List (Nat × Instr × Nat) := [(0, .aload_n 0, 1), (1, .bipush 10, 2), (3, .invokevirtual 239, 3), (6, .iload_n 2, 1), (7, .iload_n 1, 1), (8, .iadd, 1), (9, .ireturn, 1)]
theorem hd_Mo_plainSings : dall cX7_plainSings il_Mo_plainSings = true := by decide +kernel
def il_Mo_masterSings : List (Nat × Instr × Nat) := [(0, .aload_n 0, 1), (1, .bipush 20, 2), (3, .invokevirtual 239, 3), (6, .aload_n 0, 1), (7, .iload_n 1, 1), (8, .iload_n 2, 1), (9, .invokevirtual 242, 3), (12, .iconst 4, 1), (13, .isub, 1), (14, .ireturn, 1)]
theorem hd_Mo_masterSings : dall cX7_masterSings il_Mo_masterSings = true := by decide +kernel
def il_Mo_sings : List (Nat × Instr × Nat) := [(0, .aload_n 0, 1), (1, .iload_n 1, 1), (2, .iconst 0, 1), (3, .invokevirtual 58, 3), (6, .lookupswitch 65 #[(1, 34), (4, 41), (6, 56)], 34), (40, .aload_n 0, 1), (41, .iload_n 1, 1), (42, .iload_n 2, 1), (43, .invokevirtual 245, 3), (46, .ireturn, 1), (47, .aload_n 0, 1), (48, .bipush 50, 2), (50, .invokevirtual 239, 3), (53, .aload_n 0, 1), (54, .iload_n 1, 1), (55, .iload_n 2, 1), (56, .invokevirtual 245, 3), (59, .iconst 3, 1), (60, .imul, 1), (61, .ireturn, 1), (62, .aload_n 0, 1), (63, .bipush 70, 2), (65, .invokevirtual 239, 3), (68, .bipush 9, 2), (70, .ireturn, 1), (71, .aload_n 0, 1), (72, .iload_n 1, 1), (73, .iload_n 2, 1), (74, .invokevirtual 242, 3), (77, .ireturn, 1)]
theorem hd_Mo_sings : dall cX7_sings il_Mo_sings = true := by decide +kernel
def il_Mo_plainJumps : List (Nat × Instr × Nat) := [(0, .aload_n 0, 1), (1, .bipush 11, 2), (3, .invokevirtual 239, 3), (6, .aload_n 0, 1), (7, .iload_n 1, 1), (8, .iload_n 2, 1), (9, .invokevirtual 248, 3), (12, .iconst 2, 1), (13, .imul, 1), (14, .ireturn, 1)]
theorem hd_Mo_plainJumps : dall cX7_plainJumps il_Mo_plainJumps = true := by decide +kernel
def il_Mo_conJumps : List (Nat × Instr × Nat) := [(0, .aload_n 0, 1), (1, .bipush 30, 2), (3, .invokevirtual 239, 3), (6, .aload_n 0, 1), (7, .iload_n 1, 1), (8, .iload_n 2, 1), (9, .invokevirtual 251, 3), (12, .ineg, 1), (13, .ireturn, 1)]
theorem hd_Mo_conJumps : dall cX7_conJumps il_Mo_conJumps = true := by decide +kernel
def il_Mo_jumps : List (Nat × Instr × Nat) := [(0, .aload_n 0, 1), (1, .iload_n 1, 1), (2, .iconst 0, 1), (3, .invokevirtual 58, 3), (6, .tableswitch 76 2 6 #[34, 76, 76, 41, 56], 34), (40, .aload_n 0, 1), (41, .iload_n 1, 1), (42, .iload_n 2, 1), (43, .invokevirtual 254, 3), (46, .ireturn, 1), (47, .aload_n 0, 1), (48, .bipush 60, 2), (50, .invokevirtual 239, 3), (53, .aload_n 0, 1), (54, .iload_n 1, 1), (55, .iload_n 2, 1), (56, .iconst 1, 1), (57, .iadd, 1), (58, .invokevirtual 254, 3), (61, .ireturn, 1), (62, .aload_n 0, 1), (63, .bipush 71, 2), (65, .invokevirtual 239, 3), (68, .aload_n 0, 1), (69, .iload_n 1, 1), (70, .iload_n 2, 1), (71, .invokevirtual 251, 3), (74, .aload_n 0, 1), (75, .iload_n 1, 1), (76, .iconst 1, 1), (77, .invokevirtual 58, 3), (80, .iadd, 1), (81, .ireturn, 1), (82, .aload_n 0, 1), (83, .iload_n 1, 1), (84, .iload_n 2, 1), (85, .invokevirtual 251, 3), (88, .ireturn, 1)]
theorem hd_Mo_jumps : dall cX7_jumps il_Mo_jumps = true := by decide +kernel
def il_Mo_plainClaps : List (Nat × Instr × Nat) := [(0, .aload_n 0, 1), (1, .bipush 12, 2), (3, .invokevirtual 239, 3), (6, .aload_n 0, 1), (7, .iload_n 1, 1), (8, .iload_n 2, 1), (9, .invokevirtual 257, 3), (12, .aload_n 0, 1), (13, .iload_n 1, 1), (14, .iconst 1, 1), (15, .invokevirtual 58, 3), (18, .isub, 1), (19, .ireturn, 1)]
theorem hd_Mo_plainClaps : dall cX7_plainClaps il_Mo_plainClaps = true := by decide +kernel
def il_Mo_claps : List (Nat × Instr × Nat) := [(0, .aload_n 0, 1), (1, .iload_n 1, 1), (2, .iconst 0, 1), (3, .invokevirtual 58, 3), (6, .lookupswitch 56 #[(3, 26), (4, 41)], 26), (32, .aload_n 0, 1), (33, .bipush 40, 2), (35, .invokevirtual 239, 3), (38, .aload_n 0, 1), (39, .iload_n 1, 1), (40, .iload_n 2, 1), (41, .iconst 2, 1), (42, .idiv, 1), (43, .invokevirtual 260, 3), (46, .ireturn, 1), (47, .aload_n 0, 1), (48, .bipush 51, 2), (50, .invokevirtual 239, 3), (53, .aload_n 0, 1), (54, .iload_n 1, 1), (55, .iload_n 2, 1), (56, .invokevirtual 260, 3), (59, .iload_n 1, 1), (60, .ixor, 1), (61, .ireturn, 1), (62, .aload_n 0, 1), (63, .iload_n 1, 1), (64, .iload_n 2, 1), (65, .invokevirtual 260, 3), (68, .ireturn, 1)]
theorem hd_Mo_claps : dall cX7_claps il_Mo_claps = true := by decide +kernel
def il_Mo_plainParts : List (Nat × Instr × Nat) := [(0, .aload_n 0, 1), (1, .bipush 13, 2), (3, .invokevirtual 239, 3), (6, .aload_n 0, 1), (7, .iload_n 1, 1), (8, .iconst 1, 1), (9, .invokevirtual 58, 3), (12, .iload_n 1, 1), (13, .isub, 1), (14, .istore_n 3, 1), (15, .aload_n 0, 1), (16, .iload_n 3, 1), (17, .ifCond .ne 7, 3), (20, .iconst 1, 1), (21, .goto 4, 3), (24, .iconst 0, 1), (25, .putfield 263, 3), (28, .aload_n 0, 1), (29, .getfield 263, 3), (32, .ifCond .eq 7, 3), (35, .iconst 0, 1), (36, .goto 6, 3), (39, .iload_n 2, 1), (40, .iload_n 3, 1), (41, .idiv, 1), (42, .ireturn, 1)]
theorem hd_Mo_plainParts : dall cX7_plainParts il_Mo_plainParts = true := by decide +kernel
def il_Mo_partsBy : List (Nat × Instr × Nat) := [(0, .aload_n 0, 1), (1, .iload_n 1, 1), (2, .iconst 0, 1), (3, .invokevirtual 58, 3), (6, .iconst 1, 1), (7, .if_icmp .eq 13, 3), (10, .aload_n 0, 1), (11, .iload_n 1, 1), (12, .iconst 0, 1), (13, .invokevirtual 58, 3), (16, .iconst 4, 1), (17, .if_icmp .ne 36, 3), (20, .aload_n 0, 1), (21, .bipush 21, 2), (23, .invokevirtual 239, 3), (26, .aload_n 0, 1), (27, .iload_n 1, 1), (28, .iload_n 2, 1), (29, .invokevirtual 266, 3), (32, .istore_n 3, 1), (33, .aload_n 0, 1), (34, .getfield 263, 3), (37, .ifCond .eq 7, 3), (40, .iconst 0, 1), (41, .goto 11, 3), (44, .iload_n 3, 1), (45, .aload_n 0, 1), (46, .iload_n 1, 1), (47, .iconst 1, 1), (48, .invokevirtual 257, 3), (51, .iadd, 1), (52, .ireturn, 1), (53, .aload_n 0, 1), (54, .iload_n 1, 1), (55, .iload_n 2, 1), (56, .invokevirtual 266, 3), (59, .ireturn, 1)]
theorem hd_Mo_partsBy : dall cX7_partsBy il_Mo_partsBy = true := by decide +kernel
def il_Mo_voice : List (Nat × Instr × Nat) := [(0, .aload_n 0, 1), (1, .iload_n 1, 1), (2, .invokevirtual 106, 3), (5, .ifCond .eq 12, 3), (8, .iload_n 2, 1), (9, .iconst 0, 1), (10, .iconst 3, 1), (11, .invokestatic 54, 3), (14, .ifCond .ne 10, 3), (17, .aload_n 0, 1), (18, .ldc 97, 2), (20, .invokevirtual 98, 3), (23, .ireturn, 1), (24, .aload_n 0, 1), (25, .iconst 0, 1), (26, .putfield 236, 3), (29, .aload_n 0, 1), (30, .iconst 0, 1), (31, .putfield 263, 3), (34, .iload_n 2, 1), (35, .ifCond .ne 12, 3), (38, .aload_n 0, 1), (39, .iload_n 1, 1), (40, .iload_n 3, 1), (41, .invokevirtual 248, 3), (44, .goto 37, 3), (47, .iload_n 2, 1), (48, .iconst 1, 1), (49, .if_icmp .ne 12, 3), (52, .aload_n 0, 1), (53, .iload_n 1, 1), (54, .iload_n 3, 1), (55, .invokevirtual 257, 3), (58, .goto 23, 3), (61, .iload_n 2, 1), (62, .iconst 2, 1), (63, .if_icmp .ne 12, 3), (66, .aload_n 0, 1), (67, .iload_n 1, 1), (68, .iload_n 3, 1), (69, .invokevirtual 269, 3), (72, .goto 9, 3), (75, .aload_n 0, 1), (76, .iload_n 1, 1), (77, .iload_n 3, 1), (78, .invokevirtual 272, 3), (81, .istore 4, 2), (83, .aload_n 0, 1), (84, .getfield 263, 3), (87, .ifCond .eq 13, 3), (90, .aload_n 0, 1), (91, .ldc_w 275, 3), (94, .invokevirtual 98, 3), (97, .goto 5, 3), (100, .iload 4, 2), (102, .ireturn, 1)]
theorem hd_Mo_voice : dall cX7_voice il_Mo_voice = true := by decide +kernel
def il_Mo_body : List (Nat × Instr × Nat) := [(0, .iload_n 1, 1), (1, .iconst 0, 1), (2, .aload_n 0, 1), (3, .getfield 236, 3), (6, .iconst 1, 1), (7, .isub, 1), (8, .invokestatic 54, 3), (11, .ifCond .eq 12, 3), (14, .aload_n 0, 1), (15, .getfield 46, 3), (18, .iload_n 1, 1), (19, .iaload, 1), (20, .goto 9, 3), (23, .aload_n 0, 1), (24, .ldc 220, 2), (26, .invokevirtual 98, 3), (29, .ireturn, 1)]
theorem hd_Mo_body : dall cX7_body il_Mo_body = true := by decide +kernel
def il_Mo_isSheet : List (Nat × Instr × Nat) := [(0, .iload_n 0, 1), (1, .iconst 0, 1), (2, .iconst 3, 1), (3, .invokestatic 54, 3), (6, .ireturn, 1)]
theorem hd_Mo_isSheet : dall cX7_isSheet il_Mo_isSheet = true := by decide +kernel
def il_Mo_sheet : List (Nat × Instr × Nat) := [(0, .iload_n 1, 1), (1, .invokestatic 276, 3), (4, .ifCond .eq 25, 3), (7, .iload_n 2, 1), (8, .ifCond .eq 28, 3), (11, .iload_n 2, 1), (12, .bipush 8, 2), (14, .if_icmp .eq 22, 3), (17, .iload_n 2, 1), (18, .bipush 16, 2), (20, .if_icmp .eq 16, 3), (23, .iload_n 2, 1), (24, .bipush 32, 2), (26, .if_icmp .eq 10, 3), (29, .aload_n 0, 1), (30, .ldc 97, 2), (32, .invokevirtual 98, 3), (35, .ireturn, 1), (36, .iload_n 2, 1), (37, .ifCond .le 14, 3), (40, .iload_n 3, 1), (41, .ifCond .ge 10, 3), (44, .aload_n 0, 1), (45, .ldc 120, 2), (47, .invokevirtual 98, 3), (50, .ireturn, 1), (51, .iload_n 2, 1), (52, .ifCond .le 16, 3), (55, .iload_n 3, 1), (56, .bipush 24, 2), (58, .if_icmp .le 10, 3), (61, .aload_n 0, 1), (62, .ldc 97, 2), (64, .invokevirtual 98, 3), (67, .ireturn, 1), (68, .aload_n 0, 1), (69, .getfield 22, 3), (72, .iload_n 1, 1), (73, .iload_n 2, 1), (74, .iastore, 1), (75, .aload_n 0, 1), (76, .getfield 25, 3), (79, .iload_n 1, 1), (80, .iload_n 2, 1), (81, .ifCond .ne 7, 3), (84, .iconst 0, 1), (85, .goto 4, 3), (88, .iload_n 3, 1), (89, .iastore, 1), (90, .iconst 0, 1), (91, .istore 4, 2), (93, .iload 4, 2), (95, .bipush 24, 2), (97, .if_icmp .ge 22, 3), (100, .aload_n 0, 1), (101, .getfield 28, 3), (104, .bipush 24, 2), (106, .iload_n 1, 1), (107, .imul, 1), (108, .iload 4, 2), (110, .iadd, 1), (111, .iconst 0, 1), (112, .iastore, 1), (113, .iinc 4 1, 3), (116, .goto (-23), 3), (119, .iconst 1, 1), (120, .ireturn, 1)]
theorem hd_Mo_sheet : dall cX7_sheet il_Mo_sheet = true := by decide +kernel
def il_Mo_notThere : List (Nat × Instr × Nat) := [(0, .iload_n 1, 1), (1, .invokestatic 276, 3), (4, .ifCond .ne 8, 3), (7, .ldc 97, 2), (9, .goto 18, 3), (12, .aload_n 0, 1), (13, .getfield 22, 3), (16, .iload_n 1, 1), (17, .iaload, 1), (18, .ifCond .ne 8, 3), (21, .ldc 220, 2), (23, .goto 4, 3), (26, .iconst 0, 1), (27, .ireturn, 1)]
theorem hd_Mo_notThere : dall cX7_notThere il_Mo_notThere = true := by decide +kernel
def il_Mo_put : List (Nat × Instr × Nat) := [(0, .aload_n 0, 1), (1, .iload_n 1, 1), (2, .invokevirtual 230, 3), (5, .istore 4, 2), (7, .iload 4, 2), (9, .ifCond .ne 24, 3), (12, .iload_n 2, 1), (13, .iconst 0, 1), (14, .aload_n 0, 1), (15, .getfield 25, 3), (18, .iload_n 1, 1), (19, .iaload, 1), (20, .iconst 1, 1), (21, .isub, 1), (22, .invokestatic 54, 3), (25, .ifCond .ne 8, 3), (28, .ldc 97, 2), (30, .goto 5, 3), (33, .iload 4, 2), (35, .istore 4, 2), (37, .iload 4, 2), (39, .ifCond .eq 10, 3), (42, .aload_n 0, 1), (43, .iload 4, 2), (45, .invokevirtual 98, 3), (48, .ireturn, 1), (49, .aload_n 0, 1), (50, .getfield 28, 3), (53, .bipush 24, 2), (55, .iload_n 1, 1), (56, .imul, 1), (57, .iload_n 2, 1), (58, .iadd, 1), (59, .aload_n 0, 1), (60, .getfield 22, 3), (63, .iload_n 1, 1), (64, .iaload, 1), (65, .bipush 8, 2), (67, .if_icmp .ne 8, 3), (70, .iload_n 3, 1), (71, .i2b, 1), (72, .goto 20, 3), (75, .aload_n 0, 1), (76, .getfield 22, 3), (79, .iload_n 1, 1), (80, .iaload, 1), (81, .bipush 16, 2), (83, .if_icmp .ne 8, 3), (86, .iload_n 3, 1), (87, .i2s, 1), (88, .goto 4, 3), (91, .iload_n 3, 1), (92, .iastore, 1), (93, .iconst 1, 1), (94, .ireturn, 1)]
theorem hd_Mo_put : dall cX7_put il_Mo_put = true := by decide +kernel
def il_Mo_notMoved : List (Nat × Instr × Nat) := [(0, .iload_n 1, 1), (1, .invokestatic 276, 3), (4, .ifCond .eq 10, 3), (7, .iload_n 3, 1), (8, .invokestatic 276, 3), (11, .ifCond .ne 6, 3), (14, .ldc 97, 2), (16, .ireturn, 1), (17, .aload_n 0, 1), (18, .getfield 22, 3), (21, .iload_n 1, 1), (22, .iaload, 1), (23, .ifCond .eq 12, 3), (26, .aload_n 0, 1), (27, .getfield 22, 3), (30, .iload_n 3, 1), (31, .iaload, 1), (32, .ifCond .ne 6, 3), (35, .ldc 220, 2), (37, .ireturn, 1), (38, .aload_n 0, 1), (39, .getfield 22, 3), (42, .iload_n 1, 1), (43, .iaload, 1), (44, .aload_n 0, 1), (45, .getfield 22, 3), (48, .iload_n 3, 1), (49, .iaload, 1), (50, .if_icmp .eq 6, 3), (53, .ldc 115, 2), (55, .ireturn, 1), (56, .iload 5, 2), (58, .ifCond .lt 43, 3), (61, .iload_n 2, 1), (62, .ifCond .lt 39, 3), (65, .iload 4, 2), (67, .ifCond .lt 34, 3), (70, .iload 5, 2), (72, .aload_n 0, 1), (73, .getfield 25, 3), (76, .iload_n 1, 1), (77, .iaload, 1), (78, .iload_n 2, 1), (79, .isub, 1), (80, .if_icmp .gt 21, 3), (83, .iload 5, 2), (85, .aload_n 0, 1), (86, .getfield 25, 3), (89, .iload_n 3, 1), (90, .iaload, 1), (91, .iload 4, 2), (93, .isub, 1), (94, .if_icmp .gt 7, 3), (97, .iconst 1, 1), (98, .goto 4, 3), (101, .iconst 0, 1), (102, .istore 6, 2), (104, .iload 6, 2), (106, .ifCond .eq 7, 3), (109, .iconst 0, 1), (110, .goto 5, 3), (113, .ldc 97, 2), (115, .ireturn, 1)]
theorem hd_Mo_notMoved : dall cX7_notMoved il_Mo_notMoved = true := by decide +kernel
def il_Mo_move : List (Nat × Instr × Nat) := [(0, .aload_n 0, 1), (1, .iload_n 1, 1), (2, .iload_n 2, 1), (3, .iload_n 3, 1), (4, .iload 4, 2), (6, .iload 5, 2), (8, .invokevirtual 279, 3), (11, .istore 6, 2), (13, .iload 6, 2), (15, .ifCond .eq 10, 3), (18, .aload_n 0, 1), (19, .iload 6, 2), (21, .invokevirtual 98, 3), (24, .ireturn, 1), (25, .iconst 0, 1), (26, .istore 7, 2), (28, .iload 7, 2), (30, .iload 5, 2), (32, .if_icmp .ge 58, 3), (35, .iload_n 2, 1), (36, .iload 4, 2), (38, .if_icmp .ge 13, 3), (41, .iload 5, 2), (43, .iconst 1, 1), (44, .isub, 1), (45, .iload 7, 2), (47, .isub, 1), (48, .goto 5, 3), (51, .iload 7, 2), (53, .istore 8, 2), (55, .aload_n 0, 1), (56, .getfield 28, 3), (59, .bipush 24, 2), (61, .iload_n 3, 1), (62, .imul, 1), (63, .iload 4, 2), (65, .iadd, 1), (66, .iload 8, 2), (68, .iadd, 1), (69, .aload_n 0, 1), (70, .getfield 28, 3), (73, .bipush 24, 2), (75, .iload_n 1, 1), (76, .imul, 1), (77, .iload_n 2, 1), (78, .iadd, 1), (79, .iload 8, 2), (81, .iadd, 1), (82, .iaload, 1), (83, .iastore, 1), (84, .iinc 7 1, 3), (87, .goto (-59), 3), (90, .iload 5, 2), (92, .ireturn, 1)]
theorem hd_Mo_move : dall cX7_move il_Mo_move = true := by decide +kernel
end
section
def il_Mo_breaths : List (Nat × Instr × Nat) := [(0, .aload_n 0, 1), (1, .iload_n 1, 1), (2, .invokevirtual 230, 3), (5, .istore_n 2, 1), (6, .iload_n 2, 1), (7, .ifCond .eq 9, 3), (10, .aload_n 0, 1), (11, .iload_n 2, 1), (12, .invokevirtual 98, 3), (15, .ireturn, 1), (16, .iconst 0, 1), (17, .istore_n 3, 1), (18, .iload_n 3, 1), (19, .aload_n 0, 1), (20, .getfield 25, 3), (23, .iload_n 1, 1), (24, .iaload, 1), (25, .if_icmp .ge 56, 3), (28, .iload_n 3, 1), (29, .aload_n 0, 1), (30, .getfield 9, 3), (33, .iconst 2, 1), (34, .iaload, 1), (35, .if_icmp .ge 46, 3), (38, .aload_n 0, 1), (39, .getfield 28, 3), (42, .bipush 24, 2), (44, .iload_n 1, 1), (45, .imul, 1), (46, .iload_n 3, 1), (47, .iadd, 1), (48, .iaload, 1), (49, .iconst 0, 1), (50, .bipush 99, 2), (52, .invokestatic 54, 3), (55, .ifCond .eq 26, 3), (58, .aload_n 0, 1), (59, .iload_n 3, 1), (60, .iconst 2, 1), (61, .aload_n 0, 1), (62, .getfield 28, 3), (65, .bipush 24, 2), (67, .iload_n 1, 1), (68, .imul, 1), (69, .iload_n 3, 1), (70, .iadd, 1), (71, .iaload, 1), (72, .invokevirtual 102, 3), (75, .iinc 3 1, 3), (78, .goto (-60), 3), (81, .iload_n 3, 1), (82, .ireturn, 1)]
theorem hd_Mo_breaths : dall cX7_breaths il_Mo_breaths = true := by decide +kernel
def il_Mo_judge : List (Nat × Instr × Nat) := [(0, .aload_n 0, 1), (1, .iload_n 1, 1), (2, .invokevirtual 230, 3), (5, .istore_n 2, 1), (6, .iload_n 2, 1), (7, .ifCond .eq 9, 3), (10, .aload_n 0, 1), (11, .iload_n 2, 1), (12, .invokevirtual 98, 3), (15, .ireturn, 1), (16, .iconst 0, 1), (17, .istore_n 3, 1), (18, .iload_n 3, 1), (19, .aload_n 0, 1), (20, .getfield 25, 3), (23, .iload_n 1, 1), (24, .iaload, 1), (25, .if_icmp .ge 38, 3), (28, .iload_n 3, 1), (29, .aload_n 0, 1), (30, .getfield 9, 3), (33, .iconst 2, 1), (34, .iaload, 1), (35, .if_icmp .ge 28, 3), (38, .aload_n 0, 1), (39, .getfield 28, 3), (42, .bipush 24, 2), (44, .iload_n 1, 1), (45, .imul, 1), (46, .iload_n 3, 1), (47, .iadd, 1), (48, .iaload, 1), (49, .aload_n 0, 1), (50, .iload_n 3, 1), (51, .invokevirtual 109, 3), (54, .if_icmp .ne 9, 3), (57, .iinc 3 1, 3), (60, .goto (-42), 3), (63, .iload_n 3, 1), (64, .ireturn, 1)]
theorem hd_Mo_judge : dall cX7_judge il_Mo_judge = true := by decide +kernel
def il_Mo_image : List (Nat × Instr × Nat) := [(0, .aload_n 0, 1), (1, .getfield 9, 3), (4, .aload_n 0, 1), (5, .getfield 13, 3), (8, .invokestatic 50, 3), (11, .aload_n 0, 1), (12, .dup, 1), (13, .getfield 283, 3), (16, .iconst 1, 1), (17, .iadd, 1), (18, .putfield 283, 3), (21, .aload_n 0, 1), (22, .getfield 283, 3), (25, .ireturn, 1)]
theorem hd_Mo_image : dall cX7_image il_Mo_image = true := by decide +kernel
def il_Mo_restore : List (Nat × Instr × Nat) := [(0, .aload_n 0, 1), (1, .getfield 283, 3), (4, .ifCond .ne 10, 3), (7, .aload_n 0, 1), (8, .ldc 220, 2), (10, .invokevirtual 98, 3), (13, .ireturn, 1), (14, .aload_n 0, 1), (15, .getfield 13, 3), (18, .aload_n 0, 1), (19, .getfield 9, 3), (22, .invokestatic 50, 3), (25, .aload_n 0, 1), (26, .getfield 9, 3), (29, .iconst 0, 1), (30, .iaload, 1), (31, .ireturn, 1)]
theorem hd_Mo_restore : dall cX7_restore il_Mo_restore = true := by decide +kernel
def il_Mo_tell : List (Nat × Instr × Nat) := [(0, .aload_n 0, 1), (1, .getfield 9, 3), (4, .bipush 9, 2), (6, .iaload, 1), (7, .bipush 24, 2), (9, .if_icmp .ne 10, 3), (12, .aload_n 0, 1), (13, .ldc 101, 2), (15, .invokevirtual 98, 3), (18, .ireturn, 1), (19, .aload_n 0, 1), (20, .getfield 9, 3), (23, .bipush 100, 2), (25, .aload_n 0, 1), (26, .getfield 9, 3), (29, .bipush 9, 2), (31, .iaload, 1), (32, .iadd, 1), (33, .iload_n 1, 1), (34, .iastore, 1), (35, .aload_n 0, 1), (36, .getfield 9, 3), (39, .bipush 9, 2), (41, .dup2, 1), (42, .iaload, 1), (43, .iconst 1, 1), (44, .iadd, 1), (45, .iastore, 1), (46, .aload_n 0, 1), (47, .getfield 9, 3), (50, .bipush 9, 2), (52, .iaload, 1), (53, .ireturn, 1)]
theorem hd_Mo_tell : dall cX7_tell il_Mo_tell = true := by decide +kernel
def il_Mo_check : List (Nat × Instr × Nat) := [(0, .aload_n 0, 1), (1, .getfield 9, 3), (4, .bipush 9, 2), (6, .iaload, 1), (7, .istore_n 1, 1), (8, .aload_n 0, 1), (9, .getfield 9, 3), (12, .bipush 9, 2), (14, .iconst 0, 1), (15, .iastore, 1), (16, .iconst 0, 1), (17, .istore_n 2, 1), (18, .iload_n 2, 1), (19, .iload_n 1, 1), (20, .if_icmp .ge 39, 3), (23, .aload_n 0, 1), (24, .iload_n 2, 1), (25, .invokevirtual 106, 3), (28, .ifCond .eq 21, 3), (31, .aload_n 0, 1), (32, .getfield 9, 3), (35, .bipush 100, 2), (37, .iload_n 2, 1), (38, .iadd, 1), (39, .iaload, 1), (40, .aload_n 0, 1), (41, .iload_n 2, 1), (42, .iconst 2, 1), (43, .invokevirtual 58, 3), (46, .if_icmp .eq 7, 3), (49, .iconst 1, 1), (50, .iload_n 2, 1), (51, .iadd, 1), (52, .ireturn, 1), (53, .iinc 2 1, 3), (56, .goto (-38), 3), (59, .iconst 0, 1), (60, .ireturn, 1)]
theorem hd_Mo_check : dall cX7_check il_Mo_check = true := by decide +kernel
def il_Mo_count : List (Nat × Instr × Nat) := [(0, .iload_n 1, 1), (1, .tableswitch 121 0 11 #[63, 70, 75, 82, 82, 82, 82, 82, 93, 101, 109, 114], 63), (64, .aload_n 0, 1), (65, .getfield 9, 3), (68, .iconst 2, 1), (69, .iaload, 1), (70, .ireturn, 1), (71, .aload_n 0, 1), (72, .invokevirtual 70, 3), (75, .ireturn, 1), (76, .aload_n 0, 1), (77, .getfield 9, 3), (80, .iconst 0, 1), (81, .iaload, 1), (82, .ireturn, 1), (83, .aload_n 0, 1), (84, .getfield 9, 3), (87, .iconst 3, 1), (88, .iload_n 1, 1), (89, .iadd, 1), (90, .iconst 3, 1), (91, .isub, 1), (92, .iaload, 1), (93, .ireturn, 1), (94, .aload_n 0, 1), (95, .getfield 9, 3), (98, .bipush 8, 2), (100, .iaload, 1), (101, .ireturn, 1), (102, .aload_n 0, 1), (103, .getfield 9, 3), (106, .bipush 9, 2), (108, .iaload, 1), (109, .ireturn, 1), (110, .aload_n 0, 1), (111, .getfield 236, 3), (114, .ireturn, 1), (115, .aload_n 0, 1), (116, .getfield 9, 3), (119, .iconst 1, 1), (120, .iaload, 1), (121, .ireturn, 1), (122, .aload_n 0, 1), (123, .ldc 97, 2), (125, .invokevirtual 98, 3), (128, .ireturn, 1)]
theorem hd_Mo_count : dall cX7_count il_Mo_count = true := by decide +kernel
def il_Mo_told : List (Nat × Instr × Nat) := [(0, .iload_n 1, 1), (1, .iconst 1, 1), (2, .bipush 6, 2), (4, .invokestatic 54, 3), (7, .ifCond .eq 12, 3), (10, .aload_n 0, 1), (11, .getfield 19, 3), (14, .iload_n 1, 1), (15, .iaload, 1), (16, .goto 9, 3), (19, .aload_n 0, 1), (20, .ldc 97, 2), (22, .invokevirtual 98, 3), (25, .ireturn, 1)]
theorem hd_Mo_told : dall cX7_told il_Mo_told = true := by decide +kernel
def il_In_bitCount : List (Nat × Instr × Nat) := [(0, .iload_n 0, 1), (1, .iload_n 0, 1), (2, .iconst 1, 1), (3, .iushr, 1), (4, .ldc_w 265, 3), (7, .iand, 1), (8, .isub, 1), (9, .istore_n 0, 1), (10, .iload_n 0, 1), (11, .ldc_w 266, 3), (14, .iand, 1), (15, .iload_n 0, 1), (16, .iconst 2, 1), (17, .iushr, 1), (18, .ldc_w 266, 3), (21, .iand, 1), (22, .iadd, 1), (23, .istore_n 0, 1), (24, .iload_n 0, 1), (25, .iload_n 0, 1), (26, .iconst 4, 1), (27, .iushr, 1), (28, .iadd, 1), (29, .ldc_w 267, 3), (32, .iand, 1), (33, .istore_n 0, 1), (34, .iload_n 0, 1), (35, .iload_n 0, 1), (36, .bipush 8, 2), (38, .iushr, 1), (39, .iadd, 1), (40, .istore_n 0, 1), (41, .iload_n 0, 1), (42, .iload_n 0, 1), (43, .bipush 16, 2), (45, .iushr, 1), (46, .iadd, 1), (47, .istore_n 0, 1), (48, .iload_n 0, 1), (49, .bipush 63, 2), (51, .iand, 1), (52, .ireturn, 1)]
theorem hd_In_bitCount : dall cXI_bitCount il_In_bitCount = true := by decide +kernel
end
section
def In_bitCount (p1 : Int32) (σ : St) : Option (Int32 × St) :=
  nam (p1 - ((iush p1 (1 : Int32)) &&& (1431655765 : Int32))) (fun y1 =>
  nam ((y1 &&& (858993459 : Int32)) + ((iush y1 (2 : Int32)) &&& (858993459 : Int32))) (fun y2 =>
  nam ((y2 + (iush y2 (4 : Int32))) &&& (252645135 : Int32)) (fun y3 =>
  nam (y3 + (iush y3 (8 : Int32))) (fun y4 =>
  nam (y4 + (iush y4 (16 : Int32))) (fun y5 =>
  some ((y5 &&& (63 : Int32)), σ))))))
set_option maxRecDepth 100000 in
theorem sp_In_bitCount (l : Launch) (p1 : Int32) (σ : St) : Spc l shC 2 md_In_bitCount [.int p1] σ (In_bitCount p1 σ) := by
  refine Spc_of_Ux [(0, .int p1)] (by decide) rfl (Nat.le_of_ble_eq_true rfl) ?_
  unfold In_bitCount
  refine ux_iload_n (dg hd_In_bitCount 0 rfl) rfl ?_
  refine ux_iload_n (dg hd_In_bitCount 1 rfl) rfl ?_
  refine ux_iconst (1 : Int32) (dg hd_In_bitCount 2 rfl) (by decide) ?_
  refine ux_iushr (dg hd_In_bitCount 3 rfl) ?_
  refine ux_ldcw (1431655765 : Int32) wk_377 (dg hd_In_bitCount 4 rfl) ?_
  refine ux_iand (dg hd_In_bitCount 5 rfl) ?_
  refine ux_isub (dg hd_In_bitCount 6 rfl) ?_
  refine ux_nam (fun y1 => ?_)
  refine ux_istore_n [(0, .int y1)] (dg hd_In_bitCount 7 rfl) (by decide) rfl ?_
  refine ux_iload_n (dg hd_In_bitCount 8 rfl) rfl ?_
  refine ux_ldcw (858993459 : Int32) wk_378 (dg hd_In_bitCount 9 rfl) ?_
  refine ux_iand (dg hd_In_bitCount 10 rfl) ?_
  refine ux_iload_n (dg hd_In_bitCount 11 rfl) rfl ?_
  refine ux_iconst (2 : Int32) (dg hd_In_bitCount 12 rfl) (by decide) ?_
  refine ux_iushr (dg hd_In_bitCount 13 rfl) ?_
  refine ux_ldcw (858993459 : Int32) wk_378 (dg hd_In_bitCount 14 rfl) ?_
  refine ux_iand (dg hd_In_bitCount 15 rfl) ?_
  refine ux_iadd (dg hd_In_bitCount 16 rfl) ?_
  refine ux_nam (fun y2 => ?_)
  refine ux_istore_n [(0, .int y2)] (dg hd_In_bitCount 17 rfl) (by decide) rfl ?_
  refine ux_iload_n (dg hd_In_bitCount 18 rfl) rfl ?_
  refine ux_iload_n (dg hd_In_bitCount 19 rfl) rfl ?_
  refine ux_iconst (4 : Int32) (dg hd_In_bitCount 20 rfl) (by decide) ?_
  refine ux_iushr (dg hd_In_bitCount 21 rfl) ?_
  refine ux_iadd (dg hd_In_bitCount 22 rfl) ?_
  refine ux_ldcw (252645135 : Int32) wk_379 (dg hd_In_bitCount 23 rfl) ?_
  refine ux_iand (dg hd_In_bitCount 24 rfl) ?_
  refine ux_nam (fun y3 => ?_)
  refine ux_istore_n [(0, .int y3)] (dg hd_In_bitCount 25 rfl) (by decide) rfl ?_
  refine ux_iload_n (dg hd_In_bitCount 26 rfl) rfl ?_
  refine ux_iload_n (dg hd_In_bitCount 27 rfl) rfl ?_
  refine ux_bipush (8 : Int32) (dg hd_In_bitCount 28 rfl) (by decide) ?_
  refine ux_iushr (dg hd_In_bitCount 29 rfl) ?_
  refine ux_iadd (dg hd_In_bitCount 30 rfl) ?_
  refine ux_nam (fun y4 => ?_)
  refine ux_istore_n [(0, .int y4)] (dg hd_In_bitCount 31 rfl) (by decide) rfl ?_
  refine ux_iload_n (dg hd_In_bitCount 32 rfl) rfl ?_
  refine ux_iload_n (dg hd_In_bitCount 33 rfl) rfl ?_
  refine ux_bipush (16 : Int32) (dg hd_In_bitCount 34 rfl) (by decide) ?_
  refine ux_iushr (dg hd_In_bitCount 35 rfl) ?_
  refine ux_iadd (dg hd_In_bitCount 36 rfl) ?_
  refine ux_nam (fun y5 => ?_)
  refine ux_istore_n [(0, .int y5)] (dg hd_In_bitCount 37 rfl) (by decide) rfl ?_
  refine ux_iload_n (dg hd_In_bitCount 38 rfl) rfl ?_
  refine ux_bipush (63 : Int32) (dg hd_In_bitCount 39 rfl) (by decide) ?_
  refine ux_iand (dg hd_In_bitCount 40 rfl) ?_
  exact ux_iret rfl (dg hd_In_bitCount 41 rfl)
def Mn_isWithin (p1 : Int32) (p2 : Int32) (σ : St) : Option (Int32 × St) :=
  if p1 < (0 : Int32) then (
  some ((0 : Int32), σ)) else (
  if p2 < p1 then (
  some ((0 : Int32), σ)) else (
  some ((1 : Int32), σ)))
set_option maxRecDepth 100000 in
theorem sp_Mn_isWithin (l : Launch) (p1 : Int32) (p2 : Int32) (σ : St) : Spc l shC 2 md_Mn_isWithin [.int p1, .int p2] σ (Mn_isWithin p1 p2 σ) := by
  refine Spc_of_Ux [(0, .int p1), (1, .int p2)] (by decide) rfl (Nat.le_of_ble_eq_true rfl) ?_
  unfold Mn_isWithin
  refine ux_iload_n (dg hd_Mn_isWithin 0 rfl) rfl ?_
  refine ux_if_lt 13 (dg hd_Mn_isWithin 1 rfl) (by decide) (fun _ => ?_) (fun _ => ?_)
  · refine ux_iconst (0 : Int32) (dg hd_Mn_isWithin 7 rfl) (by decide) ?_
    exact ux_zret rfl (dg hd_Mn_isWithin 8 rfl) (isB_n (by decide))
  · refine ux_iload_n (dg hd_Mn_isWithin 2 rfl) rfl ?_
    refine ux_iload_n (dg hd_Mn_isWithin 3 rfl) rfl ?_
    refine ux_icmp_gt 13 (dg hd_Mn_isWithin 4 rfl) (by decide) (fun _ => ?_) (fun _ => ?_)
    · refine ux_iconst (0 : Int32) (dg hd_Mn_isWithin 7 rfl) (by decide) ?_
      exact ux_zret rfl (dg hd_Mn_isWithin 8 rfl) (isB_n (by decide))
    · refine ux_iconst (1 : Int32) (dg hd_Mn_isWithin 5 rfl) (by decide) ?_
      refine ux_goto 14 (dg hd_Mn_isWithin 6 rfl) (by decide) ?_
      exact ux_zret rfl (dg hd_Mn_isWithin 8 rfl) (isB_n (by decide))
def Mn_isKindAndMark (p1 : Int32) (σ : St) : Option (Int32 × St) :=
  bnd (Mn_isWithin p1 (69 : Int32) σ) (fun r1 σ2 =>
  grd (isB r1) (some (r1, σ2)))
set_option maxRecDepth 100000 in
theorem sp_Mn_isKindAndMark (l : Launch) (p1 : Int32) (σ : St) : Spc l shC 3 md_Mn_isKindAndMark [.int p1] σ (Mn_isKindAndMark p1 σ) := by
  refine Spc_of_Ux [(0, .int p1)] (by decide) rfl (Nat.le_of_ble_eq_true rfl) ?_
  unfold Mn_isKindAndMark
  refine ux_iload_n (dg hd_Mn_isKindAndMark 0 rfl) rfl ?_
  refine ux_bipush (69 : Int32) (dg hd_Mn_isKindAndMark 1 rfl) (by decide) ?_
  refine ux_callSi (As := [.int p1, .int (69 : Int32)]) (sp_Mn_isWithin l p1 (69 : Int32) _) (by omega) cs_Mn_isWithin wk_330 rfl rfl (by decide) (dg hd_Mn_isKindAndMark 2 rfl) (fun r1 σ2 _ => ?_)
  exact ux_zretg rfl (dg hd_Mn_isKindAndMark 3 rfl)
def Mn_isUnder_L4 : Nat → Int32 → Int32 → Int32 → Int32 → St → Option (Int32 × St)
  | 0, _, _, _, _, _ => none
  | n + 1, x0, x1, x2, x3, σ =>
    if (7 : Int32) ≤ x3 then (
    some ((0 : Int32), σ)) else (
    bnd (Mn_isWithin x2 (6 : Int32) σ) (fun r1 σ2 =>
    if r1 = (0 : Int32) then (
    some ((0 : Int32), σ2)) else (
    if x2 = x1 then (
    some ((1 : Int32), σ2)) else (
    grd (inb x2 7) (
    nam (tbA.getD x2.toNatClampNeg 0) (fun y3 =>
    nam (x3 + (1 : Int32)) (fun y4 =>
    Mn_isUnder_L4 n x0 x1 y3 y4 σ2)))))))
set_option maxRecDepth 100000 in
theorem wk_Mn_isUnder_L4 (l : Launch) : ∀ (n : Nat) (x0 x1 x2 x3 : Int32) (σ : St), Ux l shC 3 md_Mn_isUnder 4 [(0, .int x0), (1, .int x1), (2, .int x2), (3, .int x3)] [] σ (Mn_isUnder_L4 n x0 x1 x2 x3 σ) := by
  intro n
  induction n with
  | zero => intros; exact ux_none
  | succ n ih =>
    intro x0 x1 x2 x3 σ
    unfold Mn_isUnder_L4
    refine ux_iload_n (dg hd_Mn_isUnder 4 rfl) rfl ?_
    refine ux_bipush (7 : Int32) (dg hd_Mn_isUnder 5 rfl) (by decide) ?_
    refine ux_icmp_ge 38 (dg hd_Mn_isUnder 6 rfl) (by decide) (fun _ => ?_) (fun _ => ?_)
    · refine ux_iconst (0 : Int32) (dg hd_Mn_isUnder 22 rfl) (by decide) ?_
      exact ux_zret rfl (dg hd_Mn_isUnder 23 rfl) (isB_n (by decide))
    · refine ux_iload_n (dg hd_Mn_isUnder 7 rfl) rfl ?_
      refine ux_bipush (6 : Int32) (dg hd_Mn_isUnder 8 rfl) (by decide) ?_
      refine ux_callSi (As := [.int x2, .int (6 : Int32)]) (sp_Mn_isWithin l x2 (6 : Int32) _) (by omega) cs_Mn_isWithin wk_330 rfl rfl (by decide) (dg hd_Mn_isUnder 9 rfl) (fun r1 σ2 _ => ?_)
      refine ux_if_eq 38 (dg hd_Mn_isUnder 10 rfl) (by decide) (fun _ => ?_) (fun _ => ?_)
      · refine ux_iconst (0 : Int32) (dg hd_Mn_isUnder 22 rfl) (by decide) ?_
        exact ux_zret rfl (dg hd_Mn_isUnder 23 rfl) (isB_n (by decide))
      · refine ux_iload_n (dg hd_Mn_isUnder 11 rfl) rfl ?_
        refine ux_iload_n (dg hd_Mn_isUnder 12 rfl) rfl ?_
        refine ux_icmp_ne 26 (dg hd_Mn_isUnder 13 rfl) (by decide) (fun _ => ?_) (fun _ => ?_)
        · refine ux_iconst (1 : Int32) (dg hd_Mn_isUnder 14 rfl) (by decide) ?_
          exact ux_zret rfl (dg hd_Mn_isUnder 15 rfl) (isB_n (by decide))
        · refine ux_gets (kk := 0) rfl wk_416 (dg hd_Mn_isUnder 16 rfl) ?_
          refine ux_iload_n (dg hd_Mn_isUnder 17 rfl) rfl ?_
          refine ux_tald (kk := 0) (tab := tbA) rfl rfl (dg hd_Mn_isUnder 18 rfl) ?_
          refine ux_nam (fun y3 => ?_)
          refine ux_istore_n [(2, .int y3), (0, .int x0), (1, .int x1), (3, .int x3)] (dg hd_Mn_isUnder 19 rfl) (by decide) rfl ?_
          refine ux_iincN (1 : Int32) (fun y4 => [(3, .int y4), (2, .int y3), (0, .int x0), (1, .int x1)]) (dg hd_Mn_isUnder 20 rfl) rfl (by decide) (by decide) (fun _ => rfl) (fun y4 => ?_)
          refine ux_goto 4 (dg hd_Mn_isUnder 21 rfl) (by decide) ?_
          refine ux_wk [(0, .int x0), (1, .int x1), (2, .int y3), (3, .int y4)] [2, 3, 1, 0] rfl ?_
          exact ih x0 x1 y3 y4 σ2
def Mn_isUnder (p1 : Int32) (p2 : Int32) (σ : St) : Option (Int32 × St) :=
  Mn_isUnder_L4 1000 p1 p2 p1 (0 : Int32) σ
set_option maxRecDepth 100000 in
theorem sp_Mn_isUnder (l : Launch) (p1 : Int32) (p2 : Int32) (σ : St) : Spc l shC 3 md_Mn_isUnder [.int p1, .int p2] σ (Mn_isUnder p1 p2 σ) := by
  refine Spc_of_Ux [(0, .int p1), (1, .int p2)] (by decide) rfl (Nat.le_of_ble_eq_true rfl) ?_
  unfold Mn_isUnder
  refine ux_iload_n (dg hd_Mn_isUnder 0 rfl) rfl ?_
  refine ux_istore_n [(2, .int p1), (0, .int p1), (1, .int p2)] (dg hd_Mn_isUnder 1 rfl) (by decide) rfl ?_
  refine ux_iconst (0 : Int32) (dg hd_Mn_isUnder 2 rfl) (by decide) ?_
  refine ux_istore_n [(3, .int (0 : Int32)), (2, .int p1), (0, .int p1), (1, .int p2)] (dg hd_Mn_isUnder 3 rfl) (by decide) rfl ?_
  refine ux_wk [(0, .int p1), (1, .int p2), (2, .int p1), (3, .int (0 : Int32))] [2, 3, 1, 0] rfl ?_
  exact wk_Mn_isUnder_L4 l 1000 p1 p2 p1 (0 : Int32) σ
def Mn_isTreaty (p1 : Int32) (σ : St) : Option (Int32 × St) :=
  bnd (Mn_isWithin p1 (63 : Int32) σ) (fun r1 σ2 =>
  grd (isB r1) (some (r1, σ2)))
set_option maxRecDepth 100000 in
theorem sp_Mn_isTreaty (l : Launch) (p1 : Int32) (σ : St) : Spc l shC 3 md_Mn_isTreaty [.int p1] σ (Mn_isTreaty p1 σ) := by
  refine Spc_of_Ux [(0, .int p1)] (by decide) rfl (Nat.le_of_ble_eq_true rfl) ?_
  unfold Mn_isTreaty
  refine ux_iload_n (dg hd_Mn_isTreaty 0 rfl) rfl ?_
  refine ux_bipush (63 : Int32) (dg hd_Mn_isTreaty 1 rfl) (by decide) ?_
  refine ux_callSi (As := [.int p1, .int (63 : Int32)]) (sp_Mn_isWithin l p1 (63 : Int32) _) (by omega) cs_Mn_isWithin wk_330 rfl rfl (by decide) (dg hd_Mn_isTreaty 2 rfl) (fun r1 σ2 _ => ?_)
  exact ux_zretg rfl (dg hd_Mn_isTreaty 3 rfl)
def Mn_isUse (p1 : Int32) (σ : St) : Option (Int32 × St) :=
  bnd (Mn_isWithin p1 (1 : Int32) σ) (fun r1 σ2 =>
  grd (isB r1) (some (r1, σ2)))
set_option maxRecDepth 100000 in
theorem sp_Mn_isUse (l : Launch) (p1 : Int32) (σ : St) : Spc l shC 3 md_Mn_isUse [.int p1] σ (Mn_isUse p1 σ) := by
  refine Spc_of_Ux [(0, .int p1)] (by decide) rfl (Nat.le_of_ble_eq_true rfl) ?_
  unfold Mn_isUse
  refine ux_iload_n (dg hd_Mn_isUse 0 rfl) rfl ?_
  refine ux_iconst (1 : Int32) (dg hd_Mn_isUse 1 rfl) (by decide) ?_
  refine ux_callSi (As := [.int p1, .int (1 : Int32)]) (sp_Mn_isWithin l p1 (1 : Int32) _) (by omega) cs_Mn_isWithin wk_330 rfl rfl (by decide) (dg hd_Mn_isUse 2 rfl) (fun r1 σ2 _ => ?_)
  exact ux_zretg rfl (dg hd_Mn_isUse 3 rfl)
def Mn_isRest (p1 : Int32) (p2 : Int32) (σ : St) : Option (Int32 × St) :=
  if p2 < (1 : Int32) then (
  some ((0 : Int32), σ)) else (
  if (30 : Int32) < p2 then (
  some ((0 : Int32), σ)) else (
  bnd (Mn_isWithin p1 (p2 - (1 : Int32)) σ) (fun r1 σ2 =>
  if r1 = (0 : Int32) then (
  some ((0 : Int32), σ2)) else (
  some ((1 : Int32), σ2)))))
set_option maxRecDepth 100000 in
theorem sp_Mn_isRest (l : Launch) (p1 : Int32) (p2 : Int32) (σ : St) : Spc l shC 3 md_Mn_isRest [.int p1, .int p2] σ (Mn_isRest p1 p2 σ) := by
  refine Spc_of_Ux [(0, .int p1), (1, .int p2)] (by decide) rfl (Nat.le_of_ble_eq_true rfl) ?_
  unfold Mn_isRest
  refine ux_iload_n (dg hd_Mn_isRest 0 rfl) rfl ?_
  refine ux_iconst (1 : Int32) (dg hd_Mn_isRest 1 rfl) (by decide) ?_
  refine ux_icmp_lt 25 (dg hd_Mn_isRest 2 rfl) (by decide) (fun _ => ?_) (fun _ => ?_)
  · refine ux_iconst (0 : Int32) (dg hd_Mn_isRest 14 rfl) (by decide) ?_
    exact ux_zret rfl (dg hd_Mn_isRest 15 rfl) (isB_n (by decide))
  · refine ux_iload_n (dg hd_Mn_isRest 3 rfl) rfl ?_
    refine ux_bipush (30 : Int32) (dg hd_Mn_isRest 4 rfl) (by decide) ?_
    refine ux_icmp_gt 25 (dg hd_Mn_isRest 5 rfl) (by decide) (fun _ => ?_) (fun _ => ?_)
    · refine ux_iconst (0 : Int32) (dg hd_Mn_isRest 14 rfl) (by decide) ?_
      exact ux_zret rfl (dg hd_Mn_isRest 15 rfl) (isB_n (by decide))
    · refine ux_iload_n (dg hd_Mn_isRest 6 rfl) rfl ?_
      refine ux_iload_n (dg hd_Mn_isRest 7 rfl) rfl ?_
      refine ux_iconst (1 : Int32) (dg hd_Mn_isRest 8 rfl) (by decide) ?_
      refine ux_isub (dg hd_Mn_isRest 9 rfl) ?_
      refine ux_callSi (As := [.int p1, .int (p2 - (1 : Int32))]) (sp_Mn_isWithin l p1 (p2 - (1 : Int32)) _) (by omega) cs_Mn_isWithin wk_330 rfl rfl (by decide) (dg hd_Mn_isRest 10 rfl) (fun r1 σ2 _ => ?_)
      refine ux_if_eq 25 (dg hd_Mn_isRest 11 rfl) (by decide) (fun _ => ?_) (fun _ => ?_)
      · refine ux_iconst (0 : Int32) (dg hd_Mn_isRest 14 rfl) (by decide) ?_
        exact ux_zret rfl (dg hd_Mn_isRest 15 rfl) (isB_n (by decide))
      · refine ux_iconst (1 : Int32) (dg hd_Mn_isRest 12 rfl) (by decide) ?_
        refine ux_goto 26 (dg hd_Mn_isRest 13 rfl) (by decide) ?_
        exact ux_zret rfl (dg hd_Mn_isRest 15 rfl) (isB_n (by decide))
def Mn_isSheet (p1 : Int32) (σ : St) : Option (Int32 × St) :=
  bnd (Mn_isWithin p1 (3 : Int32) σ) (fun r1 σ2 =>
  grd (isB r1) (some (r1, σ2)))
set_option maxRecDepth 100000 in
theorem sp_Mn_isSheet (l : Launch) (p1 : Int32) (σ : St) : Spc l shC 3 md_Mn_isSheet [.int p1] σ (Mn_isSheet p1 σ) := by
  refine Spc_of_Ux [(0, .int p1)] (by decide) rfl (Nat.le_of_ble_eq_true rfl) ?_
  unfold Mn_isSheet
  refine ux_iload_n (dg hd_Mn_isSheet 0 rfl) rfl ?_
  refine ux_iconst (3 : Int32) (dg hd_Mn_isSheet 1 rfl) (by decide) ?_
  refine ux_callSi (As := [.int p1, .int (3 : Int32)]) (sp_Mn_isWithin l p1 (3 : Int32) _) (by omega) cs_Mn_isWithin wk_330 rfl rfl (by decide) (dg hd_Mn_isSheet 2 rfl) (fun r1 σ2 _ => ?_)
  exact ux_zretg rfl (dg hd_Mn_isSheet 3 rfl)
def Mn_isBits (p1 : Int32) (σ : St) : Option (Int32 × St) :=
  if p1 = (0 : Int32) then (
  some ((1 : Int32), σ)) else (
  if p1 = (8 : Int32) then (
  some ((1 : Int32), σ)) else (
  if p1 = (16 : Int32) then (
  some ((1 : Int32), σ)) else (
  if p1 = (32 : Int32) then (
  some ((1 : Int32), σ)) else (
  some ((0 : Int32), σ)))))
set_option maxRecDepth 100000 in
theorem sp_Mn_isBits (l : Launch) (p1 : Int32) (σ : St) : Spc l shC 2 md_Mn_isBits [.int p1] σ (Mn_isBits p1 σ) := by
  refine Spc_of_Ux [(0, .int p1)] (by decide) rfl (Nat.le_of_ble_eq_true rfl) ?_
  unfold Mn_isBits
  refine ux_iload_n (dg hd_Mn_isBits 0 rfl) rfl ?_
  refine ux_if_eq 22 (dg hd_Mn_isBits 1 rfl) (by decide) (fun _ => ?_) (fun _ => ?_)
  · refine ux_iconst (1 : Int32) (dg hd_Mn_isBits 11 rfl) (by decide) ?_
    refine ux_goto 27 (dg hd_Mn_isBits 12 rfl) (by decide) ?_
    exact ux_zret rfl (dg hd_Mn_isBits 14 rfl) (isB_n (by decide))
  · refine ux_iload_n (dg hd_Mn_isBits 2 rfl) rfl ?_
    refine ux_bipush (8 : Int32) (dg hd_Mn_isBits 3 rfl) (by decide) ?_
    refine ux_icmp_eq 22 (dg hd_Mn_isBits 4 rfl) (by decide) (fun _ => ?_) (fun _ => ?_)
    · refine ux_iconst (1 : Int32) (dg hd_Mn_isBits 11 rfl) (by decide) ?_
      refine ux_goto 27 (dg hd_Mn_isBits 12 rfl) (by decide) ?_
      exact ux_zret rfl (dg hd_Mn_isBits 14 rfl) (isB_n (by decide))
    · refine ux_iload_n (dg hd_Mn_isBits 5 rfl) rfl ?_
      refine ux_bipush (16 : Int32) (dg hd_Mn_isBits 6 rfl) (by decide) ?_
      refine ux_icmp_eq 22 (dg hd_Mn_isBits 7 rfl) (by decide) (fun _ => ?_) (fun _ => ?_)
      · refine ux_iconst (1 : Int32) (dg hd_Mn_isBits 11 rfl) (by decide) ?_
        refine ux_goto 27 (dg hd_Mn_isBits 12 rfl) (by decide) ?_
        exact ux_zret rfl (dg hd_Mn_isBits 14 rfl) (isB_n (by decide))
      · refine ux_iload_n (dg hd_Mn_isBits 8 rfl) rfl ?_
        refine ux_bipush (32 : Int32) (dg hd_Mn_isBits 9 rfl) (by decide) ?_
        refine ux_icmp_ne 26 (dg hd_Mn_isBits 10 rfl) (by decide) (fun _ => ?_) (fun _ => ?_)
        · refine ux_iconst (1 : Int32) (dg hd_Mn_isBits 11 rfl) (by decide) ?_
          refine ux_goto 27 (dg hd_Mn_isBits 12 rfl) (by decide) ?_
          exact ux_zret rfl (dg hd_Mn_isBits 14 rfl) (isB_n (by decide))
        · refine ux_iconst (0 : Int32) (dg hd_Mn_isBits 13 rfl) (by decide) ?_
          exact ux_zret rfl (dg hd_Mn_isBits 14 rfl) (isB_n (by decide))
end
section
def Rw_isMissing (o : Nat) (σ : St) : Option (Int32 × St) :=
  if (σ.1 o 1) = (0 : Int32) then (
  some ((1 : Int32), σ)) else (
  some ((0 : Int32), σ))
set_option maxRecDepth 100000 in
theorem sp_Rw_isMissing (l : Launch) {o : Nat} (ho : isRw o) (σ : St) : Spc l shC 2 md_Rw_isMissing [.ref o] σ (Rw_isMissing o  σ) := by
  refine Spc_of_Ux [(0, .ref o)] (by decide) rfl (Nat.le_of_ble_eq_true rfl) ?_
  unfold Rw_isMissing
  refine ux_aload_n (dg hd_Rw_isMissing 0 rfl) rfl ?_
  refine ux_get fcX2 1 (by decide) wk_239 (rwO ho) rfl (dg hd_Rw_isMissing 1 rfl) ?_
  refine ux_if_ne 11 (dg hd_Rw_isMissing 2 rfl) (by decide) (fun _ => ?_) (fun _ => ?_)
  · refine ux_iconst (1 : Int32) (dg hd_Rw_isMissing 3 rfl) (by decide) ?_
    refine ux_goto 12 (dg hd_Rw_isMissing 4 rfl) (by decide) ?_
    exact ux_zret rfl (dg hd_Rw_isMissing 6 rfl) (isB_n (by decide))
  · refine ux_iconst (0 : Int32) (dg hd_Rw_isMissing 5 rfl) (by decide) ?_
    exact ux_zret rfl (dg hd_Rw_isMissing 6 rfl) (isB_n (by decide))
def Rw_begin_L12 : Nat → Nat → Int32 → Int32 → Int32 → St → Option (Int32 × St)
  | 0, _, _, _, _, _ => none
  | n + 1, o, x1, x2, x3, σ =>
    if (24 : Int32) ≤ x3 then (
    some (0, σ)) else (
    grd (inb x3 24) (
    nas (sA σ (o + 1) x3.toNatClampNeg (0 : Int32)) (fun σ3 =>
    nam (x3 + (1 : Int32)) (fun y4 =>
    Rw_begin_L12 n o x1 x2 y4 σ3))))
set_option maxRecDepth 100000 in
theorem wk_Rw_begin_L12 (l : Launch) {o : Nat} (ho : isRw o) : ∀ (n : Nat) (x1 x2 x3 : Int32) (σ : St), Ux l shC 2 md_Rw_begin 12 [(0, .ref o), (1, .int x1), (2, .int x2), (3, .int x3)] [] σ (Rw_begin_L12 n o x1 x2 x3 σ) := by
  intro n
  induction n with
  | zero => intros; exact ux_none
  | succ n ih =>
    intro x1 x2 x3 σ
    unfold Rw_begin_L12
    refine ux_iload_n (dg hd_Rw_begin 8 rfl) rfl ?_
    refine ux_bipush (24 : Int32) (dg hd_Rw_begin 9 rfl) (by decide) ?_
    refine ux_icmp_ge 31 (dg hd_Rw_begin 10 rfl) (by decide) (fun _ => ?_) (fun _ => ?_)
    · exact ux_vret rfl (dg hd_Rw_begin 18 rfl)
    · refine ux_aload_n (dg hd_Rw_begin 11 rfl) rfl ?_
      refine ux_getr (q := (o + 1)) fcX2 0 (by decide) wk_236 (rwO ho) rfl (dg hd_Rw_begin 12 rfl) ?_
      refine ux_iload_n (dg hd_Rw_begin 13 rfl) rfl ?_
      refine ux_iconst (0 : Int32) (dg hd_Rw_begin 14 rfl) (by decide) ?_
      refine ux_iast (rwA ho) (dg hd_Rw_begin 15 rfl) ?_
      refine ux_nas (fun σ3 => ?_)
      refine ux_iincN (1 : Int32) (fun y4 => [(3, .int y4), (0, .ref o), (1, .int x1), (2, .int x2)]) (dg hd_Rw_begin 16 rfl) rfl (by decide) (by decide) (fun _ => rfl) (fun y4 => ?_)
      refine ux_goto 12 (dg hd_Rw_begin 17 rfl) (by decide) ?_
      refine ux_wk [(0, .ref o), (1, .int x1), (2, .int x2), (3, .int y4)] [1, 2, 3, 0] rfl ?_
      exact ih x1 x2 y4 σ3
def Rw_begin (o : Nat) (p1 : Int32) (p2 : Int32) (σ : St) : Option (Int32 × St) :=
  nas (sF σ o 1 p1) (fun σ1 =>
  nas (sF σ1 o 2 p2) (fun σ2 =>
  Rw_begin_L12 1000 o p1 p2 (0 : Int32) σ2))
set_option maxRecDepth 100000 in
theorem sp_Rw_begin (l : Launch) {o : Nat} (ho : isRw o) (p1 : Int32) (p2 : Int32) (σ : St) : Spc l shC 2 md_Rw_begin [.ref o, .int p1, .int p2] σ (Rw_begin o p1 p2 σ) := by
  refine Spc_of_Ux [(0, .ref o), (1, .int p1), (2, .int p2)] (by decide) rfl (Nat.le_of_ble_eq_true rfl) ?_
  unfold Rw_begin
  refine ux_aload_n (dg hd_Rw_begin 0 rfl) rfl ?_
  refine ux_iload_n (dg hd_Rw_begin 1 rfl) rfl ?_
  refine ux_put fcX2 1 (by decide) wk_239 rfl rfl ⟨rfl, rfl⟩ (rwO ho) rfl (dg hd_Rw_begin 2 rfl) ?_
  refine ux_nas (fun σ1 => ?_)
  refine ux_aload_n (dg hd_Rw_begin 3 rfl) rfl ?_
  refine ux_iload_n (dg hd_Rw_begin 4 rfl) rfl ?_
  refine ux_put fcX2 2 (by decide) wk_241 rfl rfl ⟨rfl, rfl⟩ (rwO ho) rfl (dg hd_Rw_begin 5 rfl) ?_
  refine ux_nas (fun σ2 => ?_)
  refine ux_iconst (0 : Int32) (dg hd_Rw_begin 6 rfl) (by decide) ?_
  refine ux_istore_n [(3, .int (0 : Int32)), (0, .ref o), (1, .int p1), (2, .int p2)] (dg hd_Rw_begin 7 rfl) (by decide) rfl ?_
  refine ux_wk [(0, .ref o), (1, .int p1), (2, .int p2), (3, .int (0 : Int32))] [1, 2, 3, 0] rfl ?_
  exact wk_Rw_begin_L12 l ho 1000 p1 p2 (0 : Int32) σ2
def Rw_lowest (o : Nat) (p1 : Int32) (σ : St) : Option (Int32 × St) :=
  if (σ.1 o 1) = (32 : Int32) then (
  some (p1, σ)) else (
  some ((p1 &&& (((1 : Int32) <<< ((σ.1 o 1) &&& 31)) - (1 : Int32))), σ))
set_option maxRecDepth 100000 in
theorem sp_Rw_lowest (l : Launch) {o : Nat} (ho : isRw o) (p1 : Int32) (σ : St) : Spc l shC 2 md_Rw_lowest [.ref o, .int p1] σ (Rw_lowest o p1 σ) := by
  refine Spc_of_Ux [(0, .ref o), (1, .int p1)] (by decide) rfl (Nat.le_of_ble_eq_true rfl) ?_
  unfold Rw_lowest
  refine ux_aload_n (dg hd_Rw_lowest 0 rfl) rfl ?_
  refine ux_get fcX2 1 (by decide) wk_239 (rwO ho) rfl (dg hd_Rw_lowest 1 rfl) ?_
  refine ux_bipush (32 : Int32) (dg hd_Rw_lowest 2 rfl) (by decide) ?_
  refine ux_icmp_ne 13 (dg hd_Rw_lowest 3 rfl) (by decide) (fun _ => ?_) (fun _ => ?_)
  · refine ux_iload_n (dg hd_Rw_lowest 4 rfl) rfl ?_
    refine ux_goto 23 (dg hd_Rw_lowest 5 rfl) (by decide) ?_
    exact ux_iret rfl (dg hd_Rw_lowest 14 rfl)
  · refine ux_iload_n (dg hd_Rw_lowest 6 rfl) rfl ?_
    refine ux_iconst (1 : Int32) (dg hd_Rw_lowest 7 rfl) (by decide) ?_
    refine ux_aload_n (dg hd_Rw_lowest 8 rfl) rfl ?_
    refine ux_get fcX2 1 (by decide) wk_239 (rwO ho) rfl (dg hd_Rw_lowest 9 rfl) ?_
    refine ux_ishl (dg hd_Rw_lowest 10 rfl) ?_
    refine ux_iconst (1 : Int32) (dg hd_Rw_lowest 11 rfl) (by decide) ?_
    refine ux_isub (dg hd_Rw_lowest 12 rfl) ?_
    refine ux_iand (dg hd_Rw_lowest 13 rfl) ?_
    exact ux_iret rfl (dg hd_Rw_lowest 14 rfl)
def Rw_holds (o : Nat) (p1 : Int32) (p2 : Int32) (σ : St) : Option (Int32 × St) :=
  if p1 < (0 : Int32) then (
  some ((0 : Int32), σ)) else (
  if p2 < (0 : Int32) then (
  some ((0 : Int32), σ)) else (
  if (σ.1 o 2) < p2 then (
  some ((0 : Int32), σ)) else (
  if ((σ.1 o 2) - p2) < p1 then (
  some ((0 : Int32), σ)) else (
  some ((1 : Int32), σ)))))
set_option maxRecDepth 100000 in
theorem sp_Rw_holds (l : Launch) {o : Nat} (ho : isRw o) (p1 : Int32) (p2 : Int32) (σ : St) : Spc l shC 2 md_Rw_holds [.ref o, .int p1, .int p2] σ (Rw_holds o p1 p2 σ) := by
  refine Spc_of_Ux [(0, .ref o), (1, .int p1), (2, .int p2)] (by decide) rfl (Nat.le_of_ble_eq_true rfl) ?_
  unfold Rw_holds
  refine ux_iload_n (dg hd_Rw_holds 0 rfl) rfl ?_
  refine ux_if_lt 30 (dg hd_Rw_holds 1 rfl) (by decide) (fun _ => ?_) (fun _ => ?_)
  · refine ux_iconst (0 : Int32) (dg hd_Rw_holds 16 rfl) (by decide) ?_
    exact ux_zret rfl (dg hd_Rw_holds 17 rfl) (isB_n (by decide))
  · refine ux_iload_n (dg hd_Rw_holds 2 rfl) rfl ?_
    refine ux_if_lt 30 (dg hd_Rw_holds 3 rfl) (by decide) (fun _ => ?_) (fun _ => ?_)
    · refine ux_iconst (0 : Int32) (dg hd_Rw_holds 16 rfl) (by decide) ?_
      exact ux_zret rfl (dg hd_Rw_holds 17 rfl) (isB_n (by decide))
    · refine ux_iload_n (dg hd_Rw_holds 4 rfl) rfl ?_
      refine ux_aload_n (dg hd_Rw_holds 5 rfl) rfl ?_
      refine ux_get fcX2 2 (by decide) wk_241 (rwO ho) rfl (dg hd_Rw_holds 6 rfl) ?_
      refine ux_icmp_gt 30 (dg hd_Rw_holds 7 rfl) (by decide) (fun _ => ?_) (fun _ => ?_)
      · refine ux_iconst (0 : Int32) (dg hd_Rw_holds 16 rfl) (by decide) ?_
        exact ux_zret rfl (dg hd_Rw_holds 17 rfl) (isB_n (by decide))
      · refine ux_iload_n (dg hd_Rw_holds 8 rfl) rfl ?_
        refine ux_aload_n (dg hd_Rw_holds 9 rfl) rfl ?_
        refine ux_get fcX2 2 (by decide) wk_241 (rwO ho) rfl (dg hd_Rw_holds 10 rfl) ?_
        refine ux_iload_n (dg hd_Rw_holds 11 rfl) rfl ?_
        refine ux_isub (dg hd_Rw_holds 12 rfl) ?_
        refine ux_icmp_gt 30 (dg hd_Rw_holds 13 rfl) (by decide) (fun _ => ?_) (fun _ => ?_)
        · refine ux_iconst (0 : Int32) (dg hd_Rw_holds 16 rfl) (by decide) ?_
          exact ux_zret rfl (dg hd_Rw_holds 17 rfl) (isB_n (by decide))
        · refine ux_iconst (1 : Int32) (dg hd_Rw_holds 14 rfl) (by decide) ?_
          refine ux_goto 31 (dg hd_Rw_holds 15 rfl) (by decide) ?_
          exact ux_zret rfl (dg hd_Rw_holds 17 rfl) (isB_n (by decide))
def Rw_copy (o : Nat) (p1 : Nat) (σ : St) : Option (Int32 × St) :=
  grd (cpb (0 : Int32) (0 : Int32) (24 : Int32) 24 24) (
  nas (sC σ (p1 + 1) (0 : Int32).toNatClampNeg (o + 1) (0 : Int32).toNatClampNeg (24 : Int32).toNatClampNeg) (fun σ1 =>
  nas (sF σ1 o 1 (σ1.1 p1 1)) (fun σ2 =>
  nas (sF σ2 o 2 (σ2.1 p1 2)) (fun σ3 =>
  some (0, σ3)))))
set_option maxRecDepth 100000 in
theorem sp_Rw_copy (l : Launch) {o : Nat} (ho : isRw o) {p1 : Nat} (hp1 : isRw p1) (σ : St) : Spc l shC 2 md_Rw_copy [.ref o, .ref p1] σ (Rw_copy o p1 σ) := by
  refine Spc_of_Ux [(0, .ref o), (1, .ref p1)] (by decide) rfl (Nat.le_of_ble_eq_true rfl) ?_
  unfold Rw_copy
  refine ux_aload_n (dg hd_Rw_copy 0 rfl) rfl ?_
  refine ux_getr (q := (p1 + 1)) fcX2 0 (by decide) wk_236 (rwO hp1) rfl (dg hd_Rw_copy 1 rfl) ?_
  refine ux_iconst (0 : Int32) (dg hd_Rw_copy 2 rfl) (by decide) ?_
  refine ux_aload_n (dg hd_Rw_copy 3 rfl) rfl ?_
  refine ux_getr (q := (o + 1)) fcX2 0 (by decide) wk_236 (rwO ho) rfl (dg hd_Rw_copy 4 rfl) ?_
  refine ux_iconst (0 : Int32) (dg hd_Rw_copy 5 rfl) (by decide) ?_
  refine ux_bipush (24 : Int32) (dg hd_Rw_copy 6 rfl) (by decide) ?_
  refine ux_acopy (by omega) (by decide) wk_748 wk_488 wk_487 wk_85 (rwA hp1) (rwA ho) (dg hd_Rw_copy 7 rfl) ?_
  refine ux_nas (fun σ1 => ?_)
  refine ux_aload_n (dg hd_Rw_copy 8 rfl) rfl ?_
  refine ux_aload_n (dg hd_Rw_copy 9 rfl) rfl ?_
  refine ux_get fcX2 1 (by decide) wk_239 (rwO hp1) rfl (dg hd_Rw_copy 10 rfl) ?_
  refine ux_put fcX2 1 (by decide) wk_239 rfl rfl ⟨rfl, rfl⟩ (rwO ho) rfl (dg hd_Rw_copy 11 rfl) ?_
  refine ux_nas (fun σ2 => ?_)
  refine ux_aload_n (dg hd_Rw_copy 12 rfl) rfl ?_
  refine ux_aload_n (dg hd_Rw_copy 13 rfl) rfl ?_
  refine ux_get fcX2 2 (by decide) wk_241 (rwO hp1) rfl (dg hd_Rw_copy 14 rfl) ?_
  refine ux_put fcX2 2 (by decide) wk_241 rfl rfl ⟨rfl, rfl⟩ (rwO ho) rfl (dg hd_Rw_copy 15 rfl) ?_
  refine ux_nas (fun σ3 => ?_)
  exact ux_vret rfl (dg hd_Rw_copy 16 rfl)
end
