section
-- ===== PART A: goes FIRST, ahead of the names: the tables' words, and 'selects' of the private methods out of them =====
/-- a private method of a class that the tables say can be made, by its rows of tables_1 -/
def lw_okq (q : MethodName × Nat) : Prop := (q.1.cls ≠ "java/lang/invoke/MethodHandle" ∧ q.1.cls ≠ "java/lang/invoke/VarHandle") ∧ Cond.instantiable q.1.cls q.2 ∈ tables_1 ∧ Cond.privateMethod q.1 ∈ tables_1 ∧ Cond.instanceMethod q.1 ∈ tables_1
theorem lw_p0 : lw_okq (⟨"RopeTreaty", "error", "(I)I"⟩, 14) := ⟨⟨by decide +kernel, by decide +kernel⟩, List.mem_of_getElem? (i := 13) (by decide +kernel), List.mem_of_getElem? (i := 260) (by decide +kernel), List.mem_of_getElem? (i := 261) (by decide +kernel)⟩
theorem lw_p1 : lw_okq (⟨"RopeTreaty$Text", "work", "(III)I"⟩, 4) := ⟨⟨by decide +kernel, by decide +kernel⟩, List.mem_of_getElem? (i := 25) (by decide +kernel), List.mem_of_getElem? (i := 315) (by decide +kernel), List.mem_of_getElem? (i := 316) (by decide +kernel)⟩
theorem lw_p2 : lw_okq (⟨"RopeTreaty$Reader", "readOr", "(I)V"⟩, 7) := ⟨⟨by decide +kernel, by decide +kernel⟩, List.mem_of_getElem? (i := 127) (by decide +kernel), List.mem_of_getElem? (i := 416) (by decide +kernel), List.mem_of_getElem? (i := 417) (by decide +kernel)⟩
theorem lw_p3 : lw_okq (⟨"RopeTreaty$Reader", "readAnd", "(I)V"⟩, 7) := ⟨⟨by decide +kernel, by decide +kernel⟩, List.mem_of_getElem? (i := 127) (by decide +kernel), List.mem_of_getElem? (i := 420) (by decide +kernel), List.mem_of_getElem? (i := 421) (by decide +kernel)⟩
theorem lw_p4 : lw_okq (⟨"RopeTreaty$Reader", "readLikeness", "(I)V"⟩, 7) := ⟨⟨by decide +kernel, by decide +kernel⟩, List.mem_of_getElem? (i := 127) (by decide +kernel), List.mem_of_getElem? (i := 424) (by decide +kernel), List.mem_of_getElem? (i := 425) (by decide +kernel)⟩
theorem lw_p5 : lw_okq (⟨"RopeTreaty$Reader", "readSum", "(I)V"⟩, 7) := ⟨⟨by decide +kernel, by decide +kernel⟩, List.mem_of_getElem? (i := 127) (by decide +kernel), List.mem_of_getElem? (i := 428) (by decide +kernel), List.mem_of_getElem? (i := 429) (by decide +kernel)⟩
theorem lw_p6 : lw_okq (⟨"RopeTreaty$Reader", "readProduct", "(I)V"⟩, 7) := ⟨⟨by decide +kernel, by decide +kernel⟩, List.mem_of_getElem? (i := 127) (by decide +kernel), List.mem_of_getElem? (i := 432) (by decide +kernel), List.mem_of_getElem? (i := 433) (by decide +kernel)⟩
theorem lw_p7 : lw_okq (⟨"RopeTreaty$Reader", "readPart", "(I)V"⟩, 7) := ⟨⟨by decide +kernel, by decide +kernel⟩, List.mem_of_getElem? (i := 127) (by decide +kernel), List.mem_of_getElem? (i := 436) (by decide +kernel), List.mem_of_getElem? (i := 437) (by decide +kernel)⟩
theorem lw_p8 : lw_okq (⟨"RopeTreaty$Reader", "nextName", "()I"⟩, 7) := ⟨⟨by decide +kernel, by decide +kernel⟩, List.mem_of_getElem? (i := 127) (by decide +kernel), List.mem_of_getElem? (i := 440) (by decide +kernel), List.mem_of_getElem? (i := 441) (by decide +kernel)⟩
theorem lw_p9 : lw_okq (⟨"RopeTreaty$Reader", "isNext", "(C)Z"⟩, 7) := ⟨⟨by decide +kernel, by decide +kernel⟩, List.mem_of_getElem? (i := 127) (by decide +kernel), List.mem_of_getElem? (i := 446) (by decide +kernel), List.mem_of_getElem? (i := 447) (by decide +kernel)⟩
theorem lw_p10 : lw_okq (⟨"RopeTreaty$Reader", "write", "(I)V"⟩, 7) := ⟨⟨by decide +kernel, by decide +kernel⟩, List.mem_of_getElem? (i := 127) (by decide +kernel), List.mem_of_getElem? (i := 450) (by decide +kernel), List.mem_of_getElem? (i := 451) (by decide +kernel)⟩
theorem lw_p11 : lw_okq (⟨"RopeTreaty$Reader", "isDigit", "()Z"⟩, 7) := ⟨⟨by decide +kernel, by decide +kernel⟩, List.mem_of_getElem? (i := 127) (by decide +kernel), List.mem_of_getElem? (i := 454) (by decide +kernel), List.mem_of_getElem? (i := 455) (by decide +kernel)⟩
theorem lw_p12 : lw_okq (⟨"RopeTreaty$Reader", "readNumber", "()V"⟩, 7) := ⟨⟨by decide +kernel, by decide +kernel⟩, List.mem_of_getElem? (i := 127) (by decide +kernel), List.mem_of_getElem? (i := 458) (by decide +kernel), List.mem_of_getElem? (i := 459) (by decide +kernel)⟩
theorem lw_p13 : lw_okq (⟨"RopeTreaty$Reader", "close", "()V"⟩, 7) := ⟨⟨by decide +kernel, by decide +kernel⟩, List.mem_of_getElem? (i := 127) (by decide +kernel), List.mem_of_getElem? (i := 462) (by decide +kernel), List.mem_of_getElem? (i := 463) (by decide +kernel)⟩
theorem lw_p14 : lw_okq (⟨"RopeTreaty$Rope", "skip", "(I)I"⟩, 15) := ⟨⟨by decide +kernel, by decide +kernel⟩, List.mem_of_getElem? (i := 46) (by decide +kernel), List.mem_of_getElem? (i := 491) (by decide +kernel), List.mem_of_getElem? (i := 492) (by decide +kernel)⟩
theorem lw_p15 : lw_okq (⟨"RopeTreaty$Rope", "draw", "()I"⟩, 15) := ⟨⟨by decide +kernel, by decide +kernel⟩, List.mem_of_getElem? (i := 46) (by decide +kernel), List.mem_of_getElem? (i := 505) (by decide +kernel), List.mem_of_getElem? (i := 506) (by decide +kernel)⟩
def lw_privs_1 : List (MethodName × Nat) := [(⟨"RopeTreaty", "error", "(I)I"⟩, 14), (⟨"RopeTreaty$Text", "work", "(III)I"⟩, 4), (⟨"RopeTreaty$Reader", "readOr", "(I)V"⟩, 7), (⟨"RopeTreaty$Reader", "readAnd", "(I)V"⟩, 7), (⟨"RopeTreaty$Reader", "readLikeness", "(I)V"⟩, 7), (⟨"RopeTreaty$Reader", "readSum", "(I)V"⟩, 7), (⟨"RopeTreaty$Reader", "readProduct", "(I)V"⟩, 7), (⟨"RopeTreaty$Reader", "readPart", "(I)V"⟩, 7), (⟨"RopeTreaty$Reader", "nextName", "()I"⟩, 7), (⟨"RopeTreaty$Reader", "isNext", "(C)Z"⟩, 7), (⟨"RopeTreaty$Reader", "write", "(I)V"⟩, 7), (⟨"RopeTreaty$Reader", "isDigit", "()Z"⟩, 7), (⟨"RopeTreaty$Reader", "readNumber", "()V"⟩, 7), (⟨"RopeTreaty$Reader", "close", "()V"⟩, 7), (⟨"RopeTreaty$Rope", "skip", "(I)I"⟩, 15), (⟨"RopeTreaty$Rope", "draw", "()I"⟩, 15)]
theorem lw_r1 : ∀ q ∈ lw_privs_1, lw_okq q := List.forall_mem_cons.mpr ⟨lw_p0, List.forall_mem_cons.mpr ⟨lw_p1, List.forall_mem_cons.mpr ⟨lw_p2, List.forall_mem_cons.mpr ⟨lw_p3, List.forall_mem_cons.mpr ⟨lw_p4, List.forall_mem_cons.mpr ⟨lw_p5, List.forall_mem_cons.mpr ⟨lw_p6, List.forall_mem_cons.mpr ⟨lw_p7, List.forall_mem_cons.mpr ⟨lw_p8, List.forall_mem_cons.mpr ⟨lw_p9, List.forall_mem_cons.mpr ⟨lw_p10, List.forall_mem_cons.mpr ⟨lw_p11, List.forall_mem_cons.mpr ⟨lw_p12, List.forall_mem_cons.mpr ⟨lw_p13, List.forall_mem_cons.mpr ⟨lw_p14, List.forall_mem_cons.mpr ⟨lw_p15, fun _ h => absurd h List.not_mem_nil⟩⟩⟩⟩⟩⟩⟩⟩⟩⟩⟩⟩⟩⟩⟩⟩
theorem lw_p16 : lw_okq (⟨"RopeTreaty$Rope", "onlyAgainst", "(I)I"⟩, 15) := ⟨⟨by decide +kernel, by decide +kernel⟩, List.mem_of_getElem? (i := 46) (by decide +kernel), List.mem_of_getElem? (i := 551) (by decide +kernel), List.mem_of_getElem? (i := 552) (by decide +kernel)⟩
theorem lw_p17 : lw_okq (⟨"RopeTreaty$Throat", "say", "(IIII)I"⟩, 6) := ⟨⟨by decide +kernel, by decide +kernel⟩, List.mem_of_getElem? (i := 179) (by decide +kernel), List.mem_of_getElem? (i := 594) (by decide +kernel), List.mem_of_getElem? (i := 595) (by decide +kernel)⟩
theorem lw_p18 : lw_okq (⟨"RopeTreaty$Throat", "work", "(III)I"⟩, 6) := ⟨⟨by decide +kernel, by decide +kernel⟩, List.mem_of_getElem? (i := 179) (by decide +kernel), List.mem_of_getElem? (i := 605) (by decide +kernel), List.mem_of_getElem? (i := 606) (by decide +kernel)⟩
theorem lw_p19 : lw_okq (⟨"RopeTreaty$Throat", "part", "(I)I"⟩, 6) := ⟨⟨by decide +kernel, by decide +kernel⟩, List.mem_of_getElem? (i := 179) (by decide +kernel), List.mem_of_getElem? (i := 609) (by decide +kernel), List.mem_of_getElem? (i := 610) (by decide +kernel)⟩
theorem lw_p20 : lw_okq (⟨"RopeTreatyModel", "error", "(I)I"⟩, 21) := ⟨⟨by decide +kernel, by decide +kernel⟩, List.mem_of_getElem? (i := 702) (by decide +kernel), List.mem_of_getElem? (i := 783) (by decide +kernel), List.mem_of_getElem? (i := 784) (by decide +kernel)⟩
theorem lw_p21 : lw_okq (⟨"RopeTreatyModel", "lets", "(III)V"⟩, 21) := ⟨⟨by decide +kernel, by decide +kernel⟩, List.mem_of_getElem? (i := 702) (by decide +kernel), List.mem_of_getElem? (i := 789) (by decide +kernel), List.mem_of_getElem? (i := 790) (by decide +kernel)⟩
theorem lw_p22 : lw_okq (⟨"RopeTreatyModel", "isJumper", "(I)Z"⟩, 21) := ⟨⟨by decide +kernel, by decide +kernel⟩, List.mem_of_getElem? (i := 702) (by decide +kernel), List.mem_of_getElem? (i := 797) (by decide +kernel), List.mem_of_getElem? (i := 798) (by decide +kernel)⟩
theorem lw_p23 : lw_okq (⟨"RopeTreatyModel", "of", "(II)I"⟩, 21) := ⟨⟨by decide +kernel, by decide +kernel⟩, List.mem_of_getElem? (i := 702) (by decide +kernel), List.mem_of_getElem? (i := 801) (by decide +kernel), List.mem_of_getElem? (i := 802) (by decide +kernel)⟩
theorem lw_p24 : lw_okq (⟨"RopeTreatyModel", "costsOf", "(I)I"⟩, 21) := ⟨⟨by decide +kernel, by decide +kernel⟩, List.mem_of_getElem? (i := 702) (by decide +kernel), List.mem_of_getElem? (i := 805) (by decide +kernel), List.mem_of_getElem? (i := 806) (by decide +kernel)⟩
theorem lw_p25 : lw_okq (⟨"RopeTreatyModel", "takesOf", "(I)I"⟩, 21) := ⟨⟨by decide +kernel, by decide +kernel⟩, List.mem_of_getElem? (i := 702) (by decide +kernel), List.mem_of_getElem? (i := 809) (by decide +kernel), List.mem_of_getElem? (i := 810) (by decide +kernel)⟩
theorem lw_p26 : lw_okq (⟨"RopeTreatyModel", "word", "()I"⟩, 21) := ⟨⟨by decide +kernel, by decide +kernel⟩, List.mem_of_getElem? (i := 702) (by decide +kernel), List.mem_of_getElem? (i := 813) (by decide +kernel), List.mem_of_getElem? (i := 814) (by decide +kernel)⟩
theorem lw_p27 : lw_okq (⟨"RopeTreatyModel", "allIn", "()I"⟩, 21) := ⟨⟨by decide +kernel, by decide +kernel⟩, List.mem_of_getElem? (i := 702) (by decide +kernel), List.mem_of_getElem? (i := 817) (by decide +kernel), List.mem_of_getElem? (i := 818) (by decide +kernel)⟩
theorem lw_p28 : lw_okq (⟨"RopeTreatyModel", "isIn", "(I)Z"⟩, 21) := ⟨⟨by decide +kernel, by decide +kernel⟩, List.mem_of_getElem? (i := 702) (by decide +kernel), List.mem_of_getElem? (i := 821) (by decide +kernel), List.mem_of_getElem? (i := 822) (by decide +kernel)⟩
theorem lw_p29 : lw_okq (⟨"RopeTreatyModel", "gives", "(IIII)I"⟩, 21) := ⟨⟨by decide +kernel, by decide +kernel⟩, List.mem_of_getElem? (i := 702) (by decide +kernel), List.mem_of_getElem? (i := 828) (by decide +kernel), List.mem_of_getElem? (i := 829) (by decide +kernel)⟩
theorem lw_p30 : lw_okq (⟨"RopeTreatyModel", "works", "(I)I"⟩, 21) := ⟨⟨by decide +kernel, by decide +kernel⟩, List.mem_of_getElem? (i := 702) (by decide +kernel), List.mem_of_getElem? (i := 832) (by decide +kernel), List.mem_of_getElem? (i := 833) (by decide +kernel)⟩
theorem lw_p31 : lw_okq (⟨"RopeTreatyModel", "becomes", "(II)I"⟩, 21) := ⟨⟨by decide +kernel, by decide +kernel⟩, List.mem_of_getElem? (i := 702) (by decide +kernel), List.mem_of_getElem? (i := 846) (by decide +kernel), List.mem_of_getElem? (i := 847) (by decide +kernel)⟩
def lw_privs_2 : List (MethodName × Nat) := [(⟨"RopeTreaty$Rope", "onlyAgainst", "(I)I"⟩, 15), (⟨"RopeTreaty$Throat", "say", "(IIII)I"⟩, 6), (⟨"RopeTreaty$Throat", "work", "(III)I"⟩, 6), (⟨"RopeTreaty$Throat", "part", "(I)I"⟩, 6), (⟨"RopeTreatyModel", "error", "(I)I"⟩, 21), (⟨"RopeTreatyModel", "lets", "(III)V"⟩, 21), (⟨"RopeTreatyModel", "isJumper", "(I)Z"⟩, 21), (⟨"RopeTreatyModel", "of", "(II)I"⟩, 21), (⟨"RopeTreatyModel", "costsOf", "(I)I"⟩, 21), (⟨"RopeTreatyModel", "takesOf", "(I)I"⟩, 21), (⟨"RopeTreatyModel", "word", "()I"⟩, 21), (⟨"RopeTreatyModel", "allIn", "()I"⟩, 21), (⟨"RopeTreatyModel", "isIn", "(I)Z"⟩, 21), (⟨"RopeTreatyModel", "gives", "(IIII)I"⟩, 21), (⟨"RopeTreatyModel", "works", "(I)I"⟩, 21), (⟨"RopeTreatyModel", "becomes", "(II)I"⟩, 21)]
theorem lw_r2 : ∀ q ∈ lw_privs_2, lw_okq q := List.forall_mem_cons.mpr ⟨lw_p16, List.forall_mem_cons.mpr ⟨lw_p17, List.forall_mem_cons.mpr ⟨lw_p18, List.forall_mem_cons.mpr ⟨lw_p19, List.forall_mem_cons.mpr ⟨lw_p20, List.forall_mem_cons.mpr ⟨lw_p21, List.forall_mem_cons.mpr ⟨lw_p22, List.forall_mem_cons.mpr ⟨lw_p23, List.forall_mem_cons.mpr ⟨lw_p24, List.forall_mem_cons.mpr ⟨lw_p25, List.forall_mem_cons.mpr ⟨lw_p26, List.forall_mem_cons.mpr ⟨lw_p27, List.forall_mem_cons.mpr ⟨lw_p28, List.forall_mem_cons.mpr ⟨lw_p29, List.forall_mem_cons.mpr ⟨lw_p30, List.forall_mem_cons.mpr ⟨lw_p31, fun _ h => absurd h List.not_mem_nil⟩⟩⟩⟩⟩⟩⟩⟩⟩⟩⟩⟩⟩⟩⟩⟩
theorem lw_p32 : lw_okq (⟨"RopeTreatyModel", "doesTurn", "()Z"⟩, 21) := ⟨⟨by decide +kernel, by decide +kernel⟩, List.mem_of_getElem? (i := 702) (by decide +kernel), List.mem_of_getElem? (i := 859) (by decide +kernel), List.mem_of_getElem? (i := 860) (by decide +kernel)⟩
theorem lw_p33 : lw_okq (⟨"RopeTreatyModel", "likesOf", "(II)I"⟩, 21) := ⟨⟨by decide +kernel, by decide +kernel⟩, List.mem_of_getElem? (i := 702) (by decide +kernel), List.mem_of_getElem? (i := 883) (by decide +kernel), List.mem_of_getElem? (i := 884) (by decide +kernel)⟩
theorem lw_p34 : lw_okq (⟨"RopeTreatyModel", "leansOf", "(II)I"⟩, 21) := ⟨⟨by decide +kernel, by decide +kernel⟩, List.mem_of_getElem? (i := 702) (by decide +kernel), List.mem_of_getElem? (i := 887) (by decide +kernel), List.mem_of_getElem? (i := 888) (by decide +kernel)⟩
theorem lw_p35 : lw_okq (⟨"RopeTreatyModel", "mayTalk", "(I)Z"⟩, 21) := ⟨⟨by decide +kernel, by decide +kernel⟩, List.mem_of_getElem? (i := 702) (by decide +kernel), List.mem_of_getElem? (i := 895) (by decide +kernel), List.mem_of_getElem? (i := 896) (by decide +kernel)⟩
theorem lw_p36 : lw_okq (⟨"RopeTreatyModel", "talks", "(I)Z"⟩, 21) := ⟨⟨by decide +kernel, by decide +kernel⟩, List.mem_of_getElem? (i := 702) (by decide +kernel), List.mem_of_getElem? (i := 899) (by decide +kernel), List.mem_of_getElem? (i := 900) (by decide +kernel)⟩
theorem lw_p37 : lw_okq (⟨"RopeTreatyModel", "isTaken", "(I)Z"⟩, 21) := ⟨⟨by decide +kernel, by decide +kernel⟩, List.mem_of_getElem? (i := 702) (by decide +kernel), List.mem_of_getElem? (i := 903) (by decide +kernel), List.mem_of_getElem? (i := 904) (by decide +kernel)⟩
theorem lw_p38 : lw_okq (⟨"RopeTreatyModel", "doesTake", "(II)Z"⟩, 21) := ⟨⟨by decide +kernel, by decide +kernel⟩, List.mem_of_getElem? (i := 702) (by decide +kernel), List.mem_of_getElem? (i := 907) (by decide +kernel), List.mem_of_getElem? (i := 908) (by decide +kernel)⟩
theorem lw_p39 : lw_okq (⟨"RopeTreatyModel", "any", "()V"⟩, 21) := ⟨⟨by decide +kernel, by decide +kernel⟩, List.mem_of_getElem? (i := 702) (by decide +kernel), List.mem_of_getElem? (i := 920) (by decide +kernel), List.mem_of_getElem? (i := 921) (by decide +kernel)⟩
theorem lw_p40 : lw_okq (⟨"RopeTreatyModel", "all", "()V"⟩, 21) := ⟨⟨by decide +kernel, by decide +kernel⟩, List.mem_of_getElem? (i := 702) (by decide +kernel), List.mem_of_getElem? (i := 924) (by decide +kernel), List.mem_of_getElem? (i := 925) (by decide +kernel)⟩
theorem lw_p41 : lw_okq (⟨"RopeTreatyModel", "compares", "()V"⟩, 21) := ⟨⟨by decide +kernel, by decide +kernel⟩, List.mem_of_getElem? (i := 702) (by decide +kernel), List.mem_of_getElem? (i := 928) (by decide +kernel), List.mem_of_getElem? (i := 929) (by decide +kernel)⟩
theorem lw_p42 : lw_okq (⟨"RopeTreatyModel", "sum", "()V"⟩, 21) := ⟨⟨by decide +kernel, by decide +kernel⟩, List.mem_of_getElem? (i := 702) (by decide +kernel), List.mem_of_getElem? (i := 932) (by decide +kernel), List.mem_of_getElem? (i := 933) (by decide +kernel)⟩
theorem lw_p43 : lw_okq (⟨"RopeTreatyModel", "times", "()V"⟩, 21) := ⟨⟨by decide +kernel, by decide +kernel⟩, List.mem_of_getElem? (i := 702) (by decide +kernel), List.mem_of_getElem? (i := 936) (by decide +kernel), List.mem_of_getElem? (i := 937) (by decide +kernel)⟩
theorem lw_p44 : lw_okq (⟨"RopeTreatyModel", "one", "()V"⟩, 21) := ⟨⟨by decide +kernel, by decide +kernel⟩, List.mem_of_getElem? (i := 702) (by decide +kernel), List.mem_of_getElem? (i := 940) (by decide +kernel), List.mem_of_getElem? (i := 941) (by decide +kernel)⟩
theorem lw_p45 : lw_okq (⟨"RopeTreatyModel", "look", "()I"⟩, 21) := ⟨⟨by decide +kernel, by decide +kernel⟩, List.mem_of_getElem? (i := 702) (by decide +kernel), List.mem_of_getElem? (i := 944) (by decide +kernel), List.mem_of_getElem? (i := 945) (by decide +kernel)⟩
theorem lw_p46 : lw_okq (⟨"RopeTreatyModel", "nameOf", "(I)I"⟩, 21) := ⟨⟨by decide +kernel, by decide +kernel⟩, List.mem_of_getElem? (i := 702) (by decide +kernel), List.mem_of_getElem? (i := 948) (by decide +kernel), List.mem_of_getElem? (i := 949) (by decide +kernel)⟩
theorem lw_p47 : lw_okq (⟨"RopeTreatyModel", "lays", "(II)V"⟩, 21) := ⟨⟨by decide +kernel, by decide +kernel⟩, List.mem_of_getElem? (i := 702) (by decide +kernel), List.mem_of_getElem? (i := 952) (by decide +kernel), List.mem_of_getElem? (i := 953) (by decide +kernel)⟩
def lw_privs_3 : List (MethodName × Nat) := [(⟨"RopeTreatyModel", "doesTurn", "()Z"⟩, 21), (⟨"RopeTreatyModel", "likesOf", "(II)I"⟩, 21), (⟨"RopeTreatyModel", "leansOf", "(II)I"⟩, 21), (⟨"RopeTreatyModel", "mayTalk", "(I)Z"⟩, 21), (⟨"RopeTreatyModel", "talks", "(I)Z"⟩, 21), (⟨"RopeTreatyModel", "isTaken", "(I)Z"⟩, 21), (⟨"RopeTreatyModel", "doesTake", "(II)Z"⟩, 21), (⟨"RopeTreatyModel", "any", "()V"⟩, 21), (⟨"RopeTreatyModel", "all", "()V"⟩, 21), (⟨"RopeTreatyModel", "compares", "()V"⟩, 21), (⟨"RopeTreatyModel", "sum", "()V"⟩, 21), (⟨"RopeTreatyModel", "times", "()V"⟩, 21), (⟨"RopeTreatyModel", "one", "()V"⟩, 21), (⟨"RopeTreatyModel", "look", "()I"⟩, 21), (⟨"RopeTreatyModel", "nameOf", "(I)I"⟩, 21), (⟨"RopeTreatyModel", "lays", "(II)V"⟩, 21)]
theorem lw_r3 : ∀ q ∈ lw_privs_3, lw_okq q := List.forall_mem_cons.mpr ⟨lw_p32, List.forall_mem_cons.mpr ⟨lw_p33, List.forall_mem_cons.mpr ⟨lw_p34, List.forall_mem_cons.mpr ⟨lw_p35, List.forall_mem_cons.mpr ⟨lw_p36, List.forall_mem_cons.mpr ⟨lw_p37, List.forall_mem_cons.mpr ⟨lw_p38, List.forall_mem_cons.mpr ⟨lw_p39, List.forall_mem_cons.mpr ⟨lw_p40, List.forall_mem_cons.mpr ⟨lw_p41, List.forall_mem_cons.mpr ⟨lw_p42, List.forall_mem_cons.mpr ⟨lw_p43, List.forall_mem_cons.mpr ⟨lw_p44, List.forall_mem_cons.mpr ⟨lw_p45, List.forall_mem_cons.mpr ⟨lw_p46, List.forall_mem_cons.mpr ⟨lw_p47, fun _ h => absurd h List.not_mem_nil⟩⟩⟩⟩⟩⟩⟩⟩⟩⟩⟩⟩⟩⟩⟩⟩
theorem lw_p48 : lw_okq (⟨"RopeTreatyModel", "opens", "(I)V"⟩, 21) := ⟨⟨by decide +kernel, by decide +kernel⟩, List.mem_of_getElem? (i := 702) (by decide +kernel), List.mem_of_getElem? (i := 956) (by decide +kernel), List.mem_of_getElem? (i := 957) (by decide +kernel)⟩
theorem lw_p49 : lw_okq (⟨"RopeTreatyModel", "number", "()V"⟩, 21) := ⟨⟨by decide +kernel, by decide +kernel⟩, List.mem_of_getElem? (i := 702) (by decide +kernel), List.mem_of_getElem? (i := 960) (by decide +kernel), List.mem_of_getElem? (i := 961) (by decide +kernel)⟩
theorem lw_p50 : lw_okq (⟨"RopeTreatyModel", "goes", "()I"⟩, 21) := ⟨⟨by decide +kernel, by decide +kernel⟩, List.mem_of_getElem? (i := 702) (by decide +kernel), List.mem_of_getElem? (i := 977) (by decide +kernel), List.mem_of_getElem? (i := 978) (by decide +kernel)⟩
theorem lw_p51 : lw_okq (⟨"RopeTreatyModel", "misses", "(I)Z"⟩, 21) := ⟨⟨by decide +kernel, by decide +kernel⟩, List.mem_of_getElem? (i := 702) (by decide +kernel), List.mem_of_getElem? (i := 981) (by decide +kernel), List.mem_of_getElem? (i := 982) (by decide +kernel)⟩
theorem lw_p52 : lw_okq (⟨"RopeTreatyModel", "drawn", "()Z"⟩, 21) := ⟨⟨by decide +kernel, by decide +kernel⟩, List.mem_of_getElem? (i := 702) (by decide +kernel), List.mem_of_getElem? (i := 989) (by decide +kernel), List.mem_of_getElem? (i := 990) (by decide +kernel)⟩
theorem lw_p53 : lw_okq (⟨"RopeTreatyModel", "draw", "()I"⟩, 21) := ⟨⟨by decide +kernel, by decide +kernel⟩, List.mem_of_getElem? (i := 702) (by decide +kernel), List.mem_of_getElem? (i := 993) (by decide +kernel), List.mem_of_getElem? (i := 994) (by decide +kernel)⟩
theorem lw_p54 : lw_okq (⟨"RopeTreatyModel", "thinks", "()V"⟩, 21) := ⟨⟨by decide +kernel, by decide +kernel⟩, List.mem_of_getElem? (i := 702) (by decide +kernel), List.mem_of_getElem? (i := 1006) (by decide +kernel), List.mem_of_getElem? (i := 1007) (by decide +kernel)⟩
theorem lw_p55 : lw_okq (⟨"RopeTreatyModel", "goesFor", "(I)V"⟩, 21) := ⟨⟨by decide +kernel, by decide +kernel⟩, List.mem_of_getElem? (i := 702) (by decide +kernel), List.mem_of_getElem? (i := 1013) (by decide +kernel), List.mem_of_getElem? (i := 1014) (by decide +kernel)⟩
theorem lw_p56 : lw_okq (⟨"RopeTreatyModel", "putsBack", "()V"⟩, 21) := ⟨⟨by decide +kernel, by decide +kernel⟩, List.mem_of_getElem? (i := 702) (by decide +kernel), List.mem_of_getElem? (i := 1017) (by decide +kernel), List.mem_of_getElem? (i := 1018) (by decide +kernel)⟩
theorem lw_p57 : lw_okq (⟨"RopeTreatyModel", "leastLiking", "(I)I"⟩, 21) := ⟨⟨by decide +kernel, by decide +kernel⟩, List.mem_of_getElem? (i := 702) (by decide +kernel), List.mem_of_getElem? (i := 1034) (by decide +kernel), List.mem_of_getElem? (i := 1035) (by decide +kernel)⟩
theorem lw_p58 : lw_okq (⟨"RopeTreatyModel", "balksOf", "(I)I"⟩, 21) := ⟨⟨by decide +kernel, by decide +kernel⟩, List.mem_of_getElem? (i := 702) (by decide +kernel), List.mem_of_getElem? (i := 1042) (by decide +kernel), List.mem_of_getElem? (i := 1043) (by decide +kernel)⟩
theorem lw_p59 : lw_okq (⟨"RopeTreatyModel", "whoAlone", "(I)I"⟩, 21) := ⟨⟨by decide +kernel, by decide +kernel⟩, List.mem_of_getElem? (i := 702) (by decide +kernel), List.mem_of_getElem? (i := 1046) (by decide +kernel), List.mem_of_getElem? (i := 1047) (by decide +kernel)⟩
theorem lw_p60 : lw_okq (⟨"RopeTreatyModel", "notThere", "(I)I"⟩, 21) := ⟨⟨by decide +kernel, by decide +kernel⟩, List.mem_of_getElem? (i := 702) (by decide +kernel), List.mem_of_getElem? (i := 1066) (by decide +kernel), List.mem_of_getElem? (i := 1067) (by decide +kernel)⟩
theorem lw_p61 : lw_okq (⟨"RopeTreatyModel", "isSo", "(I)Z"⟩, 21) := ⟨⟨by decide +kernel, by decide +kernel⟩, List.mem_of_getElem? (i := 702) (by decide +kernel), List.mem_of_getElem? (i := 1073) (by decide +kernel), List.mem_of_getElem? (i := 1074) (by decide +kernel)⟩
theorem lw_p62 : lw_okq (⟨"RopeTreatyModel", "sings", "(II)I"⟩, 21) := ⟨⟨by decide +kernel, by decide +kernel⟩, List.mem_of_getElem? (i := 702) (by decide +kernel), List.mem_of_getElem? (i := 1081) (by decide +kernel), List.mem_of_getElem? (i := 1082) (by decide +kernel)⟩
theorem lw_p63 : lw_okq (⟨"RopeTreatyModel", "masterSings", "(II)I"⟩, 21) := ⟨⟨by decide +kernel, by decide +kernel⟩, List.mem_of_getElem? (i := 702) (by decide +kernel), List.mem_of_getElem? (i := 1085) (by decide +kernel), List.mem_of_getElem? (i := 1086) (by decide +kernel)⟩
def lw_privs_4 : List (MethodName × Nat) := [(⟨"RopeTreatyModel", "opens", "(I)V"⟩, 21), (⟨"RopeTreatyModel", "number", "()V"⟩, 21), (⟨"RopeTreatyModel", "goes", "()I"⟩, 21), (⟨"RopeTreatyModel", "misses", "(I)Z"⟩, 21), (⟨"RopeTreatyModel", "drawn", "()Z"⟩, 21), (⟨"RopeTreatyModel", "draw", "()I"⟩, 21), (⟨"RopeTreatyModel", "thinks", "()V"⟩, 21), (⟨"RopeTreatyModel", "goesFor", "(I)V"⟩, 21), (⟨"RopeTreatyModel", "putsBack", "()V"⟩, 21), (⟨"RopeTreatyModel", "leastLiking", "(I)I"⟩, 21), (⟨"RopeTreatyModel", "balksOf", "(I)I"⟩, 21), (⟨"RopeTreatyModel", "whoAlone", "(I)I"⟩, 21), (⟨"RopeTreatyModel", "notThere", "(I)I"⟩, 21), (⟨"RopeTreatyModel", "isSo", "(I)Z"⟩, 21), (⟨"RopeTreatyModel", "sings", "(II)I"⟩, 21), (⟨"RopeTreatyModel", "masterSings", "(II)I"⟩, 21)]
theorem lw_r4 : ∀ q ∈ lw_privs_4, lw_okq q := List.forall_mem_cons.mpr ⟨lw_p48, List.forall_mem_cons.mpr ⟨lw_p49, List.forall_mem_cons.mpr ⟨lw_p50, List.forall_mem_cons.mpr ⟨lw_p51, List.forall_mem_cons.mpr ⟨lw_p52, List.forall_mem_cons.mpr ⟨lw_p53, List.forall_mem_cons.mpr ⟨lw_p54, List.forall_mem_cons.mpr ⟨lw_p55, List.forall_mem_cons.mpr ⟨lw_p56, List.forall_mem_cons.mpr ⟨lw_p57, List.forall_mem_cons.mpr ⟨lw_p58, List.forall_mem_cons.mpr ⟨lw_p59, List.forall_mem_cons.mpr ⟨lw_p60, List.forall_mem_cons.mpr ⟨lw_p61, List.forall_mem_cons.mpr ⟨lw_p62, List.forall_mem_cons.mpr ⟨lw_p63, fun _ h => absurd h List.not_mem_nil⟩⟩⟩⟩⟩⟩⟩⟩⟩⟩⟩⟩⟩⟩⟩⟩
theorem lw_p64 : lw_okq (⟨"RopeTreatyModel", "begins", "(I)V"⟩, 21) := ⟨⟨by decide +kernel, by decide +kernel⟩, List.mem_of_getElem? (i := 702) (by decide +kernel), List.mem_of_getElem? (i := 1089) (by decide +kernel), List.mem_of_getElem? (i := 1090) (by decide +kernel)⟩
theorem lw_p65 : lw_okq (⟨"RopeTreatyModel", "plainSings", "(II)I"⟩, 21) := ⟨⟨by decide +kernel, by decide +kernel⟩, List.mem_of_getElem? (i := 702) (by decide +kernel), List.mem_of_getElem? (i := 1093) (by decide +kernel), List.mem_of_getElem? (i := 1094) (by decide +kernel)⟩
theorem lw_p66 : lw_okq (⟨"RopeTreatyModel", "jumps", "(II)I"⟩, 21) := ⟨⟨by decide +kernel, by decide +kernel⟩, List.mem_of_getElem? (i := 702) (by decide +kernel), List.mem_of_getElem? (i := 1097) (by decide +kernel), List.mem_of_getElem? (i := 1098) (by decide +kernel)⟩
theorem lw_p67 : lw_okq (⟨"RopeTreatyModel", "conJumps", "(II)I"⟩, 21) := ⟨⟨by decide +kernel, by decide +kernel⟩, List.mem_of_getElem? (i := 702) (by decide +kernel), List.mem_of_getElem? (i := 1101) (by decide +kernel), List.mem_of_getElem? (i := 1102) (by decide +kernel)⟩
theorem lw_p68 : lw_okq (⟨"RopeTreatyModel", "plainJumps", "(II)I"⟩, 21) := ⟨⟨by decide +kernel, by decide +kernel⟩, List.mem_of_getElem? (i := 702) (by decide +kernel), List.mem_of_getElem? (i := 1105) (by decide +kernel), List.mem_of_getElem? (i := 1106) (by decide +kernel)⟩
theorem lw_p69 : lw_okq (⟨"RopeTreatyModel", "claps", "(II)I"⟩, 21) := ⟨⟨by decide +kernel, by decide +kernel⟩, List.mem_of_getElem? (i := 702) (by decide +kernel), List.mem_of_getElem? (i := 1109) (by decide +kernel), List.mem_of_getElem? (i := 1110) (by decide +kernel)⟩
theorem lw_p70 : lw_okq (⟨"RopeTreatyModel", "plainClaps", "(II)I"⟩, 21) := ⟨⟨by decide +kernel, by decide +kernel⟩, List.mem_of_getElem? (i := 702) (by decide +kernel), List.mem_of_getElem? (i := 1113) (by decide +kernel), List.mem_of_getElem? (i := 1114) (by decide +kernel)⟩
theorem lw_p71 : lw_okq (⟨"RopeTreatyModel", "partsBy", "(II)I"⟩, 21) := ⟨⟨by decide +kernel, by decide +kernel⟩, List.mem_of_getElem? (i := 702) (by decide +kernel), List.mem_of_getElem? (i := 1117) (by decide +kernel), List.mem_of_getElem? (i := 1118) (by decide +kernel)⟩
theorem lw_p72 : lw_okq (⟨"RopeTreatyModel", "plainParts", "(II)I"⟩, 21) := ⟨⟨by decide +kernel, by decide +kernel⟩, List.mem_of_getElem? (i := 702) (by decide +kernel), List.mem_of_getElem? (i := 1121) (by decide +kernel), List.mem_of_getElem? (i := 1122) (by decide +kernel)⟩
theorem lw_p73 : lw_okq (⟨"RopeTreatyModel", "notMoved", "(IIIII)I"⟩, 21) := ⟨⟨by decide +kernel, by decide +kernel⟩, List.mem_of_getElem? (i := 702) (by decide +kernel), List.mem_of_getElem? (i := 1142) (by decide +kernel), List.mem_of_getElem? (i := 1143) (by decide +kernel)⟩
def lw_privs_5 : List (MethodName × Nat) := [(⟨"RopeTreatyModel", "begins", "(I)V"⟩, 21), (⟨"RopeTreatyModel", "plainSings", "(II)I"⟩, 21), (⟨"RopeTreatyModel", "jumps", "(II)I"⟩, 21), (⟨"RopeTreatyModel", "conJumps", "(II)I"⟩, 21), (⟨"RopeTreatyModel", "plainJumps", "(II)I"⟩, 21), (⟨"RopeTreatyModel", "claps", "(II)I"⟩, 21), (⟨"RopeTreatyModel", "plainClaps", "(II)I"⟩, 21), (⟨"RopeTreatyModel", "partsBy", "(II)I"⟩, 21), (⟨"RopeTreatyModel", "plainParts", "(II)I"⟩, 21), (⟨"RopeTreatyModel", "notMoved", "(IIIII)I"⟩, 21)]
theorem lw_r5 : ∀ q ∈ lw_privs_5, lw_okq q := List.forall_mem_cons.mpr ⟨lw_p64, List.forall_mem_cons.mpr ⟨lw_p65, List.forall_mem_cons.mpr ⟨lw_p66, List.forall_mem_cons.mpr ⟨lw_p67, List.forall_mem_cons.mpr ⟨lw_p68, List.forall_mem_cons.mpr ⟨lw_p69, List.forall_mem_cons.mpr ⟨lw_p70, List.forall_mem_cons.mpr ⟨lw_p71, List.forall_mem_cons.mpr ⟨lw_p72, List.forall_mem_cons.mpr ⟨lw_p73, fun _ h => absurd h List.not_mem_nil⟩⟩⟩⟩⟩⟩⟩⟩⟩⟩
def lw_privs : List (MethodName × Nat) := lw_privs_1 ++ (lw_privs_2 ++ (lw_privs_3 ++ (lw_privs_4 ++ (lw_privs_5))))
def lw_tbl : List Cond := k2_sels lw_privs ++ tables_1
theorem lw_privs_ok : ∀ q ∈ lw_privs, lw_okq q := by
  show ∀ q ∈ lw_privs_1 ++ (lw_privs_2 ++ (lw_privs_3 ++ (lw_privs_4 ++ (lw_privs_5)))), lw_okq q
  exact List.forall_mem_append.mpr ⟨lw_r1, List.forall_mem_append.mpr ⟨lw_r2, List.forall_mem_append.mpr ⟨lw_r3, List.forall_mem_append.mpr ⟨lw_r4, lw_r5⟩⟩⟩⟩
end
section
def RX0 : String := "RopeTreaty$Reader"
def TX0 : u_T := fun k => match k with
  | 0 => ("RopeTreaty$Reader", "code", "[I", true)
  | 1 => ("RopeTreaty$Reader", "codes", "I", false)
  | 2 => ("RopeTreaty$Reader", "bytes", "[I", true)
  | 3 => ("RopeTreaty$Reader", "length", "I", false)
  | 4 => ("RopeTreaty$Reader", "place", "I", false)
  | 5 => ("RopeTreaty$Reader", "use", "I", false)
  | _ => ("RopeTreaty$Reader", "failed", "Z", false)
def tyX0 : Nat → FieldType := fun k => match k with
  | 0 => .array .int
  | 1 => .int
  | 2 => .array .int
  | 3 => .int
  | 4 => .int
  | 5 => .int
  | _ => .boolean
abbrev wsX00 : List Cond := u_ws RX0 TX0 7
theorem nmX0 : ∀ a, a < 7 → ∀ b, b < 7 → a ≠ b → (TX0 a).2.1 ≠ (TX0 b).2.1 := by decide +kernel
theorem tyX0_ok : ∀ k, k < 7 → parseFieldDescriptor (TX0 k).2.2.1 = some (tyX0 k) := by decide +kernel
abbrev cX0_init : ByteArray := prog_2_method_1_code
def yX0_init : MethodName := ⟨RX0, "<init>", "()V"⟩
abbrev cX0_read : ByteArray := prog_2_method_2_code
def yX0_read : MethodName := ⟨RX0, "read", "(LRopeTreaty$Tape;I)I"⟩
abbrev cX0_readOr : ByteArray := prog_2_method_3_code
def yX0_readOr : MethodName := ⟨RX0, "readOr", "(I)V"⟩
abbrev cX0_readAnd : ByteArray := prog_2_method_4_code
def yX0_readAnd : MethodName := ⟨RX0, "readAnd", "(I)V"⟩
abbrev cX0_readLikeness : ByteArray := prog_2_method_5_code
def yX0_readLikeness : MethodName := ⟨RX0, "readLikeness", "(I)V"⟩
abbrev cX0_readSum : ByteArray := prog_2_method_6_code
def yX0_readSum : MethodName := ⟨RX0, "readSum", "(I)V"⟩
abbrev cX0_readProduct : ByteArray := prog_2_method_7_code
def yX0_readProduct : MethodName := ⟨RX0, "readProduct", "(I)V"⟩
abbrev cX0_readPart : ByteArray := prog_2_method_8_code
def yX0_readPart : MethodName := ⟨RX0, "readPart", "(I)V"⟩
abbrev cX0_readNumber : ByteArray := prog_2_method_9_code
def yX0_readNumber : MethodName := ⟨RX0, "readNumber", "()V"⟩
abbrev cX0_close : ByteArray := prog_2_method_10_code
def yX0_close : MethodName := ⟨RX0, "close", "()V"⟩
abbrev cX0_nextName : ByteArray := prog_2_method_11_code
def yX0_nextName : MethodName := ⟨RX0, "nextName", "()I"⟩
abbrev cX0_isDigit : ByteArray := prog_2_method_12_code
def yX0_isDigit : MethodName := ⟨RX0, "isDigit", "()Z"⟩
abbrev cX0_isNext : ByteArray := prog_2_method_13_code
def yX0_isNext : MethodName := ⟨RX0, "isNext", "(C)Z"⟩
abbrev cX0_write : ByteArray := prog_2_method_14_code
def yX0_write : MethodName := ⟨RX0, "write", "(I)V"⟩
def RX1 : String := "RopeTreaty$Rope"
def TX1 : u_T := fun k => match k with
  | 0 => ("RopeTreaty$Rope", "texts", "[LRopeTreaty$Text;", true)
  | 1 => ("RopeTreaty$Rope", "kind", "[I", true)
  | 2 => ("RopeTreaty$Rope", "mark", "[I", true)
  | 3 => ("RopeTreaty$Rope", "breath", "[I", true)
  | 4 => ("RopeTreaty$Rope", "side", "[I", true)
  | 5 => ("RopeTreaty$Rope", "in", "[I", true)
  | 6 => ("RopeTreaty$Rope", "arm", "[I", true)
  | 7 => ("RopeTreaty$Rope", "price", "[I", true)
  | 8 => ("RopeTreaty$Rope", "alone", "[I", true)
  | 9 => ("RopeTreaty$Rope", "jumpers", "I", false)
  | 10 => ("RopeTreaty$Rope", "beat", "I", false)
  | 11 => ("RopeTreaty$Rope", "treaty", "I", false)
  | 12 => ("RopeTreaty$Rope", "bar", "I", false)
  | 13 => ("RopeTreaty$Rope", "misses", "I", false)
  | _ => ("RopeTreaty$Rope", "z", "I", false)
def tyX1 : Nat → FieldType := fun k => match k with
  | 0 => .array (.object "RopeTreaty$Text")
  | 1 => .array .int
  | 2 => .array .int
  | 3 => .array .int
  | 4 => .array .int
  | 5 => .array .int
  | 6 => .array .int
  | 7 => .array .int
  | 8 => .array .int
  | 9 => .int
  | 10 => .int
  | 11 => .int
  | 12 => .int
  | 13 => .int
  | _ => .int
abbrev wsX10 : List Cond := u_ws RX1 TX1 15
theorem nmX1 : ∀ a, a < 15 → ∀ b, b < 15 → a ≠ b → (TX1 a).2.1 ≠ (TX1 b).2.1 := by decide +kernel
theorem tyX1_ok : ∀ k, k < 15 → parseFieldDescriptor (TX1 k).2.2.1 = some (tyX1 k) := by decide +kernel
abbrev cX1_init : ByteArray := prog_3_method_1_code
def yX1_init : MethodName := ⟨RX1, "<init>", "([LRopeTreaty$Text;)V"⟩
abbrev cX1_copy : ByteArray := prog_3_method_2_code
def yX1_copy : MethodName := ⟨RX1, "copy", "(LRopeTreaty$Rope;)V"⟩
abbrev cX1_has : ByteArray := prog_3_method_3_code
def yX1_has : MethodName := ⟨RX1, "has", "(I)Z"⟩
abbrev cX1_add : ByteArray := prog_3_method_4_code
def yX1_add : MethodName := ⟨RX1, "add", "(III)I"⟩
abbrev cX1_setKindAndMark : ByteArray := prog_3_method_5_code
def yX1_setKindAndMark : MethodName := ⟨RX1, "setKindAndMark", "(II)V"⟩
abbrev cX1_word : ByteArray := prog_3_method_6_code
def yX1_word : MethodName := ⟨RX1, "word", "()I"⟩
abbrev cX1_turns : ByteArray := prog_3_method_7_code
def yX1_turns : MethodName := ⟨RX1, "turns", "()Z"⟩
abbrev cX1_mayTalk : ByteArray := prog_3_method_8_code
def yX1_mayTalk : MethodName := ⟨RX1, "mayTalk", "()Z"⟩
abbrev cX1_howManyIn : ByteArray := prog_3_method_9_code
def yX1_howManyIn : MethodName := ⟨RX1, "howManyIn", "()I"⟩
abbrev cX1_setIn : ByteArray := prog_3_method_10_code
def yX1_setIn : MethodName := ⟨RX1, "setIn", "()I"⟩
abbrev cX1_takes : ByteArray := prog_3_method_11_code
def yX1_takes : MethodName := ⟨RX1, "takes", "(I)I"⟩
abbrev cX1_leans : ByteArray := prog_3_method_12_code
def yX1_leans : MethodName := ⟨RX1, "leans", "(II)I"⟩
abbrev cX1_costs : ByteArray := prog_3_method_13_code
def yX1_costs : MethodName := ⟨RX1, "costs", "(I)I"⟩
abbrev cX1_likes : ByteArray := prog_3_method_14_code
def yX1_likes : MethodName := ⟨RX1, "likes", "(II)I"⟩
abbrev cX1_isTaken : ByteArray := prog_3_method_15_code
def yX1_isTaken : MethodName := ⟨RX1, "isTaken", "(I)Z"⟩
abbrev cX1_leastLiking : ByteArray := prog_3_method_16_code
def yX1_leastLiking : MethodName := ⟨RX1, "leastLiking", "(I)I"⟩
abbrev cX1_whoBalks : ByteArray := prog_3_method_17_code
def yX1_whoBalks : MethodName := ⟨RX1, "whoBalks", "()I"⟩
abbrev cX1_onlyAgainst : ByteArray := prog_3_method_18_code
def yX1_onlyAgainst : MethodName := ⟨RX1, "onlyAgainst", "(I)I"⟩
abbrev cX1_pass : ByteArray := prog_3_method_19_code
def yX1_pass : MethodName := ⟨RX1, "pass", "()I"⟩
abbrev cX1_skip : ByteArray := prog_3_method_20_code
def yX1_skip : MethodName := ⟨RX1, "skip", "(I)I"⟩
abbrev cX1_passByDraws : ByteArray := prog_3_method_21_code
def yX1_passByDraws : MethodName := ⟨RX1, "passByDraws", "()I"⟩
abbrev cX1_draw : ByteArray := prog_3_method_22_code
def yX1_draw : MethodName := ⟨RX1, "draw", "()I"⟩
abbrev cX1_breathsRight : ByteArray := prog_3_method_23_code
def yX1_breathsRight : MethodName := ⟨RX1, "breathsRight", "(LRopeTreaty$Row;)I"⟩
abbrev cX1_costsRight : ByteArray := prog_3_method_24_code
def yX1_costsRight : MethodName := ⟨RX1, "costsRight", "(LRopeTreaty$Row;)I"⟩
abbrev cX1_takeBreaths : ByteArray := prog_3_method_25_code
def yX1_takeBreaths : MethodName := ⟨RX1, "takeBreaths", "(LRopeTreaty$Row;)I"⟩
def RX2 : String := "RopeTreaty$Row"
def TX2 : u_T := fun k => match k with
  | 0 => ("RopeTreaty$Row", "numbers", "[I", true)
  | 1 => ("RopeTreaty$Row", "bits", "I", false)
  | _ => ("RopeTreaty$Row", "length", "I", false)
def tyX2 : Nat → FieldType := fun k => match k with
  | 0 => .array .int
  | 1 => .int
  | _ => .int
abbrev wsX20 : List Cond := u_ws RX2 TX2 3
theorem nmX2 : ∀ a, a < 3 → ∀ b, b < 3 → a ≠ b → (TX2 a).2.1 ≠ (TX2 b).2.1 := by decide +kernel
theorem tyX2_ok : ∀ k, k < 3 → parseFieldDescriptor (TX2 k).2.2.1 = some (tyX2 k) := by decide +kernel
abbrev cX2_init : ByteArray := prog_4_method_1_code
def yX2_init : MethodName := ⟨RX2, "<init>", "()V"⟩
abbrev cX2_isMissing : ByteArray := prog_4_method_2_code
def yX2_isMissing : MethodName := ⟨RX2, "isMissing", "()Z"⟩
abbrev cX2_begin : ByteArray := prog_4_method_3_code
def yX2_begin : MethodName := ⟨RX2, "begin", "(II)V"⟩
abbrev cX2_lowest : ByteArray := prog_4_method_4_code
def yX2_lowest : MethodName := ⟨RX2, "lowest", "(I)I"⟩
abbrev cX2_holds : ByteArray := prog_4_method_5_code
def yX2_holds : MethodName := ⟨RX2, "holds", "(II)Z"⟩
abbrev cX2_copy : ByteArray := prog_4_method_6_code
def yX2_copy : MethodName := ⟨RX2, "copy", "(LRopeTreaty$Row;)V"⟩
def RX3 : String := "RopeTreaty$Tape"
def TX3 : u_T := fun k => match k with
  | 0 => ("RopeTreaty$Tape", "bytes", "[I", true)
  | _ => ("RopeTreaty$Tape", "length", "I", false)
def tyX3 : Nat → FieldType := fun k => match k with
  | 0 => .array .int
  | _ => .int
abbrev wsX30 : List Cond := u_ws RX3 TX3 2
theorem nmX3 : ∀ a, a < 2 → ∀ b, b < 2 → a ≠ b → (TX3 a).2.1 ≠ (TX3 b).2.1 := by decide +kernel
theorem tyX3_ok : ∀ k, k < 2 → parseFieldDescriptor (TX3 k).2.2.1 = some (tyX3 k) := by decide +kernel
abbrev cX3_init : ByteArray := prog_5_method_1_code
def yX3_init : MethodName := ⟨RX3, "<init>", "()V"⟩
abbrev cX3_add : ByteArray := prog_5_method_2_code
def yX3_add : MethodName := ⟨RX3, "add", "(JI)V"⟩
abbrev cX3_copy : ByteArray := prog_5_method_3_code
def yX3_copy : MethodName := ⟨RX3, "copy", "(LRopeTreaty$Tape;)V"⟩
def RX4 : String := "RopeTreaty$Text"
def TX4 : u_T := fun k => match k with
  | 0 => ("RopeTreaty$Text", "most", "I", true)
  | 1 => ("RopeTreaty$Text", "code", "[I", true)
  | 2 => ("RopeTreaty$Text", "stack", "[I", true)
  | _ => ("RopeTreaty$Text", "length", "I", false)
def tyX4 : Nat → FieldType := fun k => match k with
  | 0 => .int
  | 1 => .array .int
  | 2 => .array .int
  | _ => .int
abbrev wsX40 : List Cond := u_ws RX4 TX4 4
theorem nmX4 : ∀ a, a < 4 → ∀ b, b < 4 → a ≠ b → (TX4 a).2.1 ≠ (TX4 b).2.1 := by decide +kernel
theorem tyX4_ok : ∀ k, k < 4 → parseFieldDescriptor (TX4 k).2.2.1 = some (tyX4 k) := by decide +kernel
abbrev cX4_init : ByteArray := prog_6_method_1_code
def yX4_init : MethodName := ⟨RX4, "<init>", "(I)V"⟩
abbrev cX4_isTold : ByteArray := prog_6_method_2_code
def yX4_isTold : MethodName := ⟨RX4, "isTold", "()Z"⟩
abbrev cX4_learn : ByteArray := prog_6_method_3_code
def yX4_learn : MethodName := ⟨RX4, "learn", "([II)V"⟩
abbrev cX4_copy : ByteArray := prog_6_method_4_code
def yX4_copy : MethodName := ⟨RX4, "copy", "(LRopeTreaty$Text;)V"⟩
abbrev cX4_gives : ByteArray := prog_6_method_5_code
def yX4_gives : MethodName := ⟨RX4, "gives", "(III)I"⟩
abbrev cX4_work : ByteArray := prog_6_method_6_code
def yX4_work : MethodName := ⟨RX4, "work", "(III)I"⟩
abbrev cX4_meaning : ByteArray := prog_6_method_7_code
def yX4_meaning : MethodName := ⟨RX4, "meaning", "(IIII)I"⟩
abbrev cX4_join : ByteArray := prog_6_method_8_code
def yX4_join : MethodName := ⟨RX4, "join", "(III)I"⟩
def RX5 : String := "RopeTreaty$Throat"
def TX5 : u_T := fun k => match k with
  | 0 => ("RopeTreaty$Throat", "trace", "[I", true)
  | 1 => ("RopeTreaty$Throat", "begun", "I", false)
  | 2 => ("RopeTreaty$Throat", "parted", "Z", false)
  | 3 => ("RopeTreaty$Throat", "kind", "I", false)
  | 4 => ("RopeTreaty$Throat", "number", "I", false)
  | _ => ("RopeTreaty$Throat", "mark", "I", false)
def tyX5 : Nat → FieldType := fun k => match k with
  | 0 => .array .int
  | 1 => .int
  | 2 => .boolean
  | 3 => .int
  | 4 => .int
  | _ => .int
abbrev wsX50 : List Cond := u_ws RX5 TX5 6
theorem nmX5 : ∀ a, a < 6 → ∀ b, b < 6 → a ≠ b → (TX5 a).2.1 ≠ (TX5 b).2.1 := by decide +kernel
theorem tyX5_ok : ∀ k, k < 6 → parseFieldDescriptor (TX5 k).2.2.1 = some (tyX5 k) := by decide +kernel
abbrev cX5_init : ByteArray := prog_7_method_1_code
def yX5_init : MethodName := ⟨RX5, "<init>", "()V"⟩
abbrev cX5_speak : ByteArray := prog_7_method_2_code
def yX5_speak : MethodName := ⟨RX5, "speak", "(IIIII)I"⟩
abbrev cX5_say : ByteArray := prog_7_method_3_code
def yX5_say : MethodName := ⟨RX5, "say", "(IIII)I"⟩
abbrev cX5_bodyOf : ByteArray := prog_7_method_4_code
def yX5_bodyOf : MethodName := ⟨RX5, "bodyOf", "(II)I"⟩
abbrev cX5_work : ByteArray := prog_7_method_5_code
def yX5_work : MethodName := ⟨RX5, "work", "(III)I"⟩
abbrev cX5_part : ByteArray := prog_7_method_6_code
def yX5_part : MethodName := ⟨RX5, "part", "(I)I"⟩
def RX6 : String := "RopeTreaty"
def TX6 : u_T := fun k => match k with
  | 0 => ("RopeTreaty", "texts", "[LRopeTreaty$Text;", true)
  | 1 => ("RopeTreaty", "keptTexts", "[LRopeTreaty$Text;", true)
  | 2 => ("RopeTreaty", "now", "LRopeTreaty$Rope;", true)
  | 3 => ("RopeTreaty", "thought", "LRopeTreaty$Rope;", true)
  | 4 => ("RopeTreaty", "kept", "LRopeTreaty$Rope;", true)
  | 5 => ("RopeTreaty", "tape", "LRopeTreaty$Tape;", true)
  | 6 => ("RopeTreaty", "keptTape", "LRopeTreaty$Tape;", true)
  | 7 => ("RopeTreaty", "reader", "LRopeTreaty$Reader;", true)
  | 8 => ("RopeTreaty", "waiting", "LRopeTreaty$Row;", true)
  | 9 => ("RopeTreaty", "keptWaiting", "LRopeTreaty$Row;", true)
  | 10 => ("RopeTreaty", "sheets", "[LRopeTreaty$Row;", true)
  | 11 => ("RopeTreaty", "throat", "LRopeTreaty$Throat;", true)
  | 12 => ("RopeTreaty", "errors", "[I", true)
  | _ => ("RopeTreaty", "images", "I", false)
def tyX6 : Nat → FieldType := fun k => match k with
  | 0 => .array (.object "RopeTreaty$Text")
  | 1 => .array (.object "RopeTreaty$Text")
  | 2 => .object "RopeTreaty$Rope"
  | 3 => .object "RopeTreaty$Rope"
  | 4 => .object "RopeTreaty$Rope"
  | 5 => .object "RopeTreaty$Tape"
  | 6 => .object "RopeTreaty$Tape"
  | 7 => .object "RopeTreaty$Reader"
  | 8 => .object "RopeTreaty$Row"
  | 9 => .object "RopeTreaty$Row"
  | 10 => .array (.object "RopeTreaty$Row")
  | 11 => .object "RopeTreaty$Throat"
  | 12 => .array .int
  | _ => .int
abbrev wsX60 : List Cond := u_ws RX6 TX6 14
theorem nmX6 : ∀ a, a < 14 → ∀ b, b < 14 → a ≠ b → (TX6 a).2.1 ≠ (TX6 b).2.1 := by decide +kernel
theorem tyX6_ok : ∀ k, k < 14 → parseFieldDescriptor (TX6 k).2.2.1 = some (tyX6 k) := by decide +kernel
abbrev cX6_init : ByteArray := prog_1_method_1_code
def yX6_init : MethodName := ⟨RX6, "<init>", "()V"⟩
abbrev cX6_newTexts : ByteArray := prog_1_method_2_code
def yX6_newTexts : MethodName := ⟨RX6, "newTexts", "()[LRopeTreaty$Text;"⟩
abbrev cX6_jumper : ByteArray := prog_1_method_3_code
def yX6_jumper : MethodName := ⟨RX6, "jumper", "(III)I"⟩
abbrev cX6_jumperIs : ByteArray := prog_1_method_4_code
def yX6_jumperIs : MethodName := ⟨RX6, "jumperIs", "(II)I"⟩
abbrev cX6_become : ByteArray := prog_1_method_5_code
def yX6_become : MethodName := ⟨RX6, "become", "(II)I"⟩
abbrev cX6_as : ByteArray := prog_1_method_6_code
def yX6_as : MethodName := ⟨RX6, "as", "(II)I"⟩
abbrev cX6_jump : ByteArray := prog_1_method_7_code
def yX6_jump : MethodName := ⟨RX6, "jump", "(II)I"⟩
abbrev cX6_rest : ByteArray := prog_1_method_8_code
def yX6_rest : MethodName := ⟨RX6, "rest", "(II)I"⟩
abbrev cX6_spell : ByteArray := prog_1_method_9_code
def yX6_spell : MethodName := ⟨RX6, "spell", "(II)I"⟩
abbrev cX6_bar : ByteArray := prog_1_method_10_code
def yX6_bar : MethodName := ⟨RX6, "bar", "(I)I"⟩
abbrev cX6_liking : ByteArray := prog_1_method_11_code
def yX6_liking : MethodName := ⟨RX6, "liking", "(II)I"⟩
abbrev cX6_talk : ByteArray := prog_1_method_12_code
def yX6_talk : MethodName := ⟨RX6, "talk", "(II)I"⟩
abbrev cX6_feed : ByteArray := prog_1_method_13_code
def yX6_feed : MethodName := ⟨RX6, "feed", "(JI)I"⟩
abbrev cX6_text : ByteArray := prog_1_method_14_code
def yX6_text : MethodName := ⟨RX6, "text", "(I)I"⟩
abbrev cX6_untell : ByteArray := prog_1_method_15_code
def yX6_untell : MethodName := ⟨RX6, "untell", "(I)I"⟩
abbrev cX6_law : ByteArray := prog_1_method_16_code
def yX6_law : MethodName := ⟨RX6, "law", "(IIII)I"⟩
abbrev cX6_beats : ByteArray := prog_1_method_17_code
def yX6_beats : MethodName := ⟨RX6, "beats", "(I)I"⟩
abbrev cX6_loose : ByteArray := prog_1_method_18_code
def yX6_loose : MethodName := ⟨RX6, "loose", "(I)I"⟩
abbrev cX6_seed : ByteArray := prog_1_method_19_code
def yX6_seed : MethodName := ⟨RX6, "seed", "(I)I"⟩
abbrev cX6_then : ByteArray := prog_1_method_20_code
def yX6_then : MethodName := ⟨RX6, "then", "(III)I"⟩
abbrev cX6_lasts : ByteArray := prog_1_method_21_code
def yX6_lasts : MethodName := ⟨RX6, "lasts", "(I)I"⟩
abbrev cX6_agree : ByteArray := prog_1_method_22_code
def yX6_agree : MethodName := ⟨RX6, "agree", "(I)I"⟩
abbrev cX6_fairest : ByteArray := prog_1_method_23_code
def yX6_fairest : MethodName := ⟨RX6, "fairest", "(I)I"⟩
abbrev cX6_balks : ByteArray := prog_1_method_24_code
def yX6_balks : MethodName := ⟨RX6, "balks", "(I)I"⟩
abbrev cX6_soon : ByteArray := prog_1_method_25_code
def yX6_soon : MethodName := ⟨RX6, "soon", "(I)I"⟩
abbrev cX6_meets : ByteArray := prog_1_method_26_code
def yX6_meets : MethodName := ⟨RX6, "meets", "(IIII)I"⟩
abbrev cX6_odds : ByteArray := prog_1_method_27_code
def yX6_odds : MethodName := ⟨RX6, "odds", "(II)I"⟩
abbrev cX6_fits : ByteArray := prog_1_method_28_code
def yX6_fits : MethodName := ⟨RX6, "fits", "(I)I"⟩
abbrev cX6_voice : ByteArray := prog_1_method_29_code
def yX6_voice : MethodName := ⟨RX6, "voice", "(III)I"⟩
abbrev cX6_body : ByteArray := prog_1_method_30_code
def yX6_body : MethodName := ⟨RX6, "body", "(I)I"⟩
abbrev cX6_sheet : ByteArray := prog_1_method_31_code
def yX6_sheet : MethodName := ⟨RX6, "sheet", "(III)I"⟩
abbrev cX6_put : ByteArray := prog_1_method_32_code
def yX6_put : MethodName := ⟨RX6, "put", "(III)I"⟩
abbrev cX6_move : ByteArray := prog_1_method_33_code
def yX6_move : MethodName := ⟨RX6, "move", "(IIIII)I"⟩
abbrev cX6_breaths : ByteArray := prog_1_method_34_code
def yX6_breaths : MethodName := ⟨RX6, "breaths", "(I)I"⟩
abbrev cX6_judge : ByteArray := prog_1_method_35_code
def yX6_judge : MethodName := ⟨RX6, "judge", "(I)I"⟩
abbrev cX6_image : ByteArray := prog_1_method_36_code
def yX6_image : MethodName := ⟨RX6, "image", "()I"⟩
abbrev cX6_restore : ByteArray := prog_1_method_37_code
def yX6_restore : MethodName := ⟨RX6, "restore", "()I"⟩
abbrev cX6_tell : ByteArray := prog_1_method_38_code
def yX6_tell : MethodName := ⟨RX6, "tell", "(I)I"⟩
abbrev cX6_check : ByteArray := prog_1_method_39_code
def yX6_check : MethodName := ⟨RX6, "check", "()I"⟩
abbrev cX6_count : ByteArray := prog_1_method_40_code
def yX6_count : MethodName := ⟨RX6, "count", "(I)I"⟩
abbrev cX6_told : ByteArray := prog_1_method_41_code
def yX6_told : MethodName := ⟨RX6, "told", "(I)I"⟩
abbrev cX6_error : ByteArray := prog_1_method_42_code
def yX6_error : MethodName := ⟨RX6, "error", "(I)I"⟩
abbrev cX6_isWithin : ByteArray := prog_1_method_43_code
def yX6_isWithin : MethodName := ⟨RX6, "isWithin", "(II)Z"⟩
abbrev cX6_isKindAndMark : ByteArray := prog_1_method_44_code
def yX6_isKindAndMark : MethodName := ⟨RX6, "isKindAndMark", "(I)Z"⟩
abbrev cX6_isTreaty : ByteArray := prog_1_method_45_code
def yX6_isTreaty : MethodName := ⟨RX6, "isTreaty", "(I)Z"⟩
abbrev cX6_isUse : ByteArray := prog_1_method_46_code
def yX6_isUse : MethodName := ⟨RX6, "isUse", "(I)Z"⟩
abbrev cX6_isSheet : ByteArray := prog_1_method_47_code
def yX6_isSheet : MethodName := ⟨RX6, "isSheet", "(I)Z"⟩
abbrev cX6_isBits : ByteArray := prog_1_method_48_code
def yX6_isBits : MethodName := ⟨RX6, "isBits", "(I)Z"⟩
abbrev cX6_isRest : ByteArray := prog_1_method_49_code
def yX6_isRest : MethodName := ⟨RX6, "isRest", "(II)Z"⟩
abbrev cX6_isUnder : ByteArray := prog_1_method_50_code
def yX6_isUnder : MethodName := ⟨RX6, "isUnder", "(II)Z"⟩
def RX7 : String := "RopeTreatyModel"
def TX7 : u_T := fun k => match k with
  | 0 => ("RopeTreatyModel", "row", "[I", true)
  | 1 => ("RopeTreatyModel", "kept", "[I", true)
  | 2 => ("RopeTreatyModel", "before", "[I", true)
  | 3 => ("RopeTreatyModel", "images", "I", false)
  | 4 => ("RopeTreatyModel", "errors", "[I", true)
  | 5 => ("RopeTreatyModel", "bitsOf", "[I", true)
  | 6 => ("RopeTreatyModel", "sizeOf", "[I", true)
  | 7 => ("RopeTreatyModel", "cells", "[I", true)
  | 8 => ("RopeTreatyModel", "act", "[I", true)
  | 9 => ("RopeTreatyModel", "with", "[I", true)
  | 10 => ("RopeTreatyModel", "facts", "[I", true)
  | 11 => ("RopeTreatyModel", "pile", "[I", true)
  | 12 => ("RopeTreatyModel", "laid", "I", false)
  | 13 => ("RopeTreatyModel", "here", "I", false)
  | 14 => ("RopeTreatyModel", "opened", "I", false)
  | 15 => ("RopeTreatyModel", "bad", "Z", false)
  | 16 => ("RopeTreatyModel", "using", "I", false)
  | 17 => ("RopeTreatyModel", "costs", "[I", true)
  | 18 => ("RopeTreatyModel", "trace", "[I", true)
  | 19 => ("RopeTreatyModel", "traced", "I", false)
  | _ => ("RopeTreatyModel", "isParted", "Z", false)
def tyX7 : Nat → FieldType := fun k => match k with
  | 0 => .array .int
  | 1 => .array .int
  | 2 => .array .int
  | 3 => .int
  | 4 => .array .int
  | 5 => .array .int
  | 6 => .array .int
  | 7 => .array .int
  | 8 => .array .int
  | 9 => .array .int
  | 10 => .array .int
  | 11 => .array .int
  | 12 => .int
  | 13 => .int
  | 14 => .int
  | 15 => .boolean
  | 16 => .int
  | 17 => .array .int
  | 18 => .array .int
  | 19 => .int
  | _ => .boolean
abbrev wsX70 : List Cond := u_ws RX7 TX7 21
theorem nmX7 : ∀ a, a < 21 → ∀ b, b < 21 → a ≠ b → (TX7 a).2.1 ≠ (TX7 b).2.1 := by decide +kernel
theorem tyX7_ok : ∀ k, k < 21 → parseFieldDescriptor (TX7 k).2.2.1 = some (tyX7 k) := by decide +kernel
abbrev cX7_init : ByteArray := prog_9_method_1_code
def yX7_init : MethodName := ⟨RX7, "<init>", "()V"⟩
abbrev cX7_error : ByteArray := prog_9_method_2_code
def yX7_error : MethodName := ⟨RX7, "error", "(I)I"⟩
abbrev cX7_in : ByteArray := prog_9_method_3_code
def yX7_in : MethodName := ⟨RX7, "in", "(III)Z"⟩
abbrev cX7_held : ByteArray := prog_9_method_4_code
def yX7_held : MethodName := ⟨RX7, "held", "(III)I"⟩
abbrev cX7_copyAll : ByteArray := prog_9_method_5_code
def yX7_copyAll : MethodName := ⟨RX7, "copyAll", "([I[I)V"⟩
abbrev cX7_thinks : ByteArray := prog_9_method_6_code
def yX7_thinks : MethodName := ⟨RX7, "thinks", "()V"⟩
abbrev cX7_putsBack : ByteArray := prog_9_method_7_code
def yX7_putsBack : MethodName := ⟨RX7, "putsBack", "()V"⟩
abbrev cX7_bits : ByteArray := prog_9_method_8_code
def yX7_bits : MethodName := ⟨RX7, "bits", "(I)I"⟩
abbrev cX7_isJumper : ByteArray := prog_9_method_9_code
def yX7_isJumper : MethodName := ⟨RX7, "isJumper", "(I)Z"⟩
abbrev cX7_isTreaty : ByteArray := prog_9_method_10_code
def yX7_isTreaty : MethodName := ⟨RX7, "isTreaty", "(I)Z"⟩
abbrev cX7_becomes : ByteArray := prog_9_method_11_code
def yX7_becomes : MethodName := ⟨RX7, "becomes", "(II)I"⟩
abbrev cX7_of : ByteArray := prog_9_method_12_code
def yX7_of : MethodName := ⟨RX7, "of", "(II)I"⟩
abbrev cX7_lets : ByteArray := prog_9_method_13_code
def yX7_lets : MethodName := ⟨RX7, "lets", "(III)V"⟩
abbrev cX7_isIn : ByteArray := prog_9_method_14_code
def yX7_isIn : MethodName := ⟨RX7, "isIn", "(I)Z"⟩
abbrev cX7_allIn : ByteArray := prog_9_method_15_code
def yX7_allIn : MethodName := ⟨RX7, "allIn", "()I"⟩
abbrev cX7_word : ByteArray := prog_9_method_16_code
def yX7_word : MethodName := ⟨RX7, "word", "()I"⟩
abbrev cX7_doesTurn : ByteArray := prog_9_method_17_code
def yX7_doesTurn : MethodName := ⟨RX7, "doesTurn", "()Z"⟩
abbrev cX7_takesOf : ByteArray := prog_9_method_18_code
def yX7_takesOf : MethodName := ⟨RX7, "takesOf", "(I)I"⟩
abbrev cX7_costsOf : ByteArray := prog_9_method_19_code
def yX7_costsOf : MethodName := ⟨RX7, "costsOf", "(I)I"⟩
abbrev cX7_leansOf : ByteArray := prog_9_method_20_code
def yX7_leansOf : MethodName := ⟨RX7, "leansOf", "(II)I"⟩
abbrev cX7_likesOf : ByteArray := prog_9_method_21_code
def yX7_likesOf : MethodName := ⟨RX7, "likesOf", "(II)I"⟩
abbrev cX7_doesTake : ByteArray := prog_9_method_22_code
def yX7_doesTake : MethodName := ⟨RX7, "doesTake", "(II)Z"⟩
abbrev cX7_isTaken : ByteArray := prog_9_method_23_code
def yX7_isTaken : MethodName := ⟨RX7, "isTaken", "(I)Z"⟩
abbrev cX7_isKm : ByteArray := prog_9_method_24_code
def yX7_isKm : MethodName := ⟨RX7, "isKm", "(I)Z"⟩
abbrev cX7_jumper : ByteArray := prog_9_method_25_code
def yX7_jumper : MethodName := ⟨RX7, "jumper", "(III)I"⟩
abbrev cX7_jumperIs : ByteArray := prog_9_method_26_code
def yX7_jumperIs : MethodName := ⟨RX7, "jumperIs", "(II)I"⟩
abbrev cX7_become : ByteArray := prog_9_method_27_code
def yX7_become : MethodName := ⟨RX7, "become", "(II)I"⟩
abbrev cX7_as : ByteArray := prog_9_method_28_code
def yX7_as : MethodName := ⟨RX7, "as", "(II)I"⟩
abbrev cX7_jump : ByteArray := prog_9_method_29_code
def yX7_jump : MethodName := ⟨RX7, "jump", "(II)I"⟩
abbrev cX7_rest : ByteArray := prog_9_method_30_code
def yX7_rest : MethodName := ⟨RX7, "rest", "(II)I"⟩
abbrev cX7_spell : ByteArray := prog_9_method_31_code
def yX7_spell : MethodName := ⟨RX7, "spell", "(II)I"⟩
abbrev cX7_bar : ByteArray := prog_9_method_32_code
def yX7_bar : MethodName := ⟨RX7, "bar", "(I)I"⟩
abbrev cX7_liking : ByteArray := prog_9_method_33_code
def yX7_liking : MethodName := ⟨RX7, "liking", "(II)I"⟩
abbrev cX7_mayTalk : ByteArray := prog_9_method_34_code
def yX7_mayTalk : MethodName := ⟨RX7, "mayTalk", "(I)Z"⟩
abbrev cX7_talks : ByteArray := prog_9_method_35_code
def yX7_talks : MethodName := ⟨RX7, "talks", "(I)Z"⟩
abbrev cX7_talk : ByteArray := prog_9_method_36_code
def yX7_talk : MethodName := ⟨RX7, "talk", "(II)I"⟩
abbrev cX7_feed : ByteArray := prog_9_method_37_code
def yX7_feed : MethodName := ⟨RX7, "feed", "(JI)I"⟩
abbrev cX7_look : ByteArray := prog_9_method_38_code
def yX7_look : MethodName := ⟨RX7, "look", "()I"⟩
abbrev cX7_lays : ByteArray := prog_9_method_39_code
def yX7_lays : MethodName := ⟨RX7, "lays", "(II)V"⟩
abbrev cX7_nameOf : ByteArray := prog_9_method_40_code
def yX7_nameOf : MethodName := ⟨RX7, "nameOf", "(I)I"⟩
abbrev cX7_number : ByteArray := prog_9_method_41_code
def yX7_number : MethodName := ⟨RX7, "number", "()V"⟩
abbrev cX7_opens : ByteArray := prog_9_method_42_code
def yX7_opens : MethodName := ⟨RX7, "opens", "(I)V"⟩
abbrev cX7_one : ByteArray := prog_9_method_43_code
def yX7_one : MethodName := ⟨RX7, "one", "()V"⟩
abbrev cX7_times : ByteArray := prog_9_method_44_code
def yX7_times : MethodName := ⟨RX7, "times", "()V"⟩
abbrev cX7_sum : ByteArray := prog_9_method_45_code
def yX7_sum : MethodName := ⟨RX7, "sum", "()V"⟩
abbrev cX7_compares : ByteArray := prog_9_method_46_code
def yX7_compares : MethodName := ⟨RX7, "compares", "()V"⟩
abbrev cX7_all : ByteArray := prog_9_method_47_code
def yX7_all : MethodName := ⟨RX7, "all", "()V"⟩
abbrev cX7_any : ByteArray := prog_9_method_48_code
def yX7_any : MethodName := ⟨RX7, "any", "()V"⟩
abbrev cX7_text : ByteArray := prog_9_method_49_code
def yX7_text : MethodName := ⟨RX7, "text", "(I)I"⟩
abbrev cX7_untell : ByteArray := prog_9_method_50_code
def yX7_untell : MethodName := ⟨RX7, "untell", "(I)I"⟩
abbrev cX7_twoOf : ByteArray := prog_9_method_51_code
def yX7_twoOf : MethodName := ⟨RX7, "twoOf", "(III)I"⟩
abbrev cX7_works : ByteArray := prog_9_method_52_code
def yX7_works : MethodName := ⟨RX7, "works", "(I)I"⟩
abbrev cX7_gives : ByteArray := prog_9_method_53_code
def yX7_gives : MethodName := ⟨RX7, "gives", "(IIII)I"⟩
abbrev cX7_law : ByteArray := prog_9_method_54_code
def yX7_law : MethodName := ⟨RX7, "law", "(IIII)I"⟩
abbrev cX7_misses : ByteArray := prog_9_method_55_code
def yX7_misses : MethodName := ⟨RX7, "misses", "(I)Z"⟩
abbrev cX7_goes : ByteArray := prog_9_method_56_code
def yX7_goes : MethodName := ⟨RX7, "goes", "()I"⟩
abbrev cX7_beats : ByteArray := prog_9_method_57_code
def yX7_beats : MethodName := ⟨RX7, "beats", "(I)I"⟩
abbrev cX7_draw : ByteArray := prog_9_method_58_code
def yX7_draw : MethodName := ⟨RX7, "draw", "()I"⟩
abbrev cX7_drawn : ByteArray := prog_9_method_59_code
def yX7_drawn : MethodName := ⟨RX7, "drawn", "()Z"⟩
abbrev cX7_loose : ByteArray := prog_9_method_60_code
def yX7_loose : MethodName := ⟨RX7, "loose", "(I)I"⟩
abbrev cX7_seed : ByteArray := prog_9_method_61_code
def yX7_seed : MethodName := ⟨RX7, "seed", "(I)I"⟩
abbrev cX7_goesFor : ByteArray := prog_9_method_62_code
def yX7_goesFor : MethodName := ⟨RX7, "goesFor", "(I)V"⟩
abbrev cX7_then : ByteArray := prog_9_method_63_code
def yX7_then : MethodName := ⟨RX7, "then", "(III)I"⟩
abbrev cX7_lasts : ByteArray := prog_9_method_64_code
def yX7_lasts : MethodName := ⟨RX7, "lasts", "(I)I"⟩
abbrev cX7_agree : ByteArray := prog_9_method_65_code
def yX7_agree : MethodName := ⟨RX7, "agree", "(I)I"⟩
abbrev cX7_leastLiking : ByteArray := prog_9_method_66_code
def yX7_leastLiking : MethodName := ⟨RX7, "leastLiking", "(I)I"⟩
abbrev cX7_fairest : ByteArray := prog_9_method_67_code
def yX7_fairest : MethodName := ⟨RX7, "fairest", "(I)I"⟩
abbrev cX7_whoAlone : ByteArray := prog_9_method_68_code
def yX7_whoAlone : MethodName := ⟨RX7, "whoAlone", "(I)I"⟩
abbrev cX7_balksOf : ByteArray := prog_9_method_69_code
def yX7_balksOf : MethodName := ⟨RX7, "balksOf", "(I)I"⟩
abbrev cX7_balks : ByteArray := prog_9_method_70_code
def yX7_balks : MethodName := ⟨RX7, "balks", "(I)I"⟩
abbrev cX7_soon : ByteArray := prog_9_method_71_code
def yX7_soon : MethodName := ⟨RX7, "soon", "(I)I"⟩
abbrev cX7_meets : ByteArray := prog_9_method_72_code
def yX7_meets : MethodName := ⟨RX7, "meets", "(IIII)I"⟩
abbrev cX7_odds : ByteArray := prog_9_method_73_code
def yX7_odds : MethodName := ⟨RX7, "odds", "(II)I"⟩
abbrev cX7_isSo : ByteArray := prog_9_method_74_code
def yX7_isSo : MethodName := ⟨RX7, "isSo", "(I)Z"⟩
abbrev cX7_fits : ByteArray := prog_9_method_75_code
def yX7_fits : MethodName := ⟨RX7, "fits", "(I)I"⟩
abbrev cX7_begins : ByteArray := prog_9_method_76_code
def yX7_begins : MethodName := ⟨RX7, "begins", "(I)V"⟩
abbrev cX7_plainSings : ByteArray := prog_9_method_77_code
def yX7_plainSings : MethodName := ⟨RX7, "plainSings", "(II)I"⟩
abbrev cX7_masterSings : ByteArray := prog_9_method_78_code
def yX7_masterSings : MethodName := ⟨RX7, "masterSings", "(II)I"⟩
abbrev cX7_sings : ByteArray := prog_9_method_79_code
def yX7_sings : MethodName := ⟨RX7, "sings", "(II)I"⟩
abbrev cX7_plainJumps : ByteArray := prog_9_method_80_code
def yX7_plainJumps : MethodName := ⟨RX7, "plainJumps", "(II)I"⟩
abbrev cX7_conJumps : ByteArray := prog_9_method_81_code
def yX7_conJumps : MethodName := ⟨RX7, "conJumps", "(II)I"⟩
abbrev cX7_jumps : ByteArray := prog_9_method_82_code
def yX7_jumps : MethodName := ⟨RX7, "jumps", "(II)I"⟩
abbrev cX7_plainClaps : ByteArray := prog_9_method_83_code
def yX7_plainClaps : MethodName := ⟨RX7, "plainClaps", "(II)I"⟩
abbrev cX7_claps : ByteArray := prog_9_method_84_code
def yX7_claps : MethodName := ⟨RX7, "claps", "(II)I"⟩
abbrev cX7_plainParts : ByteArray := prog_9_method_85_code
def yX7_plainParts : MethodName := ⟨RX7, "plainParts", "(II)I"⟩
abbrev cX7_partsBy : ByteArray := prog_9_method_86_code
def yX7_partsBy : MethodName := ⟨RX7, "partsBy", "(II)I"⟩
abbrev cX7_voice : ByteArray := prog_9_method_87_code
def yX7_voice : MethodName := ⟨RX7, "voice", "(III)I"⟩
abbrev cX7_body : ByteArray := prog_9_method_88_code
def yX7_body : MethodName := ⟨RX7, "body", "(I)I"⟩
abbrev cX7_isSheet : ByteArray := prog_9_method_89_code
def yX7_isSheet : MethodName := ⟨RX7, "isSheet", "(I)Z"⟩
abbrev cX7_sheet : ByteArray := prog_9_method_90_code
def yX7_sheet : MethodName := ⟨RX7, "sheet", "(III)I"⟩
abbrev cX7_notThere : ByteArray := prog_9_method_91_code
def yX7_notThere : MethodName := ⟨RX7, "notThere", "(I)I"⟩
abbrev cX7_put : ByteArray := prog_9_method_92_code
def yX7_put : MethodName := ⟨RX7, "put", "(III)I"⟩
abbrev cX7_notMoved : ByteArray := prog_9_method_93_code
def yX7_notMoved : MethodName := ⟨RX7, "notMoved", "(IIIII)I"⟩
abbrev cX7_move : ByteArray := prog_9_method_94_code
def yX7_move : MethodName := ⟨RX7, "move", "(IIIII)I"⟩
abbrev cX7_breaths : ByteArray := prog_9_method_95_code
def yX7_breaths : MethodName := ⟨RX7, "breaths", "(I)I"⟩
abbrev cX7_judge : ByteArray := prog_9_method_96_code
def yX7_judge : MethodName := ⟨RX7, "judge", "(I)I"⟩
abbrev cX7_image : ByteArray := prog_9_method_97_code
def yX7_image : MethodName := ⟨RX7, "image", "()I"⟩
abbrev cX7_restore : ByteArray := prog_9_method_98_code
def yX7_restore : MethodName := ⟨RX7, "restore", "()I"⟩
abbrev cX7_tell : ByteArray := prog_9_method_99_code
def yX7_tell : MethodName := ⟨RX7, "tell", "(I)I"⟩
abbrev cX7_check : ByteArray := prog_9_method_100_code
def yX7_check : MethodName := ⟨RX7, "check", "()I"⟩
abbrev cX7_count : ByteArray := prog_9_method_101_code
def yX7_count : MethodName := ⟨RX7, "count", "(I)I"⟩
abbrev cX7_told : ByteArray := prog_9_method_102_code
def yX7_told : MethodName := ⟨RX7, "told", "(I)I"⟩
def RL : String := "RopeTreatyLaw"
abbrev cL_law : ByteArray := code
def yL_law : MethodName := ⟨RL, "law", "([I)Z"⟩
abbrev vwCl : List vw_C := [(RX0, TX0, 7), (RX1, TX1, 15), (RX2, TX2, 3), (RX3, TX3, 2), (RX4, TX4, 4), (RX5, TX5, 6), (RX6, TX6, 14), (RX7, TX7, 21)]
end
section
/-! ===== the words that every method may ask, and the state of a module ===== -/
def tblG : List Cond := lw_tbl.filter goodWord
theorem wdG {i : Nat} {w : Cond} (h : lw_tbl[i]? = some w) (hg : goodWord w = true) : w ∈ tblG := List.mem_filter.mpr ⟨List.mem_of_getElem? h, hg⟩
theorem tblG_good : tblG.all goodWord = true := List.all_eq_true.mpr fun _ hw => (List.mem_filter.mp hw).2
theorem tblG_in {ws : List Cond} (h : ∀ w ∈ ws, w ∈ tblG) : GoodIn tblG ws := fun w hw => ⟨h w hw, good_of_word ((List.mem_filter.mp (h w hw)).2)⟩
theorem tblG_cons {big : List Cond} (h : ∀ w ∈ tblG, w ∈ big) : GoodIn big tblG := fun w hw => ⟨h w hw, good_of_word ((List.mem_filter.mp hw).2)⟩
abbrev St : Type := (Nat → Nat → Int32) × (Nat → Nat → Int32)
def sF (σ : St) (o k : Nat) (v : Int32) : St := (fun o' k' => if o' = o ∧ k' = k then v else σ.1 o' k', σ.2)
def sA (σ : St) (a i : Nat) (v : Int32) : St := (σ.1, fun a' i' => if a' = a ∧ i' = i then v else σ.2 a' i')
def sC (σ : St) (a1 i1 a2 i2 n : Nat) : St := (σ.1, fun a' i' => if a' = a2 then va_cpy (σ.2 a1) (σ.2 a2) i1 i2 n i' else σ.2 a' i')
abbrev ShE : Type := Nat ⊕ ((Nat × List Nat) ⊕ (Nat × List (Option Nat)))
def shV (ad : Nat → Nat) (σ : St) (o k : Nat) (f : Option Nat) : Value := match f with
  | none => .int (σ.1 o k)
  | some r => .ref (ad r)
def shF (ad : Nat → Nat) (σ : St) (o : Nat) (fs : List (Option Nat)) : List Value := fs.mapIdx (fun k f => shV ad σ o k f)
def shE (ad : Nat → Nat) (ca : Nat → ClassId) (σ : St) (o : Nat) (e : ShE) : va_E := match e with
  | .inl n => .inl (ca 0, n, .inl (σ.2 o))
  | .inr (.inl q) => .inl (ca q.1, q.2.length, .inr (.inr (.inr (.inr (fun i => (q.2[i]?).map ad)))))
  | .inr (.inr q) => .inr (q.1, shF ad σ o q.2)
def shW (sh : List ShE) (ad : Nat → Nat) (ca : Nat → ClassId) (σ : St) : va_W := sh.mapIdx (fun o e => (ad o, shE ad ca σ o e))
theorem shW_get {sh : List ShE} {ad : Nat → Nat} {ca : Nat → ClassId} {σ : St} {o : Nat} {e : ShE} (h : sh[o]? = some e) : (shW sh ad ca σ)[o]? = some (ad o, shE ad ca σ o e) := by
  unfold shW
  rw [List.getElem?_mapIdx, h]
  rfl
theorem shF_get {ad : Nat → Nat} {σ : St} {o k : Nat} {fs : List (Option Nat)} {f : Option Nat} (h : fs[k]? = some f) : (shF ad σ o fs)[k]? = some (shV ad σ o k f) := by
  unfold shF
  rw [List.getElem?_mapIdx, h]
  rfl
theorem shF_put {ad : Nat → Nat} {σ : St} {o k : Nat} {fs : List (Option Nat)} (h : fs[k]? = some none) (v : Int32) : (shF ad σ o fs).set k (.int v) = shF ad (sF σ o k v) o fs := by
  apply List.ext_getElem?
  intro i
  rw [List.getElem?_set]
  unfold shF
  rw [List.length_mapIdx, List.getElem?_mapIdx, List.getElem?_mapIdx]
  have hk : k < fs.length := (List.getElem?_eq_some_iff.mp h).1
  by_cases hi : k = i
  · subst hi
    rw [if_pos rfl, if_pos hk, h]
    simp [shV, sF]
  · rw [if_neg hi]
    cases hf : fs[i]? with
    | none => rfl
    | some f =>
      cases f with
      | none => simp [shV, sF, Ne.symm hi]
      | some r => rfl
theorem shE_F {ad : Nat → Nat} {ca : Nat → ClassId} {σ : St} {o o' k : Nat} {v : Int32} {e : ShE} (h : o' ≠ o) : shE ad ca (sF σ o k v) o' e = shE ad ca σ o' e := by
  rcases e with n | q | q
  · rfl
  · rfl
  · simp only [shE]
    congr 2
    unfold shF
    apply List.ext_getElem?
    intro i
    rw [List.getElem?_mapIdx, List.getElem?_mapIdx]
    cases hf : q.2[i]? with
    | none => rfl
    | some f =>
      cases f with
      | none => simp [shV, sF, h]
      | some r => rfl
theorem shW_put {sh : List ShE} {ad : Nat → Nat} {ca : Nat → ClassId} {σ : St} {o k ci : Nat} {fs : List (Option Nat)} (h : sh[o]? = some (.inr (.inr (ci, fs)))) (hf : fs[k]? = some none) (v : Int32) :
    (shW sh ad ca σ).set o (ad o, .inr (ci, (shF ad σ o fs).set k (.int v))) = shW sh ad ca (sF σ o k v) := by
  apply List.ext_getElem?
  intro i
  rw [List.getElem?_set]
  have hl : o < (shW sh ad ca σ).length := (List.getElem?_eq_some_iff.mp (shW_get h)).1
  by_cases hi : o = i
  · subst hi
    rw [if_pos rfl, if_pos hl, shW_get h, shF_put hf]
    rfl
  · rw [if_neg hi]
    unfold shW
    rw [List.getElem?_mapIdx, List.getElem?_mapIdx]
    cases hs : sh[i]? with
    | none => rfl
    | some e => simp only [Option.map_some]; rw [shE_F (Ne.symm hi)]
theorem shE_A {ad : Nat → Nat} {ca : Nat → ClassId} {σ σ' : St} {o' : Nat} {e : ShE} (h1 : σ'.1 = σ.1) (h2 : σ'.2 o' = σ.2 o') : shE ad ca σ' o' e = shE ad ca σ o' e := by
  rcases e with n | q | q
  · simp only [shE, h2]
  · rfl
  · simp only [shE]
    congr 2
    unfold shF
    congr 1
    funext k f
    cases f with
    | none => simp [shV, h1]
    | some r => rfl
theorem shW_row {sh : List ShE} {ad : Nat → Nat} {ca : Nat → ClassId} {σ σ' : St} {a n : Nat} {g : Nat → Int32} (h : sh[a]? = some (.inl n)) (h1 : σ'.1 = σ.1) (h2 : ∀ b, b ≠ a → σ'.2 b = σ.2 b) (hg : σ'.2 a = g) :
    (shW sh ad ca σ).set a (ad a, .inl (ca 0, n, .inl g)) = shW sh ad ca σ' := by
  apply List.ext_getElem?
  intro i
  rw [List.getElem?_set]
  have hl : a < (shW sh ad ca σ).length := (List.getElem?_eq_some_iff.mp (shW_get h)).1
  by_cases hi : a = i
  · subst hi
    rw [if_pos rfl, if_pos hl, shW_get h]
    simp only [shE, hg]
  · rw [if_neg hi]
    unfold shW
    rw [List.getElem?_mapIdx, List.getElem?_mapIdx]
    cases hs : sh[i]? with
    | none => rfl
    | some e => simp only [Option.map_some]; rw [shE_A h1 (h2 i (Ne.symm hi))]
theorem shW_ast {sh : List ShE} {ad : Nat → Nat} {ca : Nat → ClassId} {σ : St} {a n i : Nat} {v : Int32} (h : sh[a]? = some (.inl n)) :
    (shW sh ad ca σ).set a (ad a, .inl (ca 0, n, .inl (upd (σ.2 a) i v))) = shW sh ad ca (sA σ a i v) :=
  shW_row h rfl (fun b hb => by funext j; simp [sA, hb]) (by funext j; simp [sA, upd])
theorem shW_cpy {sh : List ShE} {ad : Nat → Nat} {ca : Nat → ClassId} {σ : St} {a b n i j k : Nat} (h : sh[b]? = some (.inl n)) :
    (shW sh ad ca σ).set b (ad b, .inl (ca 0, n, .inl (va_cpy (σ.2 a) (σ.2 b) i j k))) = shW sh ad ca (sC σ a i b j k) :=
  shW_row h rfl (fun c hc => by funext j; simp [sC, hc]) (by funext j; simp [sC])
/-- which cells are the module's own -/
def fA (sh : List ShE) (ad : Nat → Nat) : Nat → Prop := fun q => ∃ o, o < sh.length ∧ q = ad o
theorem shW_at {sh : List ShE} {ad : Nat → Nat} {ca : Nat → ClassId} {σ : St} {k : Nat} {q : Nat × va_E} (h : (shW sh ad ca σ)[k]? = some q) : k < sh.length ∧ q.1 = ad k := by
  unfold shW at h
  rw [List.getElem?_mapIdx] at h
  cases hs : sh[k]? with
  | none => rw [hs] at h; cases h
  | some e =>
    rw [hs] at h
    cases h
    exact ⟨(List.getElem?_eq_some_iff.mp hs).1, rfl⟩
def adI (sh : List ShE) (ad : Nat → Nat) : Prop := ∀ o o' : Nat, o < sh.length → o' < sh.length → ad o = ad o' → o = o'
theorem shW_D {sh : List ShE} {ad : Nat → Nat} {ca : Nat → ClassId} (σ : St) (h : adI sh ad) : va_D (fA sh ad) (shW sh ad ca σ) := by
  refine ⟨fun i j p q hp hq he => ?_, fun k q hq => ?_⟩
  · obtain ⟨h1, h2⟩ := shW_at hp
    obtain ⟨h3, h4⟩ := shW_at hq
    exact h i j h1 h3 (by rw [← h2, ← h4]; exact he)
  · obtain ⟨h1, h2⟩ := shW_at hq
    exact ⟨k, h1, h2⟩
end
section
/-! ===== what a module knows of the machine, and the two judgements ===== -/
def sttL : List (String × String × String × FieldType × List Int32) := [("RopeTreaty", "ABOVE", "[I", .int, [-1, 0, 0, 0, 1, 2, 0]), ("RopeTreaty$Throat", "BODIES", "[I", .int, [10, 11, 12, 13, 20, 0, 0, 21, 0, 30, 0, 0, 0, 0, 40, 0, 50, 0, 51, 0, 0, 60, 0, 0, 70, 71, 0, 0]), ("RopeTreaty$Reader", "NAMES", "[C", .char, [99, 98, 112, 108, 116, 115])]
def Stt (sh : List ShE) (ad : Nat → Nat) (U : State) : Prop := ∀ (k : Nat) (q : String × String × String × FieldType × List Int32), sttL[k]? = some q → va_Z q.1 q.2.1 q.2.2.1 (.ref (ad (900 + k))) (fA sh ad) U U.heap ∧ va_T q.2.2.2.1 (ad (900 + k)) q.2.2.2.2.length (fun j => .int (q.2.2.2.2.getD j 0)) (fA sh ad) U U.heap
theorem Stt.to {sh : List ShE} {ad : Nat → Nat} {u U : State} (hvm : u.vm.Alike U.vm) (hh : ∀ a : Nat, a < u.heap.size → ¬ fA sh ad a → U.heap[a]? = u.heap[a]?) (h : Stt sh ad u) : Stt sh ad U := fun k q hq => ⟨((h k q hq).1.kept hh).moved hvm, ((h k q hq).2.kept hh).moved hvm⟩
def nstM : List (String × Nat × MethodName × String) := [("RopeTreaty$Throat", 44, ⟨"RopeTreaty", "isWithin", "(II)Z"⟩, "RopeTreaty"), ("RopeTreaty$Rope", 145, ⟨"RopeTreaty", "isWithin", "(II)Z"⟩, "RopeTreaty")]
def Nst (U : State) : Prop := (∀ q ∈ nstM, va_Nw (.methodLinkNest q.1 q.2.1 q.2.2.1 q.2.2.2) U) ∧ va_Nw (.fieldLinkNest "RopeTreaty$Throat" 51 "RopeTreaty" "ABOVE" "[I" "RopeTreaty") U
theorem Nst.warm {s U : State} (hW : s.WarmedH U.vm) (h : Nst s) : Nst U := ⟨fun q hq => (h.1 q hq).warmM hW, h.2.warmF hW⟩
theorem Nst.same {s U : State} (e : s.vm = U.vm) (h : Nst s) : Nst U := ⟨fun q hq => (h.1 q hq).same rfl e, h.2.same rfl e⟩
def Tys (ca : Nat → ClassId) : List (ClassId × FieldType) := [(ca 0, .int), (ca 1, .object RX4), (ca 2, .object RX2)]
def Kx (sh : List ShE) (D : va_G) (ca : Nat → ClassId) (ad : Nat → Nat) (U : State) : Prop := va_K D vwCl (Tys ca) U ∧ adI sh ad ∧ Stt sh ad U ∧ Nst U
theorem Kx.warm {sh : List ShE} {D : va_G} {ca : Nat → ClassId} {ad : Nat → Nat} {s U : State} (h : Kx sh D ca ad s) (hW : s.WarmedH U.vm) (hh : ∀ a : Nat, a < s.heap.size → ¬ fA sh ad a → U.heap[a]? = s.heap[a]?) : Kx sh D ca ad U := ⟨va_K.moved hW.alike h.1, h.2.1, h.2.2.1.to hW.alike hh, h.2.2.2.warm hW⟩
theorem Kx.calling {sh : List ShE} {D : va_G} {ca : Nat → ClassId} {ad : Nat → Nat} {U : State} (h : Kx sh D ca ad U) (g : JFrame) (mk : MethodId) (a : Array Value) : Kx sh D ca ad (U.calling g mk a) := ⟨va_K.moved (u := U) (U := U.calling g mk a) (Vm.Alike.refl U.vm) h.1, h.2.1, h.2.2.1.to (u := U) (U := U.calling g mk a) (Vm.Alike.refl U.vm) (fun _ _ _ => rfl), h.2.2.2.same rfl⟩
abbrev Md : Type := MethodName × ByteArray × Nat × Option FieldType
def mws (md : Md) : List Cond := Cond.code md.1 md.2.1 md.2.2.1 md.2.2.2 :: tblG
def rmd (d : Nat) : Room := { frames := d, cells := 0, slots := 0, locals := 60 * d }
def cvv (ad : Nat → Nat) (v : Value) : Value := match v with
  | .ref k => .ref (ad k)
  | v => v
def cvq (ad : Nat → Nat) (q : Nat × Value) : Nat × Value := (q.1, cvv ad q.2)
def rvv (rt : Option FieldType) (r : Int32) : Option Value := match rt with
  | none => none
  | some _ => some (.int r)
def Pxx (sh : List ShE) (D : va_G) (ca : Nat → ClassId) (ad : Nat → Nat) (σ : St) (U : State) : Prop := va_P D vwCl (shW sh ad ca σ) U.heap ∧ Kx sh D ca ad U
def Qxx (rt : Option FieldType) (r : Int32) (σ' : St) (sh : List ShE) (D : va_G) (ca : Nat → ClassId) (ad : Nat → Nat) : Array Value → State → Outcome → State → Prop := fun _ st oc t => oc = .returned (rvv rt r) ∧ va_P D vwCl (shW sh ad ca σ') t.heap ∧ va_F (fA sh ad) st t
/-- what a method answers: at every room of d frames or more -/
def Spc (l : Launch) (sh : List ShE) (d : Nat) (md : Md) (args : List Value) (σ : St) (X : Option (Int32 × St)) : Prop :=
  ∀ (r : Int32) (σ' : St), X = some (r, σ') → ∀ d' : Nat, d ≤ d' → ∀ (D : va_G) (ca : Nat → ClassId) (ad : Nat → Nat), Met l md.1 (mws md) (rmd d') (va_Pc (args.map (cvv ad)) (Pxx sh D ca ad σ)) (Qxx md.2.2.2 r σ' sh D ca ad) 0 0 (fA sh ad)
def Cxx (sh : List ShE) (md : Md) (D : va_G) (ca : Nat → ClassId) (ad : Nat → Nat) (p : Program) (s : State) (m : MethodId) (args : Array Value) (meth : Method) (c : Code) : Prop :=
  p.tables.exec = Jvm.exec ∧ c.code = md.2.1 ∧ c.maxLocals = md.2.2.1 ∧ meth.sig.returnType = md.2.2.2 ∧ meth.locks = false ∧ s.vm.findClass md.1.cls = some m.cls ∧ (∀ w ∈ tblG, w.before args s = true) ∧ Kx sh D ca ad s
/-- what a method answers from a place within it on -/
def Ux (l : Launch) (sh : List ShE) (d : Nat) (md : Md) (pc : Nat) (L : List (Nat × Value)) (S : List Value) (σ : St) (X : Option (Int32 × St)) : Prop :=
  ∀ (r : Int32) (σ' : St), X = some (r, σ') → ∀ d' : Nat, d ≤ d' → ∀ (D : va_G) (ca : Nat → ClassId) (ad : Nat → Nat) (p : Program) (e : Env) (s : State) (m : MethodId) (args : Array Value) (below : List Frame) (meth : Method) (c : Code), Cxx sh md D ca ad p s m args meth c →
    ∀ (H : Heap) (locs : List Loc) (ls : Array Slot), va_P D vwCl (shW sh ad ca σ) H → va_S (fA sh ad) s.heap H locs → lv_has ls md.2.2.1 (L.map (cvq ad)) →
    W p l e (rmd d') s m args below meth c H locs 0 0 (MQ below (Qxx md.2.2.2 r σ' sh D ca ad) args s 0 0 (fA sh ad)) (F0 m pc ls (S.map (cvv ad)))
theorem cvv_cat (ad : Nat → Nat) (v : Value) : (cvv ad v).category = v.category := by cases v <;> rfl
theorem lg_sl_cv (ad : Nat → Nat) (vs : List Value) : (lg_sl (vs.map (cvv ad))).length = (lg_sl vs).length := by
  induction vs with
  | nil => rfl
  | cons v vs ih =>
    unfold lg_sl at ih ⊢
    rw [List.map_cons, List.flatMap_cons, List.flatMap_cons, List.length_append, List.length_append, ih, cvv_cat]
    split <;> rfl
theorem lv_args_cv (ad : Nat → Nat) (vs : List Value) : ∀ i : Nat, lv_args i (vs.map (cvv ad)) = (lv_args i vs).map (cvq ad) := by
  induction vs with
  | nil => intro i; rfl
  | cons v vs ih =>
    intro i
    rw [List.map_cons, lv_args, lv_args, List.map_cons, ih, cvv_cat]
    rfl
theorem Spc_of_Ux {l : Launch} {sh : List ShE} {d : Nat} {md : Md} {args : List Value} {σ : St} {X : Option (Int32 × St)} (L : List (Nat × Value)) (hcls : plainName md.1.cls = true) (hL : lv_args 0 args = L) (hn : (lg_sl args).length ≤ md.2.2.1) (h : Ux l sh d md 0 L [] σ X) : Spc l sh d md args σ X := by
  intro r σ' hX d' hd' D ca ad
  refine Met.ofW (cc := md.2.1) (maxL := md.2.2.1) (ret := md.2.2.2) hcls rfl ?_
  intro p e s m args' below meth c s₁ B hml hv
  obtain ⟨rfl, hP, hK⟩ := hv
  have hx := B.exec
  have hb := B.bytes
  have hr := B.returns
  have hts := atoms_spec (ws := mws md) B.pre
  have hown : s.vm.findClass md.1.cls = some m.cls := findClass_of_methodNamed B.named
  have hlocks := B.notSynchronized
  have hl := lv_entry (args.map (cvv ad)) (n := md.2.2.1) (by rw [lg_sl_cv]; exact hn)
  rw [lg_entry_eq]
  generalize (lg_sl (args.map (cvv ad)) ++ List.replicate (md.2.2.1 - (lg_sl (args.map (cvv ad))).length) Slot.unset).toArray = ls at hl ⊢
  rw [lv_args_cv, hL] at hl
  exact h r σ' hX d' hd' D ca ad p e s m _ below meth c ⟨hx, hb, hml, hr, hlocks, hown, fun w hw => hts w (List.mem_cons_of_mem _ hw), hK⟩ s.heap [] ls hP va_S.rf hl
theorem Spc.mono {l : Launch} {sh : List ShE} {d d1 : Nat} {md : Md} {args : List Value} {σ : St} {X : Option (Int32 × St)} (h : Spc l sh d md args σ X) (hd : d ≤ d1) : Spc l sh d1 md args σ X := fun r σ' hX d' hd' => h r σ' hX d' (Nat.le_trans hd hd')
/-! locals -/
def lvk (L : List (Nat × Value)) (i : Nat) : Option Value := match L with
  | [] => none
  | q :: L => if q.1 = i then some q.2 else lvk L i
def lst (L : List (Nat × Value)) (i : Nat) (v : Value) : List (Nat × Value) := (i, v) :: L.filter (fun q => !(q.1 == i) && !(q.1 + 1 == i && q.2.category == 2))
theorem lvk_at {L : List (Nat × Value)} {i : Nat} {v : Value} (h : lvk L i = some v) : ∃ k : Nat, L[k]? = some (i, v) := by
  induction L with
  | nil => cases h
  | cons q L ih =>
    unfold lvk at h
    split at h
    · rename_i e
      cases h
      exact ⟨0, by subst e; rfl⟩
    · obtain ⟨k, hk⟩ := ih h
      exact ⟨k + 1, hk⟩
theorem lvk_cv {L : List (Nat × Value)} {ad : Nat → Nat} {i : Nat} {v : Value} (h : lvk L i = some v) : ∃ k : Nat, (L.map (cvq ad))[k]? = some (i, cvv ad v) := by
  obtain ⟨k, hk⟩ := lvk_at h
  exact ⟨k, by rw [List.getElem?_map, hk]; rfl⟩
theorem lx_at {ls : Array Slot} {n : Nat} {L : List (Nat × Value)} {ad : Nat → Nat} {i : Nat} {v : Value} (hl : lv_has ls n (L.map (cvq ad))) (h : lvk L i = some v) : ls[i]? = some (.val (cvv ad v)) := by
  obtain ⟨k, hk⟩ := lvk_cv (ad := ad) h
  exact lv_at hl k hk
theorem lst_cv {L L' : List (Nat × Value)} {ad : Nat → Nat} {i : Nat} {v : Value} (h : lst L i v = L') : (i, cvv ad v) :: (L.map (cvq ad)).filter (fun q => !(q.1 == i) && !(q.1 + 1 == i && q.2.category == 2)) = L'.map (cvq ad) := by
  subst h
  unfold lst
  rw [List.map_cons, List.filter_map]
  congr 2
  congr 1
  funext q
  simp [cvq, cvv_cat]
/-! results -/
def grd (b : Bool) (X : Option (Int32 × St)) : Option (Int32 × St) := match b with
  | true => X
  | false => none
def bnd (x : Option (Int32 × St)) (K : Int32 → St → Option (Int32 × St)) : Option (Int32 × St) := match x with
  | none => none
  | some q => K q.1 q.2
def nam (x : Int32) (K : Int32 → Option (Int32 × St)) : Option (Int32 × St) := K x
def inb (i : Int32) (n : Nat) : Bool := decide (0 ≤ i.toInt ∧ i.toInt < n)
def isB (v : Int32) : Bool := decide (v = 0 ∨ v = 1)
def nz (v : Int32) : Bool := decide (¬ v = 0)
def cpb (sp dp n : Int32) (n0 n1 : Nat) : Bool := decide (0 ≤ sp.toInt ∧ 0 ≤ dp.toInt ∧ 0 ≤ n.toInt ∧ sp.toInt + n.toInt ≤ n0 ∧ dp.toInt + n.toInt ≤ n1)
theorem grd_some {b : Bool} {X : Option (Int32 × St)} {q : Int32 × St} (h : grd b X = some q) : b = true ∧ X = some q := by
  cases b with
  | true => exact ⟨rfl, h⟩
  | false => cases h
theorem bnd_some {x : Option (Int32 × St)} {K : Int32 → St → Option (Int32 × St)} {q : Int32 × St} (h : bnd x K = some q) : ∃ r1 σ1, x = some (r1, σ1) ∧ K r1 σ1 = some q := by
  cases x with
  | none => cases h
  | some y => exact ⟨y.1, y.2, rfl, h⟩
theorem inb_in {i : Int32} {n : Nat} (h : inb i n = true) : vp_in i n := vp_in_iff.mpr (of_decide_eq_true h)
theorem nz_ne {v : Int32} (h : nz v = true) : ¬ v = 0 := of_decide_eq_true h
theorem isB_n {v : Int32} (h : isB v = true) : narrow .boolean (.int v) = .int v ∧ fits .boolean (.int v) = true := by
  rcases of_decide_eq_true h with rfl | rfl
  · decide +kernel
  · decide +kernel
end
section
/-! ===== a row an instruction ===== -/
section Rows
variable {l : Launch} {sh : List ShE} {d : Nat} {md : Md} {pc : Nat} {L : List (Nat × Value)} {S : List Value} {σ : St} {X Y : Option (Int32 × St)}
theorem ux_none : Ux l sh d md pc L S σ none := fun r σ' h => by cases h
theorem ux_iconst {n : Int} (v : Int32) (hd : decode md.2.1 pc = .ok (.iconst n, 1)) (hv : Int32.ofInt n = v) (k : Ux l sh d md (pc + 1) L (.int v :: S) σ X) : Ux l sh d md pc L S σ X := by
  intro r σ' hX d' hd' D ca ad p e s m args below meth c C H locs ls hP hS hl
  exact lv_iconst C.1 C.2.1 hd hv (k r σ' hX d' hd' D ca ad p e s m args below meth c C H locs ls hP hS hl)
theorem ux_bipush {n : Int} (v : Int32) (hd : decode md.2.1 pc = .ok (.bipush n, 2)) (hv : (Int8.ofInt n).toInt32 = v) (k : Ux l sh d md (pc + 2) L (.int v :: S) σ X) : Ux l sh d md pc L S σ X := by
  intro r σ' hX d' hd' D ca ad p e s m args below meth c C H locs ls hP hS hl
  exact lv_bipush C.1 C.2.1 hd hv (k r σ' hX d' hd' D ca ad p e s m args below meth c C H locs ls hP hS hl)
theorem ux_sipush {n : Int} (v : Int32) (hd : decode md.2.1 pc = .ok (.sipush n, 3)) (hv : (Int16.ofInt n).toInt32 = v) (k : Ux l sh d md (pc + 3) L (.int v :: S) σ X) : Ux l sh d md pc L S σ X := by
  intro r σ' hX d' hd' D ca ad p e s m args below meth c C H locs ls hP hS hl
  exact lv_sipush C.1 C.2.1 hd hv (k r σ' hX d' hd' D ca ad p e s m args below meth c C H locs ls hP hS hl)
theorem ux_iload_n {j : Fin 4} {x : Int32} (hd : decode md.2.1 pc = .ok (.iload_n j, 1)) (hi : lvk L j.val = some (.int x)) (k : Ux l sh d md (pc + 1) L (.int x :: S) σ X) : Ux l sh d md pc L S σ X := by
  intro r σ' hX d' hd' D ca ad p e s m args below meth c C H locs ls hP hS hl
  exact lv_iload_n C.1 C.2.1 hd rfl (lx_at hl hi) (k r σ' hX d' hd' D ca ad p e s m args below meth c C H locs ls hP hS hl)
theorem ux_iload {i : Nat} {x : Int32} (hd : decode md.2.1 pc = .ok (.iload i, 2)) (hi : lvk L i = some (.int x)) (k : Ux l sh d md (pc + 2) L (.int x :: S) σ X) : Ux l sh d md pc L S σ X := by
  intro r σ' hX d' hd' D ca ad p e s m args below meth c C H locs ls hP hS hl
  exact lv_iload C.1 C.2.1 hd (lx_at hl hi) (k r σ' hX d' hd' D ca ad p e s m args below meth c C H locs ls hP hS hl)
theorem ux_aload_n {j : Fin 4} {x : Nat} (hd : decode md.2.1 pc = .ok (.aload_n j, 1)) (hi : lvk L j.val = some (.ref x)) (k : Ux l sh d md (pc + 1) L (.ref x :: S) σ X) : Ux l sh d md pc L S σ X := by
  intro r σ' hX d' hd' D ca ad p e s m args below meth c C H locs ls hP hS hl
  exact lv_aload_n C.1 C.2.1 hd rfl (lx_at hl hi) (k r σ' hX d' hd' D ca ad p e s m args below meth c C H locs ls hP hS hl)
theorem ux_aload {i : Nat} {x : Nat} (hd : decode md.2.1 pc = .ok (.aload i, 2)) (hi : lvk L i = some (.ref x)) (k : Ux l sh d md (pc + 2) L (.ref x :: S) σ X) : Ux l sh d md pc L S σ X := by
  intro r σ' hX d' hd' D ca ad p e s m args below meth c C H locs ls hP hS hl
  exact lv_aload C.1 C.2.1 hd (lx_at hl hi) (k r σ' hX d' hd' D ca ad p e s m args below meth c C H locs ls hP hS hl)
theorem ux_lload_n {j : Fin 4} {x : Int64} (hd : decode md.2.1 pc = .ok (.lload_n j, 1)) (hi : lvk L j.val = some (.long x)) (k : Ux l sh d md (pc + 1) L (.long x :: S) σ X) : Ux l sh d md pc L S σ X := by
  intro r σ' hX d' hd' D ca ad p e s m args below meth c C H locs ls hP hS hl
  exact lv_lload_n C.1 C.2.1 hd rfl (lx_at hl hi) (k r σ' hX d' hd' D ca ad p e s m args below meth c C H locs ls hP hS hl)
theorem ux_lload {i : Nat} {x : Int64} (hd : decode md.2.1 pc = .ok (.lload i, 2)) (hi : lvk L i = some (.long x)) (k : Ux l sh d md (pc + 2) L (.long x :: S) σ X) : Ux l sh d md pc L S σ X := by
  intro r σ' hX d' hd' D ca ad p e s m args below meth c C H locs ls hP hS hl
  exact lv_lload C.1 C.2.1 hd (lx_at hl hi) (k r σ' hX d' hd' D ca ad p e s m args below meth c C H locs ls hP hS hl)
theorem ux_istore_n {j : Fin 4} {x : Int32} (L' : List (Nat × Value)) (hd : decode md.2.1 pc = .ok (.istore_n j, 1)) (hn : j.val < md.2.2.1) (hL : lst L j.val (.int x) = L') (k : Ux l sh d md (pc + 1) L' S σ X) : Ux l sh d md pc L (.int x :: S) σ X := by
  intro r σ' hX d' hd' D ca ad p e s m args below meth c C H locs ls hP hS hl
  exact lv_istore_n C.1 C.2.1 hd rfl hl hn (lst_cv hL) (fun ls hl => (k r σ' hX d' hd' D ca ad p e s m args below meth c C H locs ls hP hS hl))
theorem ux_istore {i : Nat} {x : Int32} (L' : List (Nat × Value)) (hd : decode md.2.1 pc = .ok (.istore i, 2)) (hn : i < md.2.2.1) (hL : lst L i (.int x) = L') (k : Ux l sh d md (pc + 2) L' S σ X) : Ux l sh d md pc L (.int x :: S) σ X := by
  intro r σ' hX d' hd' D ca ad p e s m args below meth c C H locs ls hP hS hl
  exact lv_istore C.1 C.2.1 hd hl hn (lst_cv hL) (fun ls hl => (k r σ' hX d' hd' D ca ad p e s m args below meth c C H locs ls hP hS hl))
theorem ux_astore_n {j : Fin 4} {x : Nat} (L' : List (Nat × Value)) (hd : decode md.2.1 pc = .ok (.astore_n j, 1)) (hn : j.val < md.2.2.1) (hL : lst L j.val (.ref x) = L') (k : Ux l sh d md (pc + 1) L' S σ X) : Ux l sh d md pc L (.ref x :: S) σ X := by
  intro r σ' hX d' hd' D ca ad p e s m args below meth c C H locs ls hP hS hl
  exact lv_astore_n C.1 C.2.1 hd rfl hl hn (lst_cv hL) (fun ls hl => (k r σ' hX d' hd' D ca ad p e s m args below meth c C H locs ls hP hS hl))
theorem ux_astore {i : Nat} {x : Nat} (L' : List (Nat × Value)) (hd : decode md.2.1 pc = .ok (.astore i, 2)) (hn : i < md.2.2.1) (hL : lst L i (.ref x) = L') (k : Ux l sh d md (pc + 2) L' S σ X) : Ux l sh d md pc L (.ref x :: S) σ X := by
  intro r σ' hX d' hd' D ca ad p e s m args below meth c C H locs ls hP hS hl
  exact lv_astore C.1 C.2.1 hd hl hn (lst_cv hL) (fun ls hl => (k r σ' hX d' hd' D ca ad p e s m args below meth c C H locs ls hP hS hl))
theorem ux_iinc {i : Nat} {n : Int} {x : Int32} (v : Int32) (L' : List (Nat × Value)) (hd : decode md.2.1 pc = .ok (.iinc i n, 3)) (hi : lvk L i = some (.int x)) (hv : x + Int32.ofInt n = v) (hn : i < md.2.2.1) (hL : lst L i (.int v) = L') (k : Ux l sh d md (pc + 3) L' S σ X) : Ux l sh d md pc L S σ X := by
  intro r σ' hX d' hd' D ca ad p e s m args below meth c C H locs ls hP hS hl
  obtain ⟨q, hq⟩ := lvk_cv (ad := ad) hi
  exact lv_iinc C.1 C.2.1 hd hl hq hv hn (lst_cv hL) (fun ls hl => (k r σ' hX d' hd' D ca ad p e s m args below meth c C H locs ls hP hS hl))
theorem ux_iadd {x y : Int32} (hd : decode md.2.1 pc = .ok (.iadd, 1))  (k : Ux l sh d md (pc + 1) L (.int (x + y) :: S) σ X) : Ux l sh d md pc L (.int y :: .int x :: S) σ X := by
  intro r σ' hX d' hd' D ca ad p e s m args below meth c C H locs ls hP hS hl
  exact lv_iadd C.1 C.2.1 hd (k r σ' hX d' hd' D ca ad p e s m args below meth c C H locs ls hP hS hl)
theorem ux_isub {x y : Int32} (hd : decode md.2.1 pc = .ok (.isub, 1))  (k : Ux l sh d md (pc + 1) L (.int (x - y) :: S) σ X) : Ux l sh d md pc L (.int y :: .int x :: S) σ X := by
  intro r σ' hX d' hd' D ca ad p e s m args below meth c C H locs ls hP hS hl
  exact lv_isub C.1 C.2.1 hd (k r σ' hX d' hd' D ca ad p e s m args below meth c C H locs ls hP hS hl)
theorem ux_imul {x y : Int32} (hd : decode md.2.1 pc = .ok (.imul, 1))  (k : Ux l sh d md (pc + 1) L (.int (x * y) :: S) σ X) : Ux l sh d md pc L (.int y :: .int x :: S) σ X := by
  intro r σ' hX d' hd' D ca ad p e s m args below meth c C H locs ls hP hS hl
  exact lv_imul C.1 C.2.1 hd (k r σ' hX d' hd' D ca ad p e s m args below meth c C H locs ls hP hS hl)
theorem ux_iand {x y : Int32} (hd : decode md.2.1 pc = .ok (.iand, 1))  (k : Ux l sh d md (pc + 1) L (.int (x &&& y) :: S) σ X) : Ux l sh d md pc L (.int y :: .int x :: S) σ X := by
  intro r σ' hX d' hd' D ca ad p e s m args below meth c C H locs ls hP hS hl
  exact lv_iand C.1 C.2.1 hd (k r σ' hX d' hd' D ca ad p e s m args below meth c C H locs ls hP hS hl)
theorem ux_ior {x y : Int32} (hd : decode md.2.1 pc = .ok (.ior, 1))  (k : Ux l sh d md (pc + 1) L (.int (x ||| y) :: S) σ X) : Ux l sh d md pc L (.int y :: .int x :: S) σ X := by
  intro r σ' hX d' hd' D ca ad p e s m args below meth c C H locs ls hP hS hl
  exact lv_ior C.1 C.2.1 hd (k r σ' hX d' hd' D ca ad p e s m args below meth c C H locs ls hP hS hl)
theorem ux_ixor {x y : Int32} (hd : decode md.2.1 pc = .ok (.ixor, 1))  (k : Ux l sh d md (pc + 1) L (.int (x ^^^ y) :: S) σ X) : Ux l sh d md pc L (.int y :: .int x :: S) σ X := by
  intro r σ' hX d' hd' D ca ad p e s m args below meth c C H locs ls hP hS hl
  exact lv_ixor C.1 C.2.1 hd (k r σ' hX d' hd' D ca ad p e s m args below meth c C H locs ls hP hS hl)
theorem ux_ishl {x y : Int32} (hd : decode md.2.1 pc = .ok (.ishl, 1))  (k : Ux l sh d md (pc + 1) L (.int (x <<< (y &&& 31)) :: S) σ X) : Ux l sh d md pc L (.int y :: .int x :: S) σ X := by
  intro r σ' hX d' hd' D ca ad p e s m args below meth c C H locs ls hP hS hl
  exact lv_ishl C.1 C.2.1 hd (k r σ' hX d' hd' D ca ad p e s m args below meth c C H locs ls hP hS hl)
theorem ux_ineg {x : Int32} (hd : decode md.2.1 pc = .ok (.ineg, 1))  (k : Ux l sh d md (pc + 1) L (.int (-x) :: S) σ X) : Ux l sh d md pc L (.int x :: S) σ X := by
  intro r σ' hX d' hd' D ca ad p e s m args below meth c C H locs ls hP hS hl
  exact lv_ineg C.1 C.2.1 hd (k r σ' hX d' hd' D ca ad p e s m args below meth c C H locs ls hP hS hl)
theorem ux_iushr {x y : Int32} (hd : decode md.2.1 pc = .ok (.iushr, 1)) (k : Ux l sh d md (pc + 1) L (.int (x.toUInt32 >>> (y.toUInt32 &&& Int32.toUInt32 31)).toInt32 :: S) σ X) : Ux l sh d md pc L (.int y :: .int x :: S) σ X := by
  intro r σ' hX d' hd' D ca ad p e s m args below meth c C H locs ls hP hS hl
  exact lv_iushr C.1 C.2.1 hd rfl (k r σ' hX d' hd' D ca ad p e s m args below meth c C H locs ls hP hS hl)
theorem ux_lushr {x : Int64} {y : Int32} (hd : decode md.2.1 pc = .ok (.lushr, 1)) (k : Ux l sh d md (pc + 1) L (.long (x.toUInt64 >>> (y.toInt64.toUInt64 &&& Int64.toUInt64 63)).toInt64 :: S) σ X) : Ux l sh d md pc L (.int y :: .long x :: S) σ X := by
  intro r σ' hX d' hd' D ca ad p e s m args below meth c C H locs ls hP hS hl
  exact lv_lushr C.1 C.2.1 hd rfl (k r σ' hX d' hd' D ca ad p e s m args below meth c C H locs ls hP hS hl)
theorem ux_lshr {x : Int64} {y : Int32} (hd : decode md.2.1 pc = .ok (.lshr, 1)) (k : Ux l sh d md (pc + 1) L (.long (x >>> (y.toInt64 &&& 63)) :: S) σ X) : Ux l sh d md pc L (.int y :: .long x :: S) σ X := by
  intro r σ' hX d' hd' D ca ad p e s m args below meth c C H locs ls hP hS hl
  exact lv_lshr C.1 C.2.1 hd rfl (k r σ' hX d' hd' D ca ad p e s m args below meth c C H locs ls hP hS hl)
theorem ux_land {x y : Int64} (hd : decode md.2.1 pc = .ok (.land, 1)) (k : Ux l sh d md (pc + 1) L (.long (x &&& y) :: S) σ X) : Ux l sh d md pc L (.long y :: .long x :: S) σ X := by
  intro r σ' hX d' hd' D ca ad p e s m args below meth c C H locs ls hP hS hl
  exact lv_land C.1 C.2.1 hd (k r σ' hX d' hd' D ca ad p e s m args below meth c C H locs ls hP hS hl)
theorem ux_l2i {x : Int64} (hd : decode md.2.1 pc = .ok (.l2i, 1)) (k : Ux l sh d md (pc + 1) L (.int x.toInt32 :: S) σ X) : Ux l sh d md pc L (.long x :: S) σ X := by
  intro r σ' hX d' hd' D ca ad p e s m args below meth c C H locs ls hP hS hl
  exact lv_l2i C.1 C.2.1 hd rfl (k r σ' hX d' hd' D ca ad p e s m args below meth c C H locs ls hP hS hl)
theorem ux_i2b {x : Int32} (hd : decode md.2.1 pc = .ok (.i2b, 1)) (k : Ux l sh d md (pc + 1) L (.int x.toInt8.toInt32 :: S) σ X) : Ux l sh d md pc L (.int x :: S) σ X := by
  intro r σ' hX d' hd' D ca ad p e s m args below meth c C H locs ls hP hS hl
  exact lv_i2b C.1 C.2.1 hd rfl (k r σ' hX d' hd' D ca ad p e s m args below meth c C H locs ls hP hS hl)
theorem ux_i2s {x : Int32} (hd : decode md.2.1 pc = .ok (.i2s, 1)) (k : Ux l sh d md (pc + 1) L (.int x.toInt16.toInt32 :: S) σ X) : Ux l sh d md pc L (.int x :: S) σ X := by
  intro r σ' hX d' hd' D ca ad p e s m args below meth c C H locs ls hP hS hl
  exact lv_i2s C.1 C.2.1 hd rfl (k r σ' hX d' hd' D ca ad p e s m args below meth c C H locs ls hP hS hl)
theorem ux_idiv {x y : Int32} (hd : decode md.2.1 pc = .ok (.idiv, 1)) (k : Ux l sh d md (pc + 1) L (.int (x / y) :: S) σ X) : Ux l sh d md pc L (.int y :: .int x :: S) σ (grd (nz y) X) := by
  intro r σ' hX d' hd' D ca ad p e s m args below meth c C H locs ls hP hS hl
  exact lv_idiv C.1 C.2.1 hd (nz_ne (grd_some hX).1) (k r σ' (grd_some hX).2 d' hd' D ca ad p e s m args below meth c C H locs ls hP hS hl)
theorem ux_irem {x y : Int32} (hd : decode md.2.1 pc = .ok (.irem, 1)) (k : Ux l sh d md (pc + 1) L (.int (x - x / y * y) :: S) σ X) : Ux l sh d md pc L (.int y :: .int x :: S) σ (grd (nz y) X) := by
  intro r σ' hX d' hd' D ca ad p e s m args below meth c C H locs ls hP hS hl
  exact lv_irem C.1 C.2.1 hd (nz_ne (grd_some hX).1) (k r σ' (grd_some hX).2 d' hd' D ca ad p e s m args below meth c C H locs ls hP hS hl)
theorem ux_dup {x : Int32} (hd : decode md.2.1 pc = .ok (.dup, 1))  (k : Ux l sh d md (pc + 1) L (.int x :: .int x :: S) σ X) : Ux l sh d md pc L (.int x :: S) σ X := by
  intro r σ' hX d' hd' D ca ad p e s m args below meth c C H locs ls hP hS hl
  exact lv_dup C.1 C.2.1 hd rfl (k r σ' hX d' hd' D ca ad p e s m args below meth c C H locs ls hP hS hl)
theorem ux_dupr {x : Nat} (hd : decode md.2.1 pc = .ok (.dup, 1))  (k : Ux l sh d md (pc + 1) L (.ref x :: .ref x :: S) σ X) : Ux l sh d md pc L (.ref x :: S) σ X := by
  intro r σ' hX d' hd' D ca ad p e s m args below meth c C H locs ls hP hS hl
  exact lv_dup C.1 C.2.1 hd rfl (k r σ' hX d' hd' D ca ad p e s m args below meth c C H locs ls hP hS hl)
theorem ux_pop {x : Int32} (hd : decode md.2.1 pc = .ok (.pop, 1))  (k : Ux l sh d md (pc + 1) L S σ X) : Ux l sh d md pc L (.int x :: S) σ X := by
  intro r σ' hX d' hd' D ca ad p e s m args below meth c C H locs ls hP hS hl
  exact lv_pop C.1 C.2.1 hd rfl (k r σ' hX d' hd' D ca ad p e s m args below meth c C H locs ls hP hS hl)
theorem ux_dup2 {x : Int32} {y : Nat} (hd : decode md.2.1 pc = .ok (.dup2, 1))  (k : Ux l sh d md (pc + 1) L (.int x :: .ref y :: .int x :: .ref y :: S) σ X) : Ux l sh d md pc L (.int x :: .ref y :: S) σ X := by
  intro r σ' hX d' hd' D ca ad p e s m args below meth c C H locs ls hP hS hl
  exact lv_dup2_11 C.1 C.2.1 hd rfl rfl (k r σ' hX d' hd' D ca ad p e s m args below meth c C H locs ls hP hS hl)
theorem ux_dupx1 {x : Int32} {y : Nat} (hd : decode md.2.1 pc = .ok (.dup_x1, 1)) (k : Ux l sh d md (pc + 1) L (.int x :: .ref y :: .int x :: S) σ X) : Ux l sh d md pc L (.int x :: .ref y :: S) σ X := by
  intro r σ' hX d' hd' D ca ad p e s m args below meth c C H locs ls hP hS hl
  exact lv_dup_x1 C.1 C.2.1 hd rfl rfl (k r σ' hX d' hd' D ca ad p e s m args below meth c C H locs ls hP hS hl)
theorem ux_goto {off : Int} (tgt : Nat) (hd : decode md.2.1 pc = .ok (.goto off, 3)) (ht : (pc : Int) + off = (tgt : Int)) (k : Ux l sh d md tgt L S σ X) : Ux l sh d md pc L S σ X := by
  intro r σ' hX d' hd' D ca ad p e s m args below meth c C H locs ls hP hS hl
  exact lv_goto C.1 C.2.1 hd ht (k r σ' hX d' hd' D ca ad p e s m args below meth c C H locs ls hP hS hl)
theorem ux_icmp_eq {x y : Int32} {off : Int} (tgt : Nat) (hd : decode md.2.1 pc = .ok (.if_icmp .eq off, 3)) (ht : (pc : Int) + off = (tgt : Int)) (kt : x = y → Ux l sh d md tgt L S σ X) (kf : ¬ x = y → Ux l sh d md (pc + 3) L S σ Y) : Ux l sh d md pc L (.int y :: .int x :: S) σ (if x = y then X else Y) := by
  intro r σ' hX d' hd' D ca ad p e s m args below meth c C H locs ls hP hS hl
  exact lv_icmp_eq C.1 C.2.1 hd ht (fun h => kt h r σ' (by rw [if_pos h] at hX; exact hX) d' hd' D ca ad p e s m args below meth c C H locs ls hP hS hl) (fun h => kf h r σ' (by rw [if_neg h] at hX; exact hX) d' hd' D ca ad p e s m args below meth c C H locs ls hP hS hl)
theorem ux_icmp_lt {x y : Int32} {off : Int} (tgt : Nat) (hd : decode md.2.1 pc = .ok (.if_icmp .lt off, 3)) (ht : (pc : Int) + off = (tgt : Int)) (kt : x < y → Ux l sh d md tgt L S σ X) (kf : ¬ x < y → Ux l sh d md (pc + 3) L S σ Y) : Ux l sh d md pc L (.int y :: .int x :: S) σ (if x < y then X else Y) := by
  intro r σ' hX d' hd' D ca ad p e s m args below meth c C H locs ls hP hS hl
  exact lv_icmp_lt C.1 C.2.1 hd ht (fun h => kt h r σ' (by rw [if_pos h] at hX; exact hX) d' hd' D ca ad p e s m args below meth c C H locs ls hP hS hl) (fun h => kf h r σ' (by rw [if_neg h] at hX; exact hX) d' hd' D ca ad p e s m args below meth c C H locs ls hP hS hl)
theorem ux_icmp_ge {x y : Int32} {off : Int} (tgt : Nat) (hd : decode md.2.1 pc = .ok (.if_icmp .ge off, 3)) (ht : (pc : Int) + off = (tgt : Int)) (kt : y ≤ x → Ux l sh d md tgt L S σ X) (kf : ¬ y ≤ x → Ux l sh d md (pc + 3) L S σ Y) : Ux l sh d md pc L (.int y :: .int x :: S) σ (if y ≤ x then X else Y) := by
  intro r σ' hX d' hd' D ca ad p e s m args below meth c C H locs ls hP hS hl
  exact lv_icmp_ge C.1 C.2.1 hd ht (fun h => kt h r σ' (by rw [if_pos h] at hX; exact hX) d' hd' D ca ad p e s m args below meth c C H locs ls hP hS hl) (fun h => kf h r σ' (by rw [if_neg h] at hX; exact hX) d' hd' D ca ad p e s m args below meth c C H locs ls hP hS hl)
theorem ux_icmp_gt {x y : Int32} {off : Int} (tgt : Nat) (hd : decode md.2.1 pc = .ok (.if_icmp .gt off, 3)) (ht : (pc : Int) + off = (tgt : Int)) (kt : y < x → Ux l sh d md tgt L S σ X) (kf : ¬ y < x → Ux l sh d md (pc + 3) L S σ Y) : Ux l sh d md pc L (.int y :: .int x :: S) σ (if y < x then X else Y) := by
  intro r σ' hX d' hd' D ca ad p e s m args below meth c C H locs ls hP hS hl
  exact lv_icmp_gt C.1 C.2.1 hd ht (fun h => kt h r σ' (by rw [if_pos h] at hX; exact hX) d' hd' D ca ad p e s m args below meth c C H locs ls hP hS hl) (fun h => kf h r σ' (by rw [if_neg h] at hX; exact hX) d' hd' D ca ad p e s m args below meth c C H locs ls hP hS hl)
theorem ux_icmp_le {x y : Int32} {off : Int} (tgt : Nat) (hd : decode md.2.1 pc = .ok (.if_icmp .le off, 3)) (ht : (pc : Int) + off = (tgt : Int)) (kt : x ≤ y → Ux l sh d md tgt L S σ X) (kf : ¬ x ≤ y → Ux l sh d md (pc + 3) L S σ Y) : Ux l sh d md pc L (.int y :: .int x :: S) σ (if x ≤ y then X else Y) := by
  intro r σ' hX d' hd' D ca ad p e s m args below meth c C H locs ls hP hS hl
  exact lv_icmp_le C.1 C.2.1 hd ht (fun h => kt h r σ' (by rw [if_pos h] at hX; exact hX) d' hd' D ca ad p e s m args below meth c C H locs ls hP hS hl) (fun h => kf h r σ' (by rw [if_neg h] at hX; exact hX) d' hd' D ca ad p e s m args below meth c C H locs ls hP hS hl)
theorem ux_if_eq {x : Int32} {off : Int} (tgt : Nat) (hd : decode md.2.1 pc = .ok (.ifCond .eq off, 3)) (ht : (pc : Int) + off = (tgt : Int)) (kt : x = 0 → Ux l sh d md tgt L S σ X) (kf : ¬ x = 0 → Ux l sh d md (pc + 3) L S σ Y) : Ux l sh d md pc L (.int x :: S) σ (if x = 0 then X else Y) := by
  intro r σ' hX d' hd' D ca ad p e s m args below meth c C H locs ls hP hS hl
  exact lv_if_eq C.1 C.2.1 hd ht (fun h => kt h r σ' (by rw [if_pos h] at hX; exact hX) d' hd' D ca ad p e s m args below meth c C H locs ls hP hS hl) (fun h => kf h r σ' (by rw [if_neg h] at hX; exact hX) d' hd' D ca ad p e s m args below meth c C H locs ls hP hS hl)
theorem ux_if_lt {x : Int32} {off : Int} (tgt : Nat) (hd : decode md.2.1 pc = .ok (.ifCond .lt off, 3)) (ht : (pc : Int) + off = (tgt : Int)) (kt : x < 0 → Ux l sh d md tgt L S σ X) (kf : ¬ x < 0 → Ux l sh d md (pc + 3) L S σ Y) : Ux l sh d md pc L (.int x :: S) σ (if x < 0 then X else Y) := by
  intro r σ' hX d' hd' D ca ad p e s m args below meth c C H locs ls hP hS hl
  exact lv_if_lt C.1 C.2.1 hd ht (fun h => kt h r σ' (by rw [if_pos h] at hX; exact hX) d' hd' D ca ad p e s m args below meth c C H locs ls hP hS hl) (fun h => kf h r σ' (by rw [if_neg h] at hX; exact hX) d' hd' D ca ad p e s m args below meth c C H locs ls hP hS hl)
theorem ux_if_ge {x : Int32} {off : Int} (tgt : Nat) (hd : decode md.2.1 pc = .ok (.ifCond .ge off, 3)) (ht : (pc : Int) + off = (tgt : Int)) (kt : 0 ≤ x → Ux l sh d md tgt L S σ X) (kf : ¬ 0 ≤ x → Ux l sh d md (pc + 3) L S σ Y) : Ux l sh d md pc L (.int x :: S) σ (if 0 ≤ x then X else Y) := by
  intro r σ' hX d' hd' D ca ad p e s m args below meth c C H locs ls hP hS hl
  exact lv_if_ge C.1 C.2.1 hd ht (fun h => kt h r σ' (by rw [if_pos h] at hX; exact hX) d' hd' D ca ad p e s m args below meth c C H locs ls hP hS hl) (fun h => kf h r σ' (by rw [if_neg h] at hX; exact hX) d' hd' D ca ad p e s m args below meth c C H locs ls hP hS hl)
theorem ux_if_gt {x : Int32} {off : Int} (tgt : Nat) (hd : decode md.2.1 pc = .ok (.ifCond .gt off, 3)) (ht : (pc : Int) + off = (tgt : Int)) (kt : 0 < x → Ux l sh d md tgt L S σ X) (kf : ¬ 0 < x → Ux l sh d md (pc + 3) L S σ Y) : Ux l sh d md pc L (.int x :: S) σ (if 0 < x then X else Y) := by
  intro r σ' hX d' hd' D ca ad p e s m args below meth c C H locs ls hP hS hl
  exact lv_if_gt C.1 C.2.1 hd ht (fun h => kt h r σ' (by rw [if_pos h] at hX; exact hX) d' hd' D ca ad p e s m args below meth c C H locs ls hP hS hl) (fun h => kf h r σ' (by rw [if_neg h] at hX; exact hX) d' hd' D ca ad p e s m args below meth c C H locs ls hP hS hl)
theorem ux_if_le {x : Int32} {off : Int} (tgt : Nat) (hd : decode md.2.1 pc = .ok (.ifCond .le off, 3)) (ht : (pc : Int) + off = (tgt : Int)) (kt : x ≤ 0 → Ux l sh d md tgt L S σ X) (kf : ¬ x ≤ 0 → Ux l sh d md (pc + 3) L S σ Y) : Ux l sh d md pc L (.int x :: S) σ (if x ≤ 0 then X else Y) := by
  intro r σ' hX d' hd' D ca ad p e s m args below meth c C H locs ls hP hS hl
  exact lv_if_le C.1 C.2.1 hd ht (fun h => kt h r σ' (by rw [if_pos h] at hX; exact hX) d' hd' D ca ad p e s m args below meth c C H locs ls hP hS hl) (fun h => kf h r σ' (by rw [if_neg h] at hX; exact hX) d' hd' D ca ad p e s m args below meth c C H locs ls hP hS hl)
theorem ux_icmp_ne {x y : Int32} {off : Int} (tgt : Nat) (hd : decode md.2.1 pc = .ok (.if_icmp .ne off, 3)) (ht : (pc : Int) + off = (tgt : Int)) (kt : x = y → Ux l sh d md (pc + 3) L S σ X) (kf : ¬ x = y → Ux l sh d md tgt L S σ Y) : Ux l sh d md pc L (.int y :: .int x :: S) σ (if x = y then X else Y) := by
  intro r σ' hX d' hd' D ca ad p e s m args below meth c C H locs ls hP hS hl
  exact lv_icmp_ne C.1 C.2.1 hd ht (fun h => kf h r σ' (by rw [if_neg h] at hX; exact hX) d' hd' D ca ad p e s m args below meth c C H locs ls hP hS hl) (fun h => kt h r σ' (by rw [if_pos h] at hX; exact hX) d' hd' D ca ad p e s m args below meth c C H locs ls hP hS hl)
theorem ux_if_ne {x : Int32} {off : Int} (tgt : Nat) (hd : decode md.2.1 pc = .ok (.ifCond .ne off, 3)) (ht : (pc : Int) + off = (tgt : Int)) (kt : x = 0 → Ux l sh d md (pc + 3) L S σ X) (kf : ¬ x = 0 → Ux l sh d md tgt L S σ Y) : Ux l sh d md pc L (.int x :: S) σ (if x = 0 then X else Y) := by
  intro r σ' hX d' hd' D ca ad p e s m args below meth c C H locs ls hP hS hl
  exact lv_if_ne C.1 C.2.1 hd ht (fun h => kf h r σ' (by rw [if_neg h] at hX; exact hX) d' hd' D ca ad p e s m args below meth c C H locs ls hP hS hl) (fun h => kt h r σ' (by rw [if_pos h] at hX; exact hX) d' hd' D ca ad p e s m args below meth c C H locs ls hP hS hl)
theorem ux_case {x : Int32} (v : Int32) (kt : x = v → Ux l sh d md pc L (.int v :: S) σ X) (kf : ¬ x = v → Ux l sh d md pc L (.int x :: S) σ Y) : Ux l sh d md pc L (.int x :: S) σ (if x = v then X else Y) := by
  by_cases h : x = v
  · rw [if_pos h]; subst h; exact kt rfl
  · rw [if_neg h]; exact kf h
theorem ux_tabIn {dflt lo hi : Int} {offs : Array Int} {len : Nat} {x : Int32} {off : Int} (tgt : Nat) (hd : decode md.2.1 pc = .ok (.tableswitch dflt lo hi offs, len)) (h1 : ¬ x.toInt < lo) (h2 : ¬ hi < x.toInt) (ho : offs[(x.toInt - lo).toNat]? = some off) (ht : (pc : Int) + off = (tgt : Int)) (k : Ux l sh d md tgt L S σ X) : Ux l sh d md pc L (.int x :: S) σ X := by
  intro r σ' hX d' hd' D ca ad p e s m args below meth c C H locs ls hP hS hl
  exact lv_tableIn C.1 C.2.1 hd h1 h2 ho ht (k r σ' hX d' hd' D ca ad p e s m args below meth c C H locs ls hP hS hl)
theorem ux_tabOut {dflt lo hi : Int} {offs : Array Int} {len : Nat} {x : Int32} (tgt : Nat) (hd : decode md.2.1 pc = .ok (.tableswitch dflt lo hi offs, len)) (h : x.toInt < lo ∨ hi < x.toInt) (ht : (pc : Int) + dflt = (tgt : Int)) (k : Ux l sh d md tgt L S σ X) : Ux l sh d md pc L (.int x :: S) σ X := by
  intro r σ' hX d' hd' D ca ad p e s m args below meth c C H locs ls hP hS hl
  exact lv_tableOut C.1 C.2.1 hd h ht (k r σ' hX d' hd' D ca ad p e s m args below meth c C H locs ls hP hS hl)
theorem ux_look {dflt : Int} {ps : Array (Int × Int)} {len : Nat} {x : Int32} {off : Int} (tgt : Nat) (hd : decode md.2.1 pc = .ok (.lookupswitch dflt ps, len)) (hp : (ps.toList.zip (ps.toList.drop 1)).all (fun (a, next) => a.1 < next.1) = true) (ho : Op.lookupswitch.offset ps.toList dflt x.toInt = off) (ht : (pc : Int) + off = (tgt : Int)) (k : Ux l sh d md tgt L S σ X) : Ux l sh d md pc L (.int x :: S) σ X := by
  intro r σ' hX d' hd' D ca ad p e s m args below meth c C H locs ls hP hS hl
  exact lv_lookup C.1 C.2.1 hd hp ho ht (k r σ' hX d' hd' D ca ad p e s m args below meth c C H locs ls hP hS hl)
theorem ux_ldc {index : Nat} (v : Int32) (hw : Cond.constant md.1.cls index v ∈ tblG) (hd : decode md.2.1 pc = .ok (.ldc index, 2)) (k : Ux l sh d md (pc + 2) L (.int v :: S) σ X) : Ux l sh d md pc L S σ X := by
  intro r σ' hX d' hd' D ca ad p e s m args below meth c C H locs ls hP hS hl
  exact lv_ldc C.1 C.2.1 C.2.2.2.2.2.1 (C.2.2.2.2.2.2.1 _ hw) hd (k r σ' hX d' hd' D ca ad p e s m args below meth c C H locs ls hP hS hl)
theorem ux_ldc2 {index : Nat} (v : Int64) (hw : Cond.constantLong md.1.cls index v ∈ tblG) (hd : decode md.2.1 pc = .ok (.ldc2_w index, 3)) (k : Ux l sh d md (pc + 3) L (.long v :: S) σ X) : Ux l sh d md pc L S σ X := by
  intro r σ' hX d' hd' D ca ad p e s m args below meth c C H locs ls hP hS hl
  exact lv_ldc2 C.1 C.2.1 C.2.2.2.2.2.1 (C.2.2.2.2.2.2.1 _ hw) hd (k r σ' hX d' hd' D ca ad p e s m args below meth c C H locs ls hP hS hl)
theorem ux_nam {x : Int32} {K : Int32 → Option (Int32 × St)} (k : ∀ y : Int32, Ux l sh d md pc L (.int y :: S) σ (K y)) : Ux l sh d md pc L (.int x :: S) σ (nam x K) := k x
def FC (ci : Nat) (C : String) (T : u_T) (N : Nat) (ty0 : Nat → FieldType) : Prop := (∀ w ∈ u_ws C T N, w ∈ tblG) ∧ vwCl[ci]? = some (C, T, N) ∧ (∀ k, k < N → parseFieldDescriptor (T k).2.2.1 = some (ty0 k)) ∧ ∀ a, a < N → ∀ b, b < N → a ≠ b → (T a).2.1 ≠ (T b).2.1
theorem ux_get {ci N : Nat} {CC : String} {T : u_T} {ty0 : Nat → FieldType} {index o : Nat} {fs : List (Option Nat)} (fc : FC ci CC T N ty0) (j : Nat) (hj : j < N) (hw : Cond.fieldLink md.1.cls index (T j).1 (T j).2.1 (T j).2.2.1 ∈ tblG) (ho : sh[o]? = some (.inr (.inr (ci, fs)))) (hf : fs[j]? = some none) (hd : decode md.2.1 pc = .ok (.getfield index, 3)) (k : Ux l sh d md (pc + 3) L (.int (σ.1 o j) :: S) σ X) : Ux l sh d md pc L (.ref o :: S) σ X := by
  intro r σ' hX d' hd' D ca ad p e s m args below meth c C H locs ls hP hS hl
  refine va_get (Ts := tblG) (cl := vwCl) (tys := Tys ca) (ws := shW sh ad ca σ) (D := D) C.1 C.2.1 C.2.2.2.2.2.2.1 fc.1 C.2.2.2.2.2.1 C.2.2.2.2.2.2.2.1 hP o (shW_get ho) fc.2.1 j hj (C.2.2.2.2.2.2.1 _ hw) (fun _ h => h) (shF_get hf) hd ?_
  exact (k r σ' hX d' hd' D ca ad p e s m args below meth c C H locs ls hP hS hl)
theorem ux_getr {ci N : Nat} {CC : String} {T : u_T} {ty0 : Nat → FieldType} {index o : Nat} {fs : List (Option Nat)} (fc : FC ci CC T N ty0) (j : Nat) (hj : j < N) {q : Nat} (hw : Cond.fieldLink md.1.cls index (T j).1 (T j).2.1 (T j).2.2.1 ∈ tblG) (ho : sh[o]? = some (.inr (.inr (ci, fs)))) (hf : fs[j]? = some (some q)) (hd : decode md.2.1 pc = .ok (.getfield index, 3)) (k : Ux l sh d md (pc + 3) L (.ref q :: S) σ X) : Ux l sh d md pc L (.ref o :: S) σ X := by
  intro r σ' hX d' hd' D ca ad p e s m args below meth c C H locs ls hP hS hl
  refine va_get (Ts := tblG) (cl := vwCl) (tys := Tys ca) (ws := shW sh ad ca σ) (D := D) C.1 C.2.1 C.2.2.2.2.2.2.1 fc.1 C.2.2.2.2.2.1 C.2.2.2.2.2.2.2.1 hP o (shW_get ho) fc.2.1 j hj (C.2.2.2.2.2.2.1 _ hw) (fun _ h => h) (shF_get hf) hd ?_
  exact (k r σ' hX d' hd' D ca ad p e s m args below meth c C H locs ls hP hS hl)
theorem ux_put {ci N : Nat} {CC : String} {T : u_T} {ty0 : Nat → FieldType} {index o : Nat} {fs : List (Option Nat)} (fc : FC ci CC T N ty0) (j : Nat) (hj : j < N) {ty : FieldType} {v : Int32} (hw : Cond.fieldLink md.1.cls index (T j).1 (T j).2.1 (T j).2.2.1 ∈ tblG) (hfin : (T j).2.2.2 = false) (hpd : parseFieldDescriptor (T j).2.2.1 = some ty) (hnf : narrow ty (.int v) = .int v ∧ fits ty (.int v) = true) (ho : sh[o]? = some (.inr (.inr (ci, fs)))) (hf : fs[j]? = some none) (hd : decode md.2.1 pc = .ok (.putfield index, 3)) (k : Ux l sh d md (pc + 3) L S (sF σ o j v) X) : Ux l sh d md pc L (.int v :: .ref o :: S) σ X := by
  intro r σ' hX d' hd' D ca ad p e s m args below meth c C H locs ls hP hS hl
  have hlen : j < (shF ad σ o fs).length := by unfold shF; rw [List.length_mapIdx]; exact (List.getElem?_eq_some_iff.mp hf).1
  refine va_put (own := md.1.cls) (Ts := tblG) (cl := vwCl) (tys := Tys ca) (ws := shW sh ad ca σ) (D := D) (A := fA sh ad) C.1 C.2.1 C.2.2.2.2.2.2.1 fc.1 ty0 fc.2.2.1 fc.2.2.2 C.2.2.2.2.2.1 C.2.2.2.2.2.2.2.1 hP (shW_D σ C.2.2.2.2.2.2.2.2.1) hS o (shW_get ho) fc.2.1 j hj (C.2.2.2.2.2.2.1 _ hw) (fun _ h => h) hfin hpd hnf.1 hnf.2 hlen hd (fun H locs hP _ hS => ?_)
  have hP : va_P D vwCl (shW sh ad ca (sF σ o j v)) H := by rw [← shW_put ho hf]; exact hP
  exact (k r σ' hX d' hd' D ca ad p e s m args below meth c C H locs ls hP hS hl)
theorem ux_iald {a n : Nat} {i : Int32} (ha : sh[a]? = some (.inl n)) (hd : decode md.2.1 pc = .ok (.iaload, 1)) (k : Ux l sh d md (pc + 1) L (.int (σ.2 a i.toNatClampNeg) :: S) σ X) : Ux l sh d md pc L (.int i :: .ref a :: S) σ (grd (inb i n) X) := by
  intro r σ' hX d' hd' D ca ad p e s m args below meth c C H locs ls hP hS hl
  exact va_iald (cl := vwCl) (tys := Tys ca) (ws := shW sh ad ca σ) (D := D) C.1 C.2.1 C.2.2.2.2.2.2.2.1 hP a 0 (shW_get ha) rfl (inb_in (grd_some hX).1) hd (k r σ' (grd_some hX).2 d' hd' D ca ad p e s m args below meth c C H locs ls hP hS hl)
theorem ux_iast {a n : Nat} {i v : Int32} (ha : sh[a]? = some (.inl n)) (hd : decode md.2.1 pc = .ok (.iastore, 1)) (k : Ux l sh d md (pc + 1) L S (sA σ a i.toNatClampNeg v) X) : Ux l sh d md pc L (.int v :: .int i :: .ref a :: S) σ (grd (inb i n) X) := by
  intro r σ' hX d' hd' D ca ad p e s m args below meth c C H locs ls hP hS hl
  refine va_iast (cl := vwCl) (tys := Tys ca) (ws := shW sh ad ca σ) (D := D) (A := fA sh ad) C.1 C.2.1 C.2.2.2.2.2.2.2.1 hP (shW_D σ C.2.2.2.2.2.2.2.2.1) hS a 0 (shW_get ha) rfl (inb_in (grd_some hX).1) hd (fun H locs hP _ hS => ?_)
  rw [shW_ast ha] at hP
  exact (k r σ' (grd_some hX).2 d' hd' D ca ad p e s m args below meth c C H locs ls hP hS hl)
theorem ux_alen {a n : Nat} (v : Int32) (ha : sh[a]? = some (.inl n)) (hv : Int32.ofNat n = v) (hd : decode md.2.1 pc = .ok (.arraylength, 1)) (k : Ux l sh d md (pc + 1) L (.int v :: S) σ X) : Ux l sh d md pc L (.ref a :: S) σ X := by
  intro r σ' hX d' hd' D ca ad p e s m args below meth c C H locs ls hP hS hl
  exact va_alen (cl := vwCl) (tys := Tys ca) (ws := shW sh ad ca σ) (D := D) C.1 C.2.1 C.2.2.2.2.2.2.2.1 hP a 0 (shW_get ha) rfl hv hd (k r σ' hX d' hd' D ca ad p e s m args below meth c C H locs ls hP hS hl)
theorem getD_mem {rs : List Nat} {i : Nat} (h : i < rs.length) : rs.getD i 0 ∈ rs ∧ rs[i]? = some (rs.getD i 0) := by
  rw [List.getD_eq_getElem?_getD, List.getElem?_eq_getElem h]
  exact ⟨List.getElem_mem h, rfl⟩
theorem ux_aald {a t : Nat} {rs : List Nat} {i : Int32} {KK : Nat → Option (Int32 × St)} (ha : sh[a]? = some (.inr (.inl (t, rs)))) {CC : String} (ht : ∀ ca, (Tys ca)[t]? = some (ca t, .object CC)) (hd : decode md.2.1 pc = .ok (.aaload, 1)) (k : ∀ q, q ∈ rs → Ux l sh d md (pc + 1) L (.ref q :: S) σ (KK q)) : Ux l sh d md pc L (.int i :: .ref a :: S) σ (grd (inb i rs.length) (KK (rs.getD i.toNatClampNeg 0))) := by
  intro r σ' hX d' hd' D ca ad p e s m args below meth c C H locs ls hP hS hl
  have hin := inb_in (grd_some hX).1
  have hlt : i.toNatClampNeg < rs.length := Nat.not_le.mp fun q => hin (Or.inr q)
  obtain ⟨hm, he⟩ := getD_mem hlt
  have hk := k _ hm r σ' (grd_some hX).2 d' hd' D ca ad p e s m args below meth c C H locs ls hP hS hl
  have hv : va_rf ((rs[i.toNatClampNeg]?).map ad) = .ref (ad (rs.getD i.toNatClampNeg 0)) := by rw [he]; rfl
  refine va_aldq (cl := vwCl) (tys := Tys ca) (ws := shW sh ad ca σ) (D := D) C.1 C.2.1 C.2.2.2.2.2.2.2.1 hP a t (C := CC) (f := fun i => (rs[i]?).map ad) (shW_get ha) (ht ca) hin hd ?_
  rw [hv]
  exact hk
theorem ux_gets {index kk : Nat} {q : String × String × String × FieldType × List Int32} (hq : sttL[kk]? = some q) (hw : Cond.fieldLink md.1.cls index q.1 q.2.1 q.2.2.1 ∈ tblG) (hd : decode md.2.1 pc = .ok (.getstatic index, 3)) (k : Ux l sh d md (pc + 3) L (.ref (900 + kk) :: S) σ X) : Ux l sh d md pc L S σ X := by
  intro r σ' hX d' hd' D ca ad p e s m args below meth c C H locs ls hP hS hl
  exact va_gets C.1 C.2.1 (C.2.2.2.2.2.2.2.2.2.1 kk q hq).1 hS C.2.2.2.2.2.1 (C.2.2.2.2.2.2.1 _ hw) (fun _ h => h) hd (k r σ' hX d' hd' D ca ad p e s m args below meth c C H locs ls hP hS hl)
theorem ux_getsN {q : String × String × String × FieldType × List Int32} (hcls : md.1.cls = "RopeTreaty$Throat") (hd : decode md.2.1 pc = .ok (.getstatic 51, 3)) (k : Ux l sh d md (pc + 3) L (.ref 900 :: S) σ X) : Ux l sh d md pc L S σ X := by
  intro r σ' hX d' hd' D ca ad p e s m args below meth c C H locs ls hP hS hl
  have hown := C.2.2.2.2.2.1
  rw [hcls] at hown
  exact va_getsN C.1 C.2.1 (C.2.2.2.2.2.2.2.2.2.1 0 _ rfl).1 hS hown (va_Nw.use rfl C.2.2.2.2.2.2.2.2.2.2.2) (fun _ h => h) hd (k r σ' hX d' hd' D ca ad p e s m args below meth c C H locs ls hP hS hl)
theorem ux_tald {kk : Nat} {i : Int32} {q : String × String × String × FieldType × List Int32} (hq : sttL[kk]? = some q) (hty : q.2.2.2.1 = .int) (hd : decode md.2.1 pc = .ok (.iaload, 1)) (k : Ux l sh d md (pc + 1) L (.int (q.2.2.2.2.getD i.toNatClampNeg 0) :: S) σ X) : Ux l sh d md pc L (.int i :: .ref (900 + kk) :: S) σ (grd (inb i q.2.2.2.2.length) X) := by
  intro r σ' hX d' hd' D ca ad p e s m args below meth c C H locs ls hP hS hl
  have hT := (C.2.2.2.2.2.2.2.2.2.1 kk q hq).2
  rw [hty] at hT
  exact va_ti C.1 C.2.1 hT hS (inb_in (grd_some hX).1) rfl hd (k r σ' (grd_some hX).2 d' hd' D ca ad p e s m args below meth c C H locs ls hP hS hl)
theorem ux_tcald {kk : Nat} {i : Int32} {q : String × String × String × FieldType × List Int32} (hq : sttL[kk]? = some q) (hty : q.2.2.2.1 = .char) (hd : decode md.2.1 pc = .ok (.caload, 1)) (k : Ux l sh d md (pc + 1) L (.int (q.2.2.2.2.getD i.toNatClampNeg 0) :: S) σ X) : Ux l sh d md pc L (.int i :: .ref (900 + kk) :: S) σ (grd (inb i q.2.2.2.2.length) X) := by
  intro r σ' hX d' hd' D ca ad p e s m args below meth c C H locs ls hP hS hl
  have hT := (C.2.2.2.2.2.2.2.2.2.1 kk q hq).2
  rw [hty] at hT
  exact va_tc C.1 C.2.1 hT hS (inb_in (grd_some hX).1) rfl hd (k r σ' (grd_some hX).2 d' hd' D ca ad p e s m args below meth c C H locs ls hP hS hl)
theorem ux_tlen {kk : Nat} {q : String × String × String × FieldType × List Int32} (v : Int32) (hq : sttL[kk]? = some q) (hv : Int32.ofNat q.2.2.2.2.length = v) (hd : decode md.2.1 pc = .ok (.arraylength, 1)) (k : Ux l sh d md (pc + 1) L (.int v :: S) σ X) : Ux l sh d md pc L (.ref (900 + kk) :: S) σ X := by
  intro r σ' hX d' hd' D ca ad p e s m args below meth c C H locs ls hP hS hl
  exact va_tlen C.1 C.2.1 (C.2.2.2.2.2.2.2.2.2.1 kk q hq).2 hS hv hd (k r σ' hX d' hd' D ca ad p e s m args below meth c C H locs ls hP hS hl)
theorem ux_iret {v : Int32} (hrt : md.2.2.2 = some .int) (hd : decode md.2.1 pc = .ok (.ireturn, 1)) : Ux l sh d md pc L [.int v] σ (some (v, σ)) := by
  intro r σ' hX d' hd' D ca ad p e s m args below meth c C H locs ls hP hS hl
  obtain ⟨y, cc, nL, rt⟩ := md
  cases hrt
  cases hX
  exact W.iret C.1 C.2.1 C.2.2.2.1 (fun t ht hW => ⟨rfl, by rw [ht]; exact hP, hS.F ht⟩) hS.2.2 hd C.2.2.2.2.1
theorem ux_zret {v : Int32} (hrt : md.2.2.2 = some .boolean) (hd : decode md.2.1 pc = .ok (.ireturn, 1)) (hn : narrow .boolean (.int v) = .int v ∧ fits .boolean (.int v) = true) : Ux l sh d md pc L [.int v] σ (some (v, σ)) := by
  intro r σ' hX d' hd' D ca ad p e s m args below meth c C H locs ls hP hS hl
  obtain ⟨y, cc, nL, rt⟩ := md
  cases hrt
  cases hX
  exact W.zret C.1 C.2.1 C.2.2.2.1 hn.1 (fun t ht hW => ⟨rfl, by rw [ht]; exact hP, hS.F ht⟩) hS.2.2 hd C.2.2.2.2.1
theorem ux_zretg {v : Int32} (hrt : md.2.2.2 = some .boolean) (hd : decode md.2.1 pc = .ok (.ireturn, 1)) : Ux l sh d md pc L [.int v] σ (grd (isB v) (some (v, σ))) := by
  intro r σ' hX d' hd' D ca ad p e s m args below meth c C H locs ls hP hS hl
  have hb := isB_n (grd_some hX).1
  have hX := (grd_some hX).2
  obtain ⟨y, cc, nL, rt⟩ := md
  cases hrt
  cases hX
  exact W.zret C.1 C.2.1 C.2.2.2.1 hb.1 (fun t ht hW => ⟨rfl, by rw [ht]; exact hP, hS.F ht⟩) hS.2.2 hd C.2.2.2.2.1
theorem ux_vret (hrt : md.2.2.2 = none) (hd : decode md.2.1 pc = .ok (.return_, 1)) : Ux l sh d md pc L [] σ (some (0, σ)) := by
  intro r σ' hX d' hd' D ca ad p e s m args below meth c C H locs ls hP hS hl
  obtain ⟨y, cc, nL, rt⟩ := md
  cases hrt
  cases hX
  exact W.vret C.1 C.2.1 C.2.2.2.1 (fun t ht hW => ⟨rfl, by rw [ht]; exact hP, hS.F ht⟩) hS.2.2 hd C.2.2.2.2.1
end Rows
end
section
/-! ===== calls ===== -/
section Calls
variable {l : Launch} {sh : List ShE} {d : Nat} {md : Md} {pc : Nat} {L : List (Nat × Value)} {S : List Value} {σ : St} {X Y : Option (Int32 × St)}
theorem pxx_blind {sh : List ShE} {D : va_G} {ca : Nat → ClassId} {ad : Nat → Nat} {σ : St} {av : List Value} : FrameBlind (va_Pc av (Pxx sh D ca ad σ)) := fun a U g mk h => ⟨h.1, h.2.1, h.2.2.calling g mk a⟩
theorem pxx_at {sh : List ShE} {D : va_G} {ca : Nat → ClassId} {ad : Nat → Nat} {σ : St} {s U : State} {H : Heap} {locs : List Loc} (hP : va_P D vwCl (shW sh ad ca σ) H) (hS : va_S (fA sh ad) s.heap H locs) (hK : Kx sh D ca ad s) (hU : U.heap = H) (hW : s.WarmedH U.vm) : Pxx sh D ca ad σ U := ⟨by rw [hU]; exact hP, hK.warm hW (fun a h1 h2 => by rw [hU]; exact hS.2.1 a h1 h2)⟩
theorem rmd_ok {d1 d' nL : Nat} (h : d1 + 1 ≤ d') (hn : nL ≤ 40) : (rmd (d' - 1)).frames + 1 ≤ (rmd d').frames ∧ 8 + (nL + 11) + (rmd (d' - 1)).locals ≤ (rmd d').locals := by
  show d' - 1 + 1 ≤ d' ∧ 8 + (nL + 11) + 60 * (d' - 1) ≤ 60 * d'
  omega
theorem cxx_fix {sh : List ShE} {md : Md} {D : va_G} {ca : Nat → ClassId} {ad : Nat → Nat} {p : Program} {s : State} {m : MethodId} {args : Array Value} {meth : Method} {c : Code} (C : Cxx sh md D ca ad p s m args meth c) : CallFix p m c md.2.1 md.2.2.1 s args tblG md.1.cls := ⟨C.1, C.2.1, C.2.2.1, C.2.2.2.2.2.1, C.2.2.2.2.2.2.1⟩
/-- words of an instance method, of a static one -/
def CV (cd : Md) (n : Nat) : Prop := Cond.code cd.1 cd.2.1 cd.2.2.1 cd.2.2.2 ∈ tblG ∧ Cond.instanceMethod cd.1 ∈ tblG ∧ Cond.selects cd.1.cls cd.1 cd.1 ∈ tblG ∧ Cond.initialized cd.1.cls ∈ tblG ∧ (cd.1.cls ≠ "java/lang/invoke/MethodHandle" ∧ cd.1.cls ≠ "java/lang/invoke/VarHandle" ∧ (parseMethodDescriptor cd.1.desc).map (fun d => d.parameters.length) = some n) ∧ cd.2.2.1 ≤ 40
def CS (cd : Md) (n : Nat) : Prop := Cond.code cd.1 cd.2.1 cd.2.2.1 cd.2.2.2 ∈ tblG ∧ Cond.static cd.1 ∈ tblG ∧ Cond.initialized cd.1.cls ∈ tblG ∧ (cd.1.cls ≠ "java/lang/invoke/MethodHandle" ∧ cd.1.cls ≠ "java/lang/invoke/VarHandle" ∧ (parseMethodDescriptor cd.1.desc).map (fun d => d.parameters.length) = some n) ∧ cd.2.2.1 ≤ 40
theorem mws_in {cd : Md} (h : Cond.code cd.1 cd.2.1 cd.2.2.1 cd.2.2.2 ∈ tblG) : GoodIn tblG (mws cd) := tblG_in fun w hw => (List.mem_cons.mp hw).elim (fun e => by rw [e]; exact h) id
theorem after_call {sh : List ShE} {rt : Option FieldType} {r1 : Int32} {σ1 : St} {D : va_G} {ca : Nat → ClassId} {ad : Nat → Nat} {s st₀ t T' : State} {H : Heap} {locs L2 : List Loc} (hS : va_S (fA sh ad) s.heap H locs) (hL : ∀ q ∈ L2, fA sh ad q.base) (h0 : st₀.heap = H) (e1 : T'.heap = t.heap) (hF : va_F (fA sh ad) st₀ t) : va_S (fA sh ad) s.heap T'.heap (locs ++ L2) := by
  refine ⟨Nat.le_trans hS.1 (by rw [e1, ← h0]; exact hF.1), fun q h1 h2 => ?_, fun q hq => (List.mem_append.mp hq).elim (hS.2.2 q) (hL q)⟩
  rw [e1, hF.2 q (by rw [h0]; exact Nat.lt_of_lt_of_le h1 hS.1) h2, h0]
  exact hS.2.1 q h1 h2
theorem ux_callVi {ty : FieldType} {cd : Md} {d1 n index ci o : Nat} {As : List Value} {fs : List (Option Nat)} {q : vw_C} {XX : Option (Int32 × St)} {KK : Int32 → St → Option (Int32 × St)} (hM : Spc l sh d1 cd (.ref o :: As) σ XX) (hdd : d1 + 1 ≤ d) (cv : CV cd n) (hw : Cond.methodLink md.1.cls index cd.1 ∈ tblG) (hrt : cd.2.2.2 = some ty) (hn : As.length = n) (ho : sh[o]? = some (.inr (.inr (ci, fs)))) (hc : vwCl[ci]? = some q) (hq : q.1 = cd.1.cls) (hroom : (S.map fun v => v.category).sum ≤ 8) (hd : decode md.2.1 pc = .ok (.invokevirtual index, 3)) (k : ∀ (r1 : Int32) (σ1 : St), XX = some (r1, σ1) → Ux l sh d md (pc + 3) L (.int r1 :: S) σ1 (KK r1 σ1)) : Ux l sh d md pc L (As.reverse ++ .ref o :: S) σ (bnd XX KK) := by
  intro r σ' hX d' hd' D ca ad p e s m args below meth c C H locs ls hP hS hl
  obtain ⟨r1, σ1, hX1, hK⟩ := bnd_some hX
  have hm1 := hM r1 σ1 hX1 (d' - 1) (by omega) D ca ad
  have hts := C.2.2.2.2.2.2.1
  have hsh : (S.map (cvv ad)).map (fun v => v.category) = S.map (fun v => v.category) := by rw [List.map_map]; congr 1; funext v; exact cvv_cat ad v
  have hrecv := va_recv (cl := vwCl) (tys := Tys ca) (ws := shW sh ad ca σ) (D := D) C.2.2.2.2.2.2.2.1 hP (q0 := o) hc (shW_get ho)
  rw [hq] at hrecv
  have hrun := va_runV (C := cd.1.cls) (n := n) (b := ad o) (As := As.map (cvv ad)) (rest := S.map (cvv ad)) (g := F0 m pc ls ((As.reverse ++ .ref o :: S).map (cvv ad))) (l := l) (e := e) (below := below) (meth := meth) (locs := locs) (cells := 0) (slots := 0) (H := H) (R := rmd d') (cxx_fix C) hm1
    (by
      have hb : CallB (rmd d') s args md.1.cls index cd.1 cd.2.1 cd.2.2.1 cd.2.2.2 (mws cd) (rmd (d' - 1)) 0 0 n := callB_of (Ts := tblG) n hts (mws_in cv.1) rfl rfl rfl (hts _ cv.2.2.2.1) (hts _ hw) cv.2.2.2.2.1 (rmd_ok (d1 := d1) (by omega) cv.2.2.2.2.2)
      exact ⟨hb, hts _ cv.2.1, hts _ cv.2.2.1⟩)
    ⟨pxx_blind, hrecv, fun U hU hW => ⟨rfl, pxx_at hP hS C.2.2.2.2.2.2.2 hU hW⟩⟩ rfl (by rw [List.length_map]; exact hn) hl.1 (by simp [List.map_append, List.map_reverse, cvv]) (by rw [hsh]; exact (show 2 * JFrame.monitorRoom _ + _ ≤ 8 from by first | (simpa [JFrame.monitorRoom] using hroom) | exact hroom)) hd ⟨Nat.zero_le _, Nat.zero_le _⟩
  intro T hT X0
  obtain ⟨v, st₀, t, T', L2, h0, X', hL, e1, e2, ⟨ho, hP1, hF⟩, st⟩ := hrun T hT X0
  rw [hrt] at ho
  cases ho
  obtain ⟨t2, a1, b1⟩ := k r1 σ1 hX1 r σ' hK d' hd' D ca ad p e s m args below meth c C T'.heap (locs ++ L2) ls (by rw [e1]; exact hP1) (after_call (rt := cd.2.2.2) (r1 := r1) (σ1 := σ1) (D := D) (ca := ca) hS hL h0 e1 hF) hl T' rfl X'
  exact ⟨t2, st t2 a1, b1⟩
theorem ux_callSi {ty : FieldType} {cd : Md} {d1 n index : Nat} {As : List Value} {XX : Option (Int32 × St)} {KK : Int32 → St → Option (Int32 × St)}  (hM : Spc l sh d1 cd As σ XX) (hdd : d1 + 1 ≤ d) (cv : CS cd n) (hw : Cond.methodLink md.1.cls index cd.1 ∈ tblG) (hrt : cd.2.2.2 = some ty) (hn : As.length = n) (hroom : (S.map fun v => v.category).sum ≤ 8) (hd : decode md.2.1 pc = .ok (.invokestatic index, 3)) (k : ∀ (r1 : Int32) (σ1 : St), XX = some (r1, σ1) → Ux l sh d md (pc + 3) L (.int r1 :: S) σ1 (KK r1 σ1)) : Ux l sh d md pc L (As.reverse ++ S) σ (bnd XX KK) := by
  intro r σ' hX d' hd' D ca ad p e s m args below meth c C H locs ls hP hS hl
  obtain ⟨r1, σ1, hX1, hK⟩ := bnd_some hX
  have hm1 := hM r1 σ1 hX1 (d' - 1) (by omega) D ca ad
  have hts := C.2.2.2.2.2.2.1
  have hsh : (S.map (cvv ad)).map (fun v => v.category) = S.map (fun v => v.category) := by rw [List.map_map]; congr 1; funext v; exact cvv_cat ad v
  have hrun := va_runS (n := n) (As := As.map (cvv ad)) (rest := S.map (cvv ad)) (g := F0 m pc ls ((As.reverse ++ S).map (cvv ad))) (l := l) (e := e) (below := below) (meth := meth) (locs := locs) (cells := 0) (slots := 0) (H := H) (R := rmd d') (cxx_fix C) hm1
    ⟨callB_of (Ts := tblG) n hts (mws_in cv.1) rfl rfl rfl (hts _ cv.2.2.1) (hts _ hw) cv.2.2.2.1 (rmd_ok (d1 := d1) (by omega) cv.2.2.2.2), hts _ cv.2.1⟩
    ⟨pxx_blind, fun U hU hW => ⟨rfl, pxx_at hP hS C.2.2.2.2.2.2.2 hU hW⟩⟩ rfl (by rw [List.length_map]; exact hn) hl.1 (by simp [List.map_append, List.map_reverse]) (by rw [hsh]; exact (show 2 * JFrame.monitorRoom _ + _ ≤ 8 from by first | (simpa [JFrame.monitorRoom] using hroom) | exact hroom)) hd ⟨Nat.zero_le _, Nat.zero_le _⟩
  intro T hT X0
  obtain ⟨v, st₀, t, T', L2, h0, X', hL, e1, e2, ⟨ho, hP1, hF⟩, st⟩ := hrun T hT X0
  rw [hrt] at ho
  cases ho
  obtain ⟨t2, a1, b1⟩ := k r1 σ1 hX1 r σ' hK d' hd' D ca ad p e s m args below meth c C T'.heap (locs ++ L2) ls (by rw [e1]; exact hP1) (after_call (rt := cd.2.2.2) (r1 := r1) (σ1 := σ1) (D := D) (ca := ca) hS hL h0 e1 hF) hl T' rfl X'
  exact ⟨t2, st t2 a1, b1⟩
theorem ux_callNi {ty : FieldType} {cd : Md} {d1 n index : Nat} {As : List Value} {XX : Option (Int32 × St)} {KK : Int32 → St → Option (Int32 × St)} {host : String} (hM : Spc l sh d1 cd As σ XX) (hdd : d1 + 1 ≤ d) (cv : CS cd n) (hw : (md.1.cls, index, cd.1, host) ∈ nstM) (hrt : cd.2.2.2 = some ty) (hn : As.length = n) (hroom : (S.map fun v => v.category).sum ≤ 8) (hd : decode md.2.1 pc = .ok (.invokestatic index, 3)) (k : ∀ (r1 : Int32) (σ1 : St), XX = some (r1, σ1) → Ux l sh d md (pc + 3) L (.int r1 :: S) σ1 (KK r1 σ1)) : Ux l sh d md pc L (As.reverse ++ S) σ (bnd XX KK) := by
  intro r σ' hX d' hd' D ca ad p e s m args below meth c C H locs ls hP hS hl
  obtain ⟨r1, σ1, hX1, hK⟩ := bnd_some hX
  have hm1 := hM r1 σ1 hX1 (d' - 1) (by omega) D ca ad
  have hts := C.2.2.2.2.2.2.1
  have hsh : (S.map (cvv ad)).map (fun v => v.category) = S.map (fun v => v.category) := by rw [List.map_map]; congr 1; funext v; exact cvv_cat ad v
  have hrun := va_runSN (host := host) (n := n) (As := As.map (cvv ad)) (rest := S.map (cvv ad)) (g := F0 m pc ls ((As.reverse ++ S).map (cvv ad))) (l := l) (e := e) (below := below) (meth := meth) (locs := locs) (cells := 0) (slots := 0) (H := H) (R := rmd d') (cxx_fix C) hm1
    ⟨va_cnB (Ts := tblG) n hts (mws_in cv.1) rfl rfl rfl (C.2.2.2.2.2.2.2.2.2.2.1 _ hw) (hts _ cv.2.2.1) cv.2.2.2.1 (rmd_ok (d1 := d1) (by omega) cv.2.2.2.2), hts _ cv.2.1, trivial⟩
    ⟨pxx_blind, fun U hU hW => ⟨rfl, pxx_at hP hS C.2.2.2.2.2.2.2 hU hW⟩⟩ rfl (by rw [List.length_map]; exact hn) hl.1 (by simp [List.map_append, List.map_reverse]) (by rw [hsh]; exact (show 2 * JFrame.monitorRoom _ + _ ≤ 8 from by first | (simpa [JFrame.monitorRoom] using hroom) | exact hroom)) hd ⟨Nat.zero_le _, Nat.zero_le _⟩
  intro T hT X0
  obtain ⟨v, st₀, t, T', L2, h0, X', hL, e1, e2, ⟨ho, hP1, hF⟩, st⟩ := hrun T hT X0
  rw [hrt] at ho
  cases ho
  obtain ⟨t2, a1, b1⟩ := k r1 σ1 hX1 r σ' hK d' hd' D ca ad p e s m args below meth c C T'.heap (locs ++ L2) ls (by rw [e1]; exact hP1) (after_call (rt := cd.2.2.2) (r1 := r1) (σ1 := σ1) (D := D) (ca := ca) hS hL h0 e1 hF) hl T' rfl X'
  exact ⟨t2, st t2 a1, b1⟩
theorem ux_callVv {cd : Md} {d1 n index ci o : Nat} {As : List Value} {fs : List (Option Nat)} {q : vw_C} {XX : Option (Int32 × St)} {KK : Int32 → St → Option (Int32 × St)} (hM : Spc l sh d1 cd (.ref o :: As) σ XX) (hdd : d1 + 1 ≤ d) (cv : CV cd n) (hw : Cond.methodLink md.1.cls index cd.1 ∈ tblG) (hrt : cd.2.2.2 = none) (hn : As.length = n) (ho : sh[o]? = some (.inr (.inr (ci, fs)))) (hc : vwCl[ci]? = some q) (hq : q.1 = cd.1.cls) (hroom : (S.map fun v => v.category).sum ≤ 8) (hd : decode md.2.1 pc = .ok (.invokevirtual index, 3)) (k : ∀ (r1 : Int32) (σ1 : St), XX = some (r1, σ1) → Ux l sh d md (pc + 3) L S σ1 (KK r1 σ1)) : Ux l sh d md pc L (As.reverse ++ .ref o :: S) σ (bnd XX KK) := by
  intro r σ' hX d' hd' D ca ad p e s m args below meth c C H locs ls hP hS hl
  obtain ⟨r1, σ1, hX1, hK⟩ := bnd_some hX
  have hm1 := hM r1 σ1 hX1 (d' - 1) (by omega) D ca ad
  have hts := C.2.2.2.2.2.2.1
  have hsh : (S.map (cvv ad)).map (fun v => v.category) = S.map (fun v => v.category) := by rw [List.map_map]; congr 1; funext v; exact cvv_cat ad v
  have hrecv := va_recv (cl := vwCl) (tys := Tys ca) (ws := shW sh ad ca σ) (D := D) C.2.2.2.2.2.2.2.1 hP (q0 := o) hc (shW_get ho)
  rw [hq] at hrecv
  have hrun := va_runV (C := cd.1.cls) (n := n) (b := ad o) (As := As.map (cvv ad)) (rest := S.map (cvv ad)) (g := F0 m pc ls ((As.reverse ++ .ref o :: S).map (cvv ad))) (l := l) (e := e) (below := below) (meth := meth) (locs := locs) (cells := 0) (slots := 0) (H := H) (R := rmd d') (cxx_fix C) hm1
    (by
      have hb : CallB (rmd d') s args md.1.cls index cd.1 cd.2.1 cd.2.2.1 cd.2.2.2 (mws cd) (rmd (d' - 1)) 0 0 n := callB_of (Ts := tblG) n hts (mws_in cv.1) rfl rfl rfl (hts _ cv.2.2.2.1) (hts _ hw) cv.2.2.2.2.1 (rmd_ok (d1 := d1) (by omega) cv.2.2.2.2.2)
      exact ⟨hb, hts _ cv.2.1, hts _ cv.2.2.1⟩)
    ⟨pxx_blind, hrecv, fun U hU hW => ⟨rfl, pxx_at hP hS C.2.2.2.2.2.2.2 hU hW⟩⟩ rfl (by rw [List.length_map]; exact hn) hl.1 (by simp [List.map_append, List.map_reverse, cvv]) (by rw [hsh]; exact (show 2 * JFrame.monitorRoom _ + _ ≤ 8 from by first | (simpa [JFrame.monitorRoom] using hroom) | exact hroom)) hd ⟨Nat.zero_le _, Nat.zero_le _⟩
  intro T hT X0
  obtain ⟨v, st₀, t, T', L2, h0, X', hL, e1, e2, ⟨ho, hP1, hF⟩, st⟩ := hrun T hT X0
  rw [hrt] at ho
  cases ho
  obtain ⟨t2, a1, b1⟩ := k r1 σ1 hX1 r σ' hK d' hd' D ca ad p e s m args below meth c C T'.heap (locs ++ L2) ls (by rw [e1]; exact hP1) (after_call (rt := cd.2.2.2) (r1 := r1) (σ1 := σ1) (D := D) (ca := ca) hS hL h0 e1 hF) hl T' rfl X'
  exact ⟨t2, st t2 a1, b1⟩
theorem ux_callSv {cd : Md} {d1 n index : Nat} {As : List Value} {XX : Option (Int32 × St)} {KK : Int32 → St → Option (Int32 × St)}  (hM : Spc l sh d1 cd As σ XX) (hdd : d1 + 1 ≤ d) (cv : CS cd n) (hw : Cond.methodLink md.1.cls index cd.1 ∈ tblG) (hrt : cd.2.2.2 = none) (hn : As.length = n) (hroom : (S.map fun v => v.category).sum ≤ 8) (hd : decode md.2.1 pc = .ok (.invokestatic index, 3)) (k : ∀ (r1 : Int32) (σ1 : St), XX = some (r1, σ1) → Ux l sh d md (pc + 3) L S σ1 (KK r1 σ1)) : Ux l sh d md pc L (As.reverse ++ S) σ (bnd XX KK) := by
  intro r σ' hX d' hd' D ca ad p e s m args below meth c C H locs ls hP hS hl
  obtain ⟨r1, σ1, hX1, hK⟩ := bnd_some hX
  have hm1 := hM r1 σ1 hX1 (d' - 1) (by omega) D ca ad
  have hts := C.2.2.2.2.2.2.1
  have hsh : (S.map (cvv ad)).map (fun v => v.category) = S.map (fun v => v.category) := by rw [List.map_map]; congr 1; funext v; exact cvv_cat ad v
  have hrun := va_runS (n := n) (As := As.map (cvv ad)) (rest := S.map (cvv ad)) (g := F0 m pc ls ((As.reverse ++ S).map (cvv ad))) (l := l) (e := e) (below := below) (meth := meth) (locs := locs) (cells := 0) (slots := 0) (H := H) (R := rmd d') (cxx_fix C) hm1
    ⟨callB_of (Ts := tblG) n hts (mws_in cv.1) rfl rfl rfl (hts _ cv.2.2.1) (hts _ hw) cv.2.2.2.1 (rmd_ok (d1 := d1) (by omega) cv.2.2.2.2), hts _ cv.2.1⟩
    ⟨pxx_blind, fun U hU hW => ⟨rfl, pxx_at hP hS C.2.2.2.2.2.2.2 hU hW⟩⟩ rfl (by rw [List.length_map]; exact hn) hl.1 (by simp [List.map_append, List.map_reverse]) (by rw [hsh]; exact (show 2 * JFrame.monitorRoom _ + _ ≤ 8 from by first | (simpa [JFrame.monitorRoom] using hroom) | exact hroom)) hd ⟨Nat.zero_le _, Nat.zero_le _⟩
  intro T hT X0
  obtain ⟨v, st₀, t, T', L2, h0, X', hL, e1, e2, ⟨ho, hP1, hF⟩, st⟩ := hrun T hT X0
  rw [hrt] at ho
  cases ho
  obtain ⟨t2, a1, b1⟩ := k r1 σ1 hX1 r σ' hK d' hd' D ca ad p e s m args below meth c C T'.heap (locs ++ L2) ls (by rw [e1]; exact hP1) (after_call (rt := cd.2.2.2) (r1 := r1) (σ1 := σ1) (D := D) (ca := ca) hS hL h0 e1 hF) hl T' rfl X'
  exact ⟨t2, st t2 a1, b1⟩
theorem ux_callNv {cd : Md} {d1 n index : Nat} {As : List Value} {XX : Option (Int32 × St)} {KK : Int32 → St → Option (Int32 × St)} {host : String} (hM : Spc l sh d1 cd As σ XX) (hdd : d1 + 1 ≤ d) (cv : CS cd n) (hw : (md.1.cls, index, cd.1, host) ∈ nstM) (hrt : cd.2.2.2 = none) (hn : As.length = n) (hroom : (S.map fun v => v.category).sum ≤ 8) (hd : decode md.2.1 pc = .ok (.invokestatic index, 3)) (k : ∀ (r1 : Int32) (σ1 : St), XX = some (r1, σ1) → Ux l sh d md (pc + 3) L S σ1 (KK r1 σ1)) : Ux l sh d md pc L (As.reverse ++ S) σ (bnd XX KK) := by
  intro r σ' hX d' hd' D ca ad p e s m args below meth c C H locs ls hP hS hl
  obtain ⟨r1, σ1, hX1, hK⟩ := bnd_some hX
  have hm1 := hM r1 σ1 hX1 (d' - 1) (by omega) D ca ad
  have hts := C.2.2.2.2.2.2.1
  have hsh : (S.map (cvv ad)).map (fun v => v.category) = S.map (fun v => v.category) := by rw [List.map_map]; congr 1; funext v; exact cvv_cat ad v
  have hrun := va_runSN (host := host) (n := n) (As := As.map (cvv ad)) (rest := S.map (cvv ad)) (g := F0 m pc ls ((As.reverse ++ S).map (cvv ad))) (l := l) (e := e) (below := below) (meth := meth) (locs := locs) (cells := 0) (slots := 0) (H := H) (R := rmd d') (cxx_fix C) hm1
    ⟨va_cnB (Ts := tblG) n hts (mws_in cv.1) rfl rfl rfl (C.2.2.2.2.2.2.2.2.2.2.1 _ hw) (hts _ cv.2.2.1) cv.2.2.2.1 (rmd_ok (d1 := d1) (by omega) cv.2.2.2.2), hts _ cv.2.1, trivial⟩
    ⟨pxx_blind, fun U hU hW => ⟨rfl, pxx_at hP hS C.2.2.2.2.2.2.2 hU hW⟩⟩ rfl (by rw [List.length_map]; exact hn) hl.1 (by simp [List.map_append, List.map_reverse]) (by rw [hsh]; exact (show 2 * JFrame.monitorRoom _ + _ ≤ 8 from by first | (simpa [JFrame.monitorRoom] using hroom) | exact hroom)) hd ⟨Nat.zero_le _, Nat.zero_le _⟩
  intro T hT X0
  obtain ⟨v, st₀, t, T', L2, h0, X', hL, e1, e2, ⟨ho, hP1, hF⟩, st⟩ := hrun T hT X0
  rw [hrt] at ho
  cases ho
  obtain ⟨t2, a1, b1⟩ := k r1 σ1 hX1 r σ' hK d' hd' D ca ad p e s m args below meth c C T'.heap (locs ++ L2) ls (by rw [e1]; exact hP1) (after_call (rt := cd.2.2.2) (r1 := r1) (σ1 := σ1) (D := D) (ca := ca) hS hL h0 e1 hF) hl T' rfl X'
  exact ⟨t2, st t2 a1, b1⟩
theorem ux_mmax {x y : Int32} {index : Nat} (hdd : 1 ≤ d) (hroom : (S.map fun v => v.category).sum ≤ 8) (hw : Cond.methodLink md.1.cls index Lib.Math.max.name ∈ tblG) (hst : Cond.static Lib.Math.max.name ∈ tblG) (hin : Cond.initialized "java/lang/Math" ∈ tblG) (hco : Cond.code Lib.Math.max.name Lib.Math.max.code 2 (some .int) ∈ tblG) (hd : decode md.2.1 pc = .ok (.invokestatic index, 3)) (k : Ux l sh d md (pc + 3) L (.int (if x < y then y else x) :: S) σ X) : Ux l sh d md pc L (.int y :: .int x :: S) σ X := by
  intro r σ' hX d' hd' D ca ad p e s m args below meth c C H locs ls hP hS hl
  have hts := C.2.2.2.2.2.2.1
  have hsh : (S.map (cvv ad)).map (fun v => v.category) = S.map (fun v => v.category) := by rw [List.map_map]; congr 1; funext v; exact cvv_cat ad v
  refine va_mmax C.1 C.2.1 (by rw [C.2.2.1]; exact hl.1.symm) C.2.2.2.2.2.1 (hts _ hw) (hts _ hst) (hts _ hin) (hts _ hco) (show 1 ≤ d' by omega) (by rw [hsh]; show _ ≤ 60 * d'; omega) (Nat.zero_le _) (Nat.zero_le _) hd ?_
  exact k r σ' hX d' hd' D ca ad p e s m args below meth c C H locs ls hP hS hl
theorem ux_mmin {x y : Int32} {index : Nat} (hdd : 1 ≤ d) (hroom : (S.map fun v => v.category).sum ≤ 8) (hw : Cond.methodLink md.1.cls index Lib.Math.min.name ∈ tblG) (hst : Cond.static Lib.Math.min.name ∈ tblG) (hin : Cond.initialized "java/lang/Math" ∈ tblG) (hco : Cond.code Lib.Math.min.name Lib.Math.min.code 2 (some .int) ∈ tblG) (hd : decode md.2.1 pc = .ok (.invokestatic index, 3)) (k : Ux l sh d md (pc + 3) L (.int (if y < x then y else x) :: S) σ X) : Ux l sh d md pc L (.int y :: .int x :: S) σ X := by
  intro r σ' hX d' hd' D ca ad p e s m args below meth c C H locs ls hP hS hl
  have hts := C.2.2.2.2.2.2.1
  have hsh : (S.map (cvv ad)).map (fun v => v.category) = S.map (fun v => v.category) := by rw [List.map_map]; congr 1; funext v; exact cvv_cat ad v
  refine va_mmin C.1 C.2.1 (by rw [C.2.2.1]; exact hl.1.symm) C.2.2.2.2.2.1 (hts _ hw) (hts _ hst) (hts _ hin) (hts _ hco) (show 1 ≤ d' by omega) (by rw [hsh]; show _ ≤ 60 * d'; omega) (Nat.zero_le _) (Nat.zero_le _) hd ?_
  exact k r σ' hX d' hd' D ca ad p e s m args below meth c C H locs ls hP hS hl
theorem cpb_some {sp dp n : Int32} {n0 n1 : Nat} (h : cpb sp dp n n0 n1 = true) : ¬ sp < 0 ∧ ¬ dp < 0 ∧ ¬ n < 0 ∧ sp.toNatClampNeg + n.toNatClampNeg ≤ n0 ∧ dp.toNatClampNeg + n.toNatClampNeg ≤ n1 := by
  obtain ⟨h1, h2, h3, h4, h5⟩ := of_decide_eq_true h
  have z : (0 : Int32).toInt = 0 := rfl
  have c : ∀ x : Int32, 0 ≤ x.toInt → (x.toNatClampNeg : Int) = x.toInt := fun x hx => by
    show ((x.toInt.toNat : Nat) : Int) = x.toInt
    omega
  have l : ∀ x : Int32, 0 ≤ x.toInt → ¬ x < 0 := fun x hx q => by
    have := Int32.lt_iff_toInt_lt.mp q
    rw [z] at this
    omega
  refine ⟨l _ h1, l _ h2, l _ h3, ?_, ?_⟩
  · have := c sp h1
    have := c n h3
    omega
  · have := c dp h2
    have := c n h3
    omega
theorem acopy_words : nativeFrameWords "java/lang/System" "arraycopy" 5 ≤ 100 := by decide +kernel
theorem ux_acopy {sp dp n : Int32} {a0 a1 n0 n1 index : Nat} (hdd : 2 ≤ d) (hroom : (S.map fun v => v.category).sum ≤ 8) (hw : Cond.methodLink md.1.cls index arraycopyName ∈ tblG) (hnat : Cond.native arraycopyName ∈ tblG) (hst : Cond.static arraycopyName ∈ tblG) (hin : Cond.initialized "java/lang/System" ∈ tblG) (h0 : sh[a0]? = some (.inl n0)) (h1 : sh[a1]? = some (.inl n1)) (hd : decode md.2.1 pc = .ok (.invokestatic index, 3)) (k : Ux l sh d md (pc + 3) L S (sC σ a0 sp.toNatClampNeg a1 dp.toNatClampNeg n.toNatClampNeg) X) : Ux l sh d md pc L (.int n :: .int dp :: .ref a1 :: .int sp :: .ref a0 :: S) σ (grd (cpb sp dp n n0 n1) X) := by
  intro r σ' hX d' hd' D ca ad p e s m args below meth c C H locs ls hP hS hl
  have hts := C.2.2.2.2.2.2.1
  have hsh : (S.map (cvv ad)).map (fun v => v.category) = S.map (fun v => v.category) := by rw [List.map_map]; congr 1; funext v; exact cvv_cat ad v
  obtain ⟨g1, g2, g3, g4, g5⟩ := cpb_some (grd_some hX).1
  have hloc : (S.map fun v => v.category).sum + (nativeFrameWords "java/lang/System" "arraycopy" 5 + 11) ≤ (rmd d').locals := by
    show _ ≤ 60 * d'
    have := acopy_words
    omega
  refine va_copyi (cl := vwCl) (tys := Tys ca) (ws := shW sh ad ca σ) (D := D) (A := fA sh ad) C.1 C.2.1 (by rw [C.2.2.1]; exact hl.1.symm) C.2.2.2.2.2.1 (hts _ hw) (hts _ hnat) (hts _ hst) (hts _ hin) C.2.2.2.2.2.2.2.1 hP (shW_D σ C.2.2.2.2.2.2.2.2.1) hS a0 a1 0 0 (shW_get h0) (shW_get h1) rfl rfl rfl g1 g2 g3 g4 g5 (fun _ _ => rfl) (show 1 ≤ d' by omega) (by rw [hsh]; exact hloc) hd (fun H locs hP _ hS => ?_)
  have hP : va_P D vwCl (shW sh ad ca (sC σ a0 sp.toNatClampNeg a1 dp.toNatClampNeg n.toNatClampNeg)) H := by rw [← shW_cpy h1]; exact hP
  exact k r σ' (grd_some hX).2 d' hd' D ca ad p e s m args below meth c C H locs ls hP hS hl
end Calls
end
