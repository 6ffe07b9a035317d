def yXI_bitCount : MethodName := ⟨"java/lang/Integer", "bitCount", "(I)I"⟩
abbrev cXI_bitCount : ByteArray := prog_10_method_49_code
theorem wk_0 : Cond.selects "RopeTreaty" ⟨"RopeTreaty", "error", "(I)I"⟩ ⟨"RopeTreaty", "error", "(I)I"⟩ ∈ tblG := wdG (i := 0) (by decide +kernel) rfl
theorem wk_1 : Cond.selects "RopeTreaty$Text" ⟨"RopeTreaty$Text", "work", "(III)I"⟩ ⟨"RopeTreaty$Text", "work", "(III)I"⟩ ∈ tblG := wdG (i := 1) (by decide +kernel) rfl
theorem wk_2 : Cond.selects "RopeTreaty$Reader" ⟨"RopeTreaty$Reader", "readOr", "(I)V"⟩ ⟨"RopeTreaty$Reader", "readOr", "(I)V"⟩ ∈ tblG := wdG (i := 2) (by decide +kernel) rfl
theorem wk_3 : Cond.selects "RopeTreaty$Reader" ⟨"RopeTreaty$Reader", "readAnd", "(I)V"⟩ ⟨"RopeTreaty$Reader", "readAnd", "(I)V"⟩ ∈ tblG := wdG (i := 3) (by decide +kernel) rfl
theorem wk_4 : Cond.selects "RopeTreaty$Reader" ⟨"RopeTreaty$Reader", "readLikeness", "(I)V"⟩ ⟨"RopeTreaty$Reader", "readLikeness", "(I)V"⟩ ∈ tblG := wdG (i := 4) (by decide +kernel) rfl
theorem wk_5 : Cond.selects "RopeTreaty$Reader" ⟨"RopeTreaty$Reader", "readSum", "(I)V"⟩ ⟨"RopeTreaty$Reader", "readSum", "(I)V"⟩ ∈ tblG := wdG (i := 5) (by decide +kernel) rfl
theorem wk_6 : Cond.selects "RopeTreaty$Reader" ⟨"RopeTreaty$Reader", "readProduct", "(I)V"⟩ ⟨"RopeTreaty$Reader", "readProduct", "(I)V"⟩ ∈ tblG := wdG (i := 6) (by decide +kernel) rfl
theorem wk_7 : Cond.selects "RopeTreaty$Reader" ⟨"RopeTreaty$Reader", "readPart", "(I)V"⟩ ⟨"RopeTreaty$Reader", "readPart", "(I)V"⟩ ∈ tblG := wdG (i := 7) (by decide +kernel) rfl
theorem wk_8 : Cond.selects "RopeTreaty$Reader" ⟨"RopeTreaty$Reader", "nextName", "()I"⟩ ⟨"RopeTreaty$Reader", "nextName", "()I"⟩ ∈ tblG := wdG (i := 8) (by decide +kernel) rfl
theorem wk_9 : Cond.selects "RopeTreaty$Reader" ⟨"RopeTreaty$Reader", "isNext", "(C)Z"⟩ ⟨"RopeTreaty$Reader", "isNext", "(C)Z"⟩ ∈ tblG := wdG (i := 9) (by decide +kernel) rfl
theorem wk_10 : Cond.selects "RopeTreaty$Reader" ⟨"RopeTreaty$Reader", "write", "(I)V"⟩ ⟨"RopeTreaty$Reader", "write", "(I)V"⟩ ∈ tblG := wdG (i := 10) (by decide +kernel) rfl
theorem wk_11 : Cond.selects "RopeTreaty$Reader" ⟨"RopeTreaty$Reader", "isDigit", "()Z"⟩ ⟨"RopeTreaty$Reader", "isDigit", "()Z"⟩ ∈ tblG := wdG (i := 11) (by decide +kernel) rfl
theorem wk_12 : Cond.selects "RopeTreaty$Reader" ⟨"RopeTreaty$Reader", "readNumber", "()V"⟩ ⟨"RopeTreaty$Reader", "readNumber", "()V"⟩ ∈ tblG := wdG (i := 12) (by decide +kernel) rfl
theorem wk_13 : Cond.selects "RopeTreaty$Reader" ⟨"RopeTreaty$Reader", "close", "()V"⟩ ⟨"RopeTreaty$Reader", "close", "()V"⟩ ∈ tblG := wdG (i := 13) (by decide +kernel) rfl
theorem wk_14 : Cond.selects "RopeTreaty$Rope" ⟨"RopeTreaty$Rope", "skip", "(I)I"⟩ ⟨"RopeTreaty$Rope", "skip", "(I)I"⟩ ∈ tblG := wdG (i := 14) (by decide +kernel) rfl
theorem wk_15 : Cond.selects "RopeTreaty$Rope" ⟨"RopeTreaty$Rope", "draw", "()I"⟩ ⟨"RopeTreaty$Rope", "draw", "()I"⟩ ∈ tblG := wdG (i := 15) (by decide +kernel) rfl
theorem wk_16 : Cond.selects "RopeTreaty$Rope" ⟨"RopeTreaty$Rope", "onlyAgainst", "(I)I"⟩ ⟨"RopeTreaty$Rope", "onlyAgainst", "(I)I"⟩ ∈ tblG := wdG (i := 16) (by decide +kernel) rfl
theorem wk_17 : Cond.selects "RopeTreaty$Throat" ⟨"RopeTreaty$Throat", "say", "(IIII)I"⟩ ⟨"RopeTreaty$Throat", "say", "(IIII)I"⟩ ∈ tblG := wdG (i := 17) (by decide +kernel) rfl
theorem wk_18 : Cond.selects "RopeTreaty$Throat" ⟨"RopeTreaty$Throat", "work", "(III)I"⟩ ⟨"RopeTreaty$Throat", "work", "(III)I"⟩ ∈ tblG := wdG (i := 18) (by decide +kernel) rfl
theorem wk_19 : Cond.selects "RopeTreaty$Throat" ⟨"RopeTreaty$Throat", "part", "(I)I"⟩ ⟨"RopeTreaty$Throat", "part", "(I)I"⟩ ∈ tblG := wdG (i := 19) (by decide +kernel) rfl
theorem wk_20 : Cond.selects "RopeTreatyModel" ⟨"RopeTreatyModel", "error", "(I)I"⟩ ⟨"RopeTreatyModel", "error", "(I)I"⟩ ∈ tblG := wdG (i := 20) (by decide +kernel) rfl
theorem wk_21 : Cond.selects "RopeTreatyModel" ⟨"RopeTreatyModel", "lets", "(III)V"⟩ ⟨"RopeTreatyModel", "lets", "(III)V"⟩ ∈ tblG := wdG (i := 21) (by decide +kernel) rfl
theorem wk_22 : Cond.selects "RopeTreatyModel" ⟨"RopeTreatyModel", "isJumper", "(I)Z"⟩ ⟨"RopeTreatyModel", "isJumper", "(I)Z"⟩ ∈ tblG := wdG (i := 22) (by decide +kernel) rfl
theorem wk_23 : Cond.selects "RopeTreatyModel" ⟨"RopeTreatyModel", "of", "(II)I"⟩ ⟨"RopeTreatyModel", "of", "(II)I"⟩ ∈ tblG := wdG (i := 23) (by decide +kernel) rfl
theorem wk_24 : Cond.selects "RopeTreatyModel" ⟨"RopeTreatyModel", "costsOf", "(I)I"⟩ ⟨"RopeTreatyModel", "costsOf", "(I)I"⟩ ∈ tblG := wdG (i := 24) (by decide +kernel) rfl
theorem wk_25 : Cond.selects "RopeTreatyModel" ⟨"RopeTreatyModel", "takesOf", "(I)I"⟩ ⟨"RopeTreatyModel", "takesOf", "(I)I"⟩ ∈ tblG := wdG (i := 25) (by decide +kernel) rfl
theorem wk_26 : Cond.selects "RopeTreatyModel" ⟨"RopeTreatyModel", "word", "()I"⟩ ⟨"RopeTreatyModel", "word", "()I"⟩ ∈ tblG := wdG (i := 26) (by decide +kernel) rfl
theorem wk_27 : Cond.selects "RopeTreatyModel" ⟨"RopeTreatyModel", "allIn", "()I"⟩ ⟨"RopeTreatyModel", "allIn", "()I"⟩ ∈ tblG := wdG (i := 27) (by decide +kernel) rfl
theorem wk_28 : Cond.selects "RopeTreatyModel" ⟨"RopeTreatyModel", "isIn", "(I)Z"⟩ ⟨"RopeTreatyModel", "isIn", "(I)Z"⟩ ∈ tblG := wdG (i := 28) (by decide +kernel) rfl
theorem wk_29 : Cond.selects "RopeTreatyModel" ⟨"RopeTreatyModel", "gives", "(IIII)I"⟩ ⟨"RopeTreatyModel", "gives", "(IIII)I"⟩ ∈ tblG := wdG (i := 29) (by decide +kernel) rfl
theorem wk_30 : Cond.selects "RopeTreatyModel" ⟨"RopeTreatyModel", "works", "(I)I"⟩ ⟨"RopeTreatyModel", "works", "(I)I"⟩ ∈ tblG := wdG (i := 30) (by decide +kernel) rfl
theorem wk_31 : Cond.selects "RopeTreatyModel" ⟨"RopeTreatyModel", "becomes", "(II)I"⟩ ⟨"RopeTreatyModel", "becomes", "(II)I"⟩ ∈ tblG := wdG (i := 31) (by decide +kernel) rfl
theorem wk_32 : Cond.selects "RopeTreatyModel" ⟨"RopeTreatyModel", "doesTurn", "()Z"⟩ ⟨"RopeTreatyModel", "doesTurn", "()Z"⟩ ∈ tblG := wdG (i := 32) (by decide +kernel) rfl
theorem wk_33 : Cond.selects "RopeTreatyModel" ⟨"RopeTreatyModel", "likesOf", "(II)I"⟩ ⟨"RopeTreatyModel", "likesOf", "(II)I"⟩ ∈ tblG := wdG (i := 33) (by decide +kernel) rfl
theorem wk_34 : Cond.selects "RopeTreatyModel" ⟨"RopeTreatyModel", "leansOf", "(II)I"⟩ ⟨"RopeTreatyModel", "leansOf", "(II)I"⟩ ∈ tblG := wdG (i := 34) (by decide +kernel) rfl
theorem wk_35 : Cond.selects "RopeTreatyModel" ⟨"RopeTreatyModel", "mayTalk", "(I)Z"⟩ ⟨"RopeTreatyModel", "mayTalk", "(I)Z"⟩ ∈ tblG := wdG (i := 35) (by decide +kernel) rfl
theorem wk_36 : Cond.selects "RopeTreatyModel" ⟨"RopeTreatyModel", "talks", "(I)Z"⟩ ⟨"RopeTreatyModel", "talks", "(I)Z"⟩ ∈ tblG := wdG (i := 36) (by decide +kernel) rfl
theorem wk_37 : Cond.selects "RopeTreatyModel" ⟨"RopeTreatyModel", "isTaken", "(I)Z"⟩ ⟨"RopeTreatyModel", "isTaken", "(I)Z"⟩ ∈ tblG := wdG (i := 37) (by decide +kernel) rfl
theorem wk_38 : Cond.selects "RopeTreatyModel" ⟨"RopeTreatyModel", "doesTake", "(II)Z"⟩ ⟨"RopeTreatyModel", "doesTake", "(II)Z"⟩ ∈ tblG := wdG (i := 38) (by decide +kernel) rfl
theorem wk_39 : Cond.selects "RopeTreatyModel" ⟨"RopeTreatyModel", "any", "()V"⟩ ⟨"RopeTreatyModel", "any", "()V"⟩ ∈ tblG := wdG (i := 39) (by decide +kernel) rfl
theorem wk_40 : Cond.selects "RopeTreatyModel" ⟨"RopeTreatyModel", "all", "()V"⟩ ⟨"RopeTreatyModel", "all", "()V"⟩ ∈ tblG := wdG (i := 40) (by decide +kernel) rfl
theorem wk_41 : Cond.selects "RopeTreatyModel" ⟨"RopeTreatyModel", "compares", "()V"⟩ ⟨"RopeTreatyModel", "compares", "()V"⟩ ∈ tblG := wdG (i := 41) (by decide +kernel) rfl
theorem wk_42 : Cond.selects "RopeTreatyModel" ⟨"RopeTreatyModel", "sum", "()V"⟩ ⟨"RopeTreatyModel", "sum", "()V"⟩ ∈ tblG := wdG (i := 42) (by decide +kernel) rfl
theorem wk_43 : Cond.selects "RopeTreatyModel" ⟨"RopeTreatyModel", "times", "()V"⟩ ⟨"RopeTreatyModel", "times", "()V"⟩ ∈ tblG := wdG (i := 43) (by decide +kernel) rfl
theorem wk_44 : Cond.selects "RopeTreatyModel" ⟨"RopeTreatyModel", "one", "()V"⟩ ⟨"RopeTreatyModel", "one", "()V"⟩ ∈ tblG := wdG (i := 44) (by decide +kernel) rfl
theorem wk_45 : Cond.selects "RopeTreatyModel" ⟨"RopeTreatyModel", "look", "()I"⟩ ⟨"RopeTreatyModel", "look", "()I"⟩ ∈ tblG := wdG (i := 45) (by decide +kernel) rfl
theorem wk_46 : Cond.selects "RopeTreatyModel" ⟨"RopeTreatyModel", "nameOf", "(I)I"⟩ ⟨"RopeTreatyModel", "nameOf", "(I)I"⟩ ∈ tblG := wdG (i := 46) (by decide +kernel) rfl
theorem wk_47 : Cond.selects "RopeTreatyModel" ⟨"RopeTreatyModel", "lays", "(II)V"⟩ ⟨"RopeTreatyModel", "lays", "(II)V"⟩ ∈ tblG := wdG (i := 47) (by decide +kernel) rfl
theorem wk_48 : Cond.selects "RopeTreatyModel" ⟨"RopeTreatyModel", "opens", "(I)V"⟩ ⟨"RopeTreatyModel", "opens", "(I)V"⟩ ∈ tblG := wdG (i := 48) (by decide +kernel) rfl
theorem wk_49 : Cond.selects "RopeTreatyModel" ⟨"RopeTreatyModel", "number", "()V"⟩ ⟨"RopeTreatyModel", "number", "()V"⟩ ∈ tblG := wdG (i := 49) (by decide +kernel) rfl
theorem wk_50 : Cond.selects "RopeTreatyModel" ⟨"RopeTreatyModel", "goes", "()I"⟩ ⟨"RopeTreatyModel", "goes", "()I"⟩ ∈ tblG := wdG (i := 50) (by decide +kernel) rfl
theorem wk_51 : Cond.selects "RopeTreatyModel" ⟨"RopeTreatyModel", "misses", "(I)Z"⟩ ⟨"RopeTreatyModel", "misses", "(I)Z"⟩ ∈ tblG := wdG (i := 51) (by decide +kernel) rfl
theorem wk_52 : Cond.selects "RopeTreatyModel" ⟨"RopeTreatyModel", "drawn", "()Z"⟩ ⟨"RopeTreatyModel", "drawn", "()Z"⟩ ∈ tblG := wdG (i := 52) (by decide +kernel) rfl
theorem wk_53 : Cond.selects "RopeTreatyModel" ⟨"RopeTreatyModel", "draw", "()I"⟩ ⟨"RopeTreatyModel", "draw", "()I"⟩ ∈ tblG := wdG (i := 53) (by decide +kernel) rfl
theorem wk_54 : Cond.selects "RopeTreatyModel" ⟨"RopeTreatyModel", "thinks", "()V"⟩ ⟨"RopeTreatyModel", "thinks", "()V"⟩ ∈ tblG := wdG (i := 54) (by decide +kernel) rfl
theorem wk_55 : Cond.selects "RopeTreatyModel" ⟨"RopeTreatyModel", "goesFor", "(I)V"⟩ ⟨"RopeTreatyModel", "goesFor", "(I)V"⟩ ∈ tblG := wdG (i := 55) (by decide +kernel) rfl
theorem wk_56 : Cond.selects "RopeTreatyModel" ⟨"RopeTreatyModel", "putsBack", "()V"⟩ ⟨"RopeTreatyModel", "putsBack", "()V"⟩ ∈ tblG := wdG (i := 56) (by decide +kernel) rfl
theorem wk_57 : Cond.selects "RopeTreatyModel" ⟨"RopeTreatyModel", "leastLiking", "(I)I"⟩ ⟨"RopeTreatyModel", "leastLiking", "(I)I"⟩ ∈ tblG := wdG (i := 57) (by decide +kernel) rfl
theorem wk_58 : Cond.selects "RopeTreatyModel" ⟨"RopeTreatyModel", "balksOf", "(I)I"⟩ ⟨"RopeTreatyModel", "balksOf", "(I)I"⟩ ∈ tblG := wdG (i := 58) (by decide +kernel) rfl
theorem wk_59 : Cond.selects "RopeTreatyModel" ⟨"RopeTreatyModel", "whoAlone", "(I)I"⟩ ⟨"RopeTreatyModel", "whoAlone", "(I)I"⟩ ∈ tblG := wdG (i := 59) (by decide +kernel) rfl
theorem wk_60 : Cond.selects "RopeTreatyModel" ⟨"RopeTreatyModel", "notThere", "(I)I"⟩ ⟨"RopeTreatyModel", "notThere", "(I)I"⟩ ∈ tblG := wdG (i := 60) (by decide +kernel) rfl
theorem wk_61 : Cond.selects "RopeTreatyModel" ⟨"RopeTreatyModel", "isSo", "(I)Z"⟩ ⟨"RopeTreatyModel", "isSo", "(I)Z"⟩ ∈ tblG := wdG (i := 61) (by decide +kernel) rfl
theorem wk_62 : Cond.selects "RopeTreatyModel" ⟨"RopeTreatyModel", "sings", "(II)I"⟩ ⟨"RopeTreatyModel", "sings", "(II)I"⟩ ∈ tblG := wdG (i := 62) (by decide +kernel) rfl
theorem wk_63 : Cond.selects "RopeTreatyModel" ⟨"RopeTreatyModel", "masterSings", "(II)I"⟩ ⟨"RopeTreatyModel", "masterSings", "(II)I"⟩ ∈ tblG := wdG (i := 63) (by decide +kernel) rfl
theorem wk_64 : Cond.selects "RopeTreatyModel" ⟨"RopeTreatyModel", "begins", "(I)V"⟩ ⟨"RopeTreatyModel", "begins", "(I)V"⟩ ∈ tblG := wdG (i := 64) (by decide +kernel) rfl
theorem wk_65 : Cond.selects "RopeTreatyModel" ⟨"RopeTreatyModel", "plainSings", "(II)I"⟩ ⟨"RopeTreatyModel", "plainSings", "(II)I"⟩ ∈ tblG := wdG (i := 65) (by decide +kernel) rfl
theorem wk_66 : Cond.selects "RopeTreatyModel" ⟨"RopeTreatyModel", "jumps", "(II)I"⟩ ⟨"RopeTreatyModel", "jumps", "(II)I"⟩ ∈ tblG := wdG (i := 66) (by decide +kernel) rfl
theorem wk_67 : Cond.selects "RopeTreatyModel" ⟨"RopeTreatyModel", "conJumps", "(II)I"⟩ ⟨"RopeTreatyModel", "conJumps", "(II)I"⟩ ∈ tblG := wdG (i := 67) (by decide +kernel) rfl
theorem wk_68 : Cond.selects "RopeTreatyModel" ⟨"RopeTreatyModel", "plainJumps", "(II)I"⟩ ⟨"RopeTreatyModel", "plainJumps", "(II)I"⟩ ∈ tblG := wdG (i := 68) (by decide +kernel) rfl
theorem wk_69 : Cond.selects "RopeTreatyModel" ⟨"RopeTreatyModel", "claps", "(II)I"⟩ ⟨"RopeTreatyModel", "claps", "(II)I"⟩ ∈ tblG := wdG (i := 69) (by decide +kernel) rfl
theorem wk_70 : Cond.selects "RopeTreatyModel" ⟨"RopeTreatyModel", "plainClaps", "(II)I"⟩ ⟨"RopeTreatyModel", "plainClaps", "(II)I"⟩ ∈ tblG := wdG (i := 70) (by decide +kernel) rfl
theorem wk_71 : Cond.selects "RopeTreatyModel" ⟨"RopeTreatyModel", "partsBy", "(II)I"⟩ ⟨"RopeTreatyModel", "partsBy", "(II)I"⟩ ∈ tblG := wdG (i := 71) (by decide +kernel) rfl
theorem wk_72 : Cond.selects "RopeTreatyModel" ⟨"RopeTreatyModel", "plainParts", "(II)I"⟩ ⟨"RopeTreatyModel", "plainParts", "(II)I"⟩ ∈ tblG := wdG (i := 72) (by decide +kernel) rfl
theorem wk_73 : Cond.selects "RopeTreatyModel" ⟨"RopeTreatyModel", "notMoved", "(IIIII)I"⟩ ⟨"RopeTreatyModel", "notMoved", "(IIIII)I"⟩ ∈ tblG := wdG (i := 73) (by decide +kernel) rfl
theorem wk_75 : Cond.initialized "RopeTreaty" ∈ tblG := wdG (i := 75) (by decide +kernel) rfl
theorem wk_76 : Cond.initialized "RopeTreaty$Rope" ∈ tblG := wdG (i := 76) (by decide +kernel) rfl
theorem wk_77 : Cond.initialized "RopeTreaty$Text" ∈ tblG := wdG (i := 77) (by decide +kernel) rfl
theorem wk_78 : Cond.initialized "RopeTreaty$Tape" ∈ tblG := wdG (i := 78) (by decide +kernel) rfl
theorem wk_79 : Cond.initialized "RopeTreaty$Reader" ∈ tblG := wdG (i := 79) (by decide +kernel) rfl
theorem wk_80 : Cond.initialized "RopeTreaty$Row" ∈ tblG := wdG (i := 80) (by decide +kernel) rfl
theorem wk_81 : Cond.initialized "RopeTreaty$Throat" ∈ tblG := wdG (i := 81) (by decide +kernel) rfl
theorem wk_82 : Cond.initialized "RopeTreatyModel" ∈ tblG := wdG (i := 82) (by decide +kernel) rfl
theorem wk_83 : Cond.initialized "java/lang/Integer" ∈ tblG := wdG (i := 83) (by decide +kernel) rfl
theorem wk_84 : Cond.initialized "java/lang/Math" ∈ tblG := wdG (i := 84) (by decide +kernel) rfl
theorem wk_85 : Cond.initialized "java/lang/System" ∈ tblG := wdG (i := 85) (by decide +kernel) rfl
theorem wk_107 : Cond.fieldLink "RopeTreaty$Text" (18 : Nat) "RopeTreaty$Text" "most" "I" ∈ tblG := wdG (i := 107) (by decide +kernel) rfl
theorem wk_108 : Cond.fieldLink "RopeTreaty$Text" (9 : Nat) "RopeTreaty$Text" "code" "[I" ∈ tblG := wdG (i := 108) (by decide +kernel) rfl
theorem wk_109 : Cond.fieldLink "RopeTreaty$Text" (15 : Nat) "RopeTreaty$Text" "stack" "[I" ∈ tblG := wdG (i := 109) (by decide +kernel) rfl
theorem wk_110 : Cond.fieldLink "RopeTreaty$Text" (22 : Nat) "RopeTreaty$Text" "length" "I" ∈ tblG := wdG (i := 110) (by decide +kernel) rfl
theorem wk_111 : Cond.fieldLink "RopeTreaty" (170 : Nat) "RopeTreaty$Text" "length" "I" ∈ tblG := wdG (i := 111) (by decide +kernel) rfl
theorem wk_122 : Cond.fieldLink "RopeTreaty$Rope" (14 : Nat) "RopeTreaty$Rope" "texts" "[LRopeTreaty$Text;" ∈ tblG := wdG (i := 122) (by decide +kernel) rfl
theorem wk_123 : Cond.fieldLink "RopeTreaty" (151 : Nat) "RopeTreaty$Rope" "texts" "[LRopeTreaty$Text;" ∈ tblG := wdG (i := 123) (by decide +kernel) rfl
theorem wk_124 : Cond.fieldLink "RopeTreaty$Rope" (20 : Nat) "RopeTreaty$Rope" "kind" "[I" ∈ tblG := wdG (i := 124) (by decide +kernel) rfl
theorem wk_125 : Cond.fieldLink "RopeTreaty" (87 : Nat) "RopeTreaty$Rope" "kind" "[I" ∈ tblG := wdG (i := 125) (by decide +kernel) rfl
theorem wk_126 : Cond.fieldLink "RopeTreaty$Rope" (24 : Nat) "RopeTreaty$Rope" "mark" "[I" ∈ tblG := wdG (i := 126) (by decide +kernel) rfl
theorem wk_127 : Cond.fieldLink "RopeTreaty" (90 : Nat) "RopeTreaty$Rope" "mark" "[I" ∈ tblG := wdG (i := 127) (by decide +kernel) rfl
theorem wk_128 : Cond.fieldLink "RopeTreaty$Rope" (27 : Nat) "RopeTreaty$Rope" "breath" "[I" ∈ tblG := wdG (i := 128) (by decide +kernel) rfl
theorem wk_129 : Cond.fieldLink "RopeTreaty" (93 : Nat) "RopeTreaty$Rope" "breath" "[I" ∈ tblG := wdG (i := 129) (by decide +kernel) rfl
theorem wk_130 : Cond.fieldLink "RopeTreaty$Rope" (30 : Nat) "RopeTreaty$Rope" "side" "[I" ∈ tblG := wdG (i := 130) (by decide +kernel) rfl
theorem wk_131 : Cond.fieldLink "RopeTreaty" (96 : Nat) "RopeTreaty$Rope" "side" "[I" ∈ tblG := wdG (i := 131) (by decide +kernel) rfl
theorem wk_132 : Cond.fieldLink "RopeTreaty$Rope" (33 : Nat) "RopeTreaty$Rope" "in" "[I" ∈ tblG := wdG (i := 132) (by decide +kernel) rfl
theorem wk_133 : Cond.fieldLink "RopeTreaty" (99 : Nat) "RopeTreaty$Rope" "in" "[I" ∈ tblG := wdG (i := 133) (by decide +kernel) rfl
theorem wk_134 : Cond.fieldLink "RopeTreaty$Rope" (36 : Nat) "RopeTreaty$Rope" "arm" "[I" ∈ tblG := wdG (i := 134) (by decide +kernel) rfl
theorem wk_135 : Cond.fieldLink "RopeTreaty" (116 : Nat) "RopeTreaty$Rope" "arm" "[I" ∈ tblG := wdG (i := 135) (by decide +kernel) rfl
theorem wk_136 : Cond.fieldLink "RopeTreaty$Rope" (39 : Nat) "RopeTreaty$Rope" "price" "[I" ∈ tblG := wdG (i := 136) (by decide +kernel) rfl
theorem wk_137 : Cond.fieldLink "RopeTreaty$Rope" (42 : Nat) "RopeTreaty$Rope" "alone" "[I" ∈ tblG := wdG (i := 137) (by decide +kernel) rfl
theorem wk_138 : Cond.fieldLink "RopeTreaty" (201 : Nat) "RopeTreaty$Rope" "alone" "[I" ∈ tblG := wdG (i := 138) (by decide +kernel) rfl
theorem wk_139 : Cond.fieldLink "RopeTreaty" (76 : Nat) "RopeTreaty$Rope" "jumpers" "I" ∈ tblG := wdG (i := 139) (by decide +kernel) rfl
theorem wk_140 : Cond.fieldLink "RopeTreaty$Rope" (65 : Nat) "RopeTreaty$Rope" "jumpers" "I" ∈ tblG := wdG (i := 140) (by decide +kernel) rfl
theorem wk_141 : Cond.fieldLink "RopeTreaty$Rope" (68 : Nat) "RopeTreaty$Rope" "beat" "I" ∈ tblG := wdG (i := 141) (by decide +kernel) rfl
theorem wk_142 : Cond.fieldLink "RopeTreaty" (174 : Nat) "RopeTreaty$Rope" "beat" "I" ∈ tblG := wdG (i := 142) (by decide +kernel) rfl
theorem wk_143 : Cond.fieldLink "RopeTreaty$Rope" (45 : Nat) "RopeTreaty$Rope" "treaty" "I" ∈ tblG := wdG (i := 143) (by decide +kernel) rfl
theorem wk_144 : Cond.fieldLink "RopeTreaty" (135 : Nat) "RopeTreaty$Rope" "treaty" "I" ∈ tblG := wdG (i := 144) (by decide +kernel) rfl
theorem wk_145 : Cond.fieldLink "RopeTreaty$Rope" (49 : Nat) "RopeTreaty$Rope" "bar" "I" ∈ tblG := wdG (i := 145) (by decide +kernel) rfl
theorem wk_146 : Cond.fieldLink "RopeTreaty" (119 : Nat) "RopeTreaty$Rope" "bar" "I" ∈ tblG := wdG (i := 146) (by decide +kernel) rfl
theorem wk_147 : Cond.fieldLink "RopeTreaty$Rope" (71 : Nat) "RopeTreaty$Rope" "misses" "I" ∈ tblG := wdG (i := 147) (by decide +kernel) rfl
theorem wk_148 : Cond.fieldLink "RopeTreaty" (274 : Nat) "RopeTreaty$Rope" "misses" "I" ∈ tblG := wdG (i := 148) (by decide +kernel) rfl
theorem wk_149 : Cond.fieldLink "RopeTreaty$Rope" (52 : Nat) "RopeTreaty$Rope" "z" "I" ∈ tblG := wdG (i := 149) (by decide +kernel) rfl
theorem wk_150 : Cond.fieldLink "RopeTreaty" (185 : Nat) "RopeTreaty$Rope" "z" "I" ∈ tblG := wdG (i := 150) (by decide +kernel) rfl
theorem wk_188 : Cond.fieldLink "RopeTreaty$Tape" (9 : Nat) "RopeTreaty$Tape" "bytes" "[I" ∈ tblG := wdG (i := 188) (by decide +kernel) rfl
theorem wk_189 : Cond.fieldLink "RopeTreaty$Reader" (18 : Nat) "RopeTreaty$Tape" "bytes" "[I" ∈ tblG := wdG (i := 189) (by decide +kernel) rfl
theorem wk_190 : Cond.fieldLink "RopeTreaty$Tape" (15 : Nat) "RopeTreaty$Tape" "length" "I" ∈ tblG := wdG (i := 190) (by decide +kernel) rfl
theorem wk_191 : Cond.fieldLink "RopeTreaty$Reader" (27 : Nat) "RopeTreaty$Tape" "length" "I" ∈ tblG := wdG (i := 191) (by decide +kernel) rfl
theorem wk_192 : Cond.fieldLink "RopeTreaty" (138 : Nat) "RopeTreaty$Tape" "length" "I" ∈ tblG := wdG (i := 192) (by decide +kernel) rfl
theorem wk_204 : Cond.fieldLink "RopeTreaty$Reader" (9 : Nat) "RopeTreaty$Reader" "code" "[I" ∈ tblG := wdG (i := 204) (by decide +kernel) rfl
theorem wk_205 : Cond.fieldLink "RopeTreaty" (155 : Nat) "RopeTreaty$Reader" "code" "[I" ∈ tblG := wdG (i := 205) (by decide +kernel) rfl
theorem wk_206 : Cond.fieldLink "RopeTreaty$Reader" (38 : Nat) "RopeTreaty$Reader" "codes" "I" ∈ tblG := wdG (i := 206) (by decide +kernel) rfl
theorem wk_207 : Cond.fieldLink "RopeTreaty" (158 : Nat) "RopeTreaty$Reader" "codes" "I" ∈ tblG := wdG (i := 207) (by decide +kernel) rfl
theorem wk_208 : Cond.fieldLink "RopeTreaty$Reader" (15 : Nat) "RopeTreaty$Reader" "bytes" "[I" ∈ tblG := wdG (i := 208) (by decide +kernel) rfl
theorem wk_209 : Cond.fieldLink "RopeTreaty$Reader" (31 : Nat) "RopeTreaty$Reader" "length" "I" ∈ tblG := wdG (i := 209) (by decide +kernel) rfl
theorem wk_210 : Cond.fieldLink "RopeTreaty$Reader" (35 : Nat) "RopeTreaty$Reader" "place" "I" ∈ tblG := wdG (i := 210) (by decide +kernel) rfl
theorem wk_211 : Cond.fieldLink "RopeTreaty$Reader" (32 : Nat) "RopeTreaty$Reader" "use" "I" ∈ tblG := wdG (i := 211) (by decide +kernel) rfl
theorem wk_212 : Cond.fieldLink "RopeTreaty$Reader" (41 : Nat) "RopeTreaty$Reader" "failed" "Z" ∈ tblG := wdG (i := 212) (by decide +kernel) rfl
theorem wk_234 : Cond.fieldLink "RopeTreaty$Row" (9 : Nat) "RopeTreaty$Row" "numbers" "[I" ∈ tblG := wdG (i := 234) (by decide +kernel) rfl
theorem wk_235 : Cond.fieldLink "RopeTreaty$Rope" (149 : Nat) "RopeTreaty$Row" "numbers" "[I" ∈ tblG := wdG (i := 235) (by decide +kernel) rfl
theorem wk_236 : Cond.fieldLink "RopeTreaty" (238 : Nat) "RopeTreaty$Row" "numbers" "[I" ∈ tblG := wdG (i := 236) (by decide +kernel) rfl
theorem wk_237 : Cond.fieldLink "RopeTreaty$Row" (15 : Nat) "RopeTreaty$Row" "bits" "I" ∈ tblG := wdG (i := 237) (by decide +kernel) rfl
theorem wk_238 : Cond.fieldLink "RopeTreaty" (244 : Nat) "RopeTreaty$Row" "bits" "I" ∈ tblG := wdG (i := 238) (by decide +kernel) rfl
theorem wk_239 : Cond.fieldLink "RopeTreaty$Row" (19 : Nat) "RopeTreaty$Row" "length" "I" ∈ tblG := wdG (i := 239) (by decide +kernel) rfl
theorem wk_240 : Cond.fieldLink "RopeTreaty$Rope" (144 : Nat) "RopeTreaty$Row" "length" "I" ∈ tblG := wdG (i := 240) (by decide +kernel) rfl
theorem wk_241 : Cond.fieldLink "RopeTreaty" (217 : Nat) "RopeTreaty$Row" "length" "I" ∈ tblG := wdG (i := 241) (by decide +kernel) rfl
theorem wk_256 : Cond.fieldLink "RopeTreaty$Throat" (11 : Nat) "RopeTreaty$Throat" "trace" "[I" ∈ tblG := wdG (i := 256) (by decide +kernel) rfl
theorem wk_257 : Cond.fieldLink "RopeTreaty" (229 : Nat) "RopeTreaty$Throat" "trace" "[I" ∈ tblG := wdG (i := 257) (by decide +kernel) rfl
theorem wk_258 : Cond.fieldLink "RopeTreaty$Throat" (25 : Nat) "RopeTreaty$Throat" "begun" "I" ∈ tblG := wdG (i := 258) (by decide +kernel) rfl
theorem wk_259 : Cond.fieldLink "RopeTreaty" (226 : Nat) "RopeTreaty$Throat" "begun" "I" ∈ tblG := wdG (i := 259) (by decide +kernel) rfl
theorem wk_260 : Cond.fieldLink "RopeTreaty$Throat" (28 : Nat) "RopeTreaty$Throat" "parted" "Z" ∈ tblG := wdG (i := 260) (by decide +kernel) rfl
theorem wk_261 : Cond.fieldLink "RopeTreaty" (222 : Nat) "RopeTreaty$Throat" "parted" "Z" ∈ tblG := wdG (i := 261) (by decide +kernel) rfl
theorem wk_262 : Cond.fieldLink "RopeTreaty$Throat" (15 : Nat) "RopeTreaty$Throat" "kind" "I" ∈ tblG := wdG (i := 262) (by decide +kernel) rfl
theorem wk_263 : Cond.fieldLink "RopeTreaty$Throat" (19 : Nat) "RopeTreaty$Throat" "number" "I" ∈ tblG := wdG (i := 263) (by decide +kernel) rfl
theorem wk_264 : Cond.fieldLink "RopeTreaty$Throat" (22 : Nat) "RopeTreaty$Throat" "mark" "I" ∈ tblG := wdG (i := 264) (by decide +kernel) rfl
theorem wk_278 : Cond.fieldLink "RopeTreaty" (10 : Nat) "RopeTreaty" "now" "LRopeTreaty$Rope;" ∈ tblG := wdG (i := 278) (by decide +kernel) rfl
theorem wk_279 : Cond.fieldLink "RopeTreaty" (16 : Nat) "RopeTreaty" "thought" "LRopeTreaty$Rope;" ∈ tblG := wdG (i := 279) (by decide +kernel) rfl
theorem wk_280 : Cond.fieldLink "RopeTreaty" (19 : Nat) "RopeTreaty" "kept" "LRopeTreaty$Rope;" ∈ tblG := wdG (i := 280) (by decide +kernel) rfl
theorem wk_281 : Cond.fieldLink "RopeTreaty" (25 : Nat) "RopeTreaty" "tape" "LRopeTreaty$Tape;" ∈ tblG := wdG (i := 281) (by decide +kernel) rfl
theorem wk_282 : Cond.fieldLink "RopeTreaty" (29 : Nat) "RopeTreaty" "keptTape" "LRopeTreaty$Tape;" ∈ tblG := wdG (i := 282) (by decide +kernel) rfl
theorem wk_283 : Cond.fieldLink "RopeTreaty" (35 : Nat) "RopeTreaty" "reader" "LRopeTreaty$Reader;" ∈ tblG := wdG (i := 283) (by decide +kernel) rfl
theorem wk_284 : Cond.fieldLink "RopeTreaty" (42 : Nat) "RopeTreaty" "waiting" "LRopeTreaty$Row;" ∈ tblG := wdG (i := 284) (by decide +kernel) rfl
theorem wk_285 : Cond.fieldLink "RopeTreaty" (46 : Nat) "RopeTreaty" "keptWaiting" "LRopeTreaty$Row;" ∈ tblG := wdG (i := 285) (by decide +kernel) rfl
theorem wk_286 : Cond.fieldLink "RopeTreaty" (49 : Nat) "RopeTreaty" "sheets" "[LRopeTreaty$Row;" ∈ tblG := wdG (i := 286) (by decide +kernel) rfl
theorem wk_287 : Cond.fieldLink "RopeTreaty" (56 : Nat) "RopeTreaty" "throat" "LRopeTreaty$Throat;" ∈ tblG := wdG (i := 287) (by decide +kernel) rfl
theorem wk_288 : Cond.fieldLink "RopeTreaty" (60 : Nat) "RopeTreaty" "errors" "[I" ∈ tblG := wdG (i := 288) (by decide +kernel) rfl
theorem wk_289 : Cond.fieldLink "RopeTreaty" (268 : Nat) "RopeTreaty" "images" "I" ∈ tblG := wdG (i := 289) (by decide +kernel) rfl
theorem wk_316 : Cond.instanceMethod ⟨"RopeTreaty", "jumper", "(III)I"⟩ ∈ tblG := wdG (i := 316) (by decide +kernel) rfl
theorem wk_317 : Cond.selects "RopeTreaty" ⟨"RopeTreaty", "jumper", "(III)I"⟩ ⟨"RopeTreaty", "jumper", "(III)I"⟩ ∈ tblG := wdG (i := 317) (by decide +kernel) rfl
theorem wk_318 : Cond.code ⟨"RopeTreaty", "jumper", "(III)I"⟩ prog_1_method_2_code (4 : Nat) (Option.some Jvm.ClassFile.FieldType.int) ∈ tblG := wdG (i := 318) (by decide +kernel) rfl
theorem wk_319 : Cond.methodLink "RopeTreaty" (64 : Nat) ⟨"RopeTreaty", "isKindAndMark", "(I)Z"⟩ ∈ tblG := wdG (i := 319) (by decide +kernel) rfl
theorem wk_320 : Cond.static ⟨"RopeTreaty", "isKindAndMark", "(I)Z"⟩ ∈ tblG := wdG (i := 320) (by decide +kernel) rfl
theorem wk_321 : Cond.code ⟨"RopeTreaty", "isKindAndMark", "(I)Z"⟩ prog_1_method_43_code (1 : Nat) (Option.some Jvm.ClassFile.FieldType.boolean) ∈ tblG := wdG (i := 321) (by decide +kernel) rfl
theorem wk_322 : Cond.methodLink "RopeTreaty" (68 : Nat) ⟨"RopeTreaty", "isWithin", "(II)Z"⟩ ∈ tblG := wdG (i := 322) (by decide +kernel) rfl
theorem wk_323 : Cond.static ⟨"RopeTreaty", "isWithin", "(II)Z"⟩ ∈ tblG := wdG (i := 323) (by decide +kernel) rfl
theorem wk_324 : Cond.code ⟨"RopeTreaty", "isWithin", "(II)Z"⟩ prog_1_method_42_code (2 : Nat) (Option.some Jvm.ClassFile.FieldType.boolean) ∈ tblG := wdG (i := 324) (by decide +kernel) rfl
theorem wk_325 : Cond.methodLink "RopeTreaty" (72 : Nat) ⟨"RopeTreaty", "error", "(I)I"⟩ ∈ tblG := wdG (i := 325) (by decide +kernel) rfl
theorem wk_327 : Cond.instanceMethod ⟨"RopeTreaty", "error", "(I)I"⟩ ∈ tblG := wdG (i := 327) (by decide +kernel) rfl
theorem wk_328 : Cond.code ⟨"RopeTreaty", "error", "(I)I"⟩ prog_1_method_41_code (2 : Nat) (Option.some Jvm.ClassFile.FieldType.int) ∈ tblG := wdG (i := 328) (by decide +kernel) rfl
theorem wk_329 : Cond.constant "RopeTreaty" (277 : Nat) (-1000000000 : Int32) ∈ tblG := wdG (i := 329) (by decide +kernel) rfl
theorem wk_330 : Cond.methodLink "RopeTreaty" (80 : Nat) ⟨"RopeTreaty$Rope", "add", "(III)I"⟩ ∈ tblG := wdG (i := 330) (by decide +kernel) rfl
theorem wk_331 : Cond.instanceMethod ⟨"RopeTreaty$Rope", "add", "(III)I"⟩ ∈ tblG := wdG (i := 331) (by decide +kernel) rfl
theorem wk_332 : Cond.selects "RopeTreaty$Rope" ⟨"RopeTreaty$Rope", "add", "(III)I"⟩ ⟨"RopeTreaty$Rope", "add", "(III)I"⟩ ∈ tblG := wdG (i := 332) (by decide +kernel) rfl
theorem wk_333 : Cond.code ⟨"RopeTreaty$Rope", "add", "(III)I"⟩ prog_3_method_4_code (5 : Nat) (Option.some Jvm.ClassFile.FieldType.int) ∈ tblG := wdG (i := 333) (by decide +kernel) rfl
theorem wk_334 : Cond.methodLink "RopeTreaty$Rope" (74 : Nat) ⟨"RopeTreaty$Rope", "setKindAndMark", "(II)V"⟩ ∈ tblG := wdG (i := 334) (by decide +kernel) rfl
theorem wk_335 : Cond.instanceMethod ⟨"RopeTreaty$Rope", "setKindAndMark", "(II)V"⟩ ∈ tblG := wdG (i := 335) (by decide +kernel) rfl
theorem wk_336 : Cond.selects "RopeTreaty$Rope" ⟨"RopeTreaty$Rope", "setKindAndMark", "(II)V"⟩ ⟨"RopeTreaty$Rope", "setKindAndMark", "(II)V"⟩ ∈ tblG := wdG (i := 336) (by decide +kernel) rfl
theorem wk_337 : Cond.code ⟨"RopeTreaty$Rope", "setKindAndMark", "(II)V"⟩ prog_3_method_5_code (3 : Nat) (Option.none : Option Jvm.ClassFile.FieldType) ∈ tblG := wdG (i := 337) (by decide +kernel) rfl
theorem wk_339 : Cond.instanceMethod ⟨"RopeTreaty", "jumperIs", "(II)I"⟩ ∈ tblG := wdG (i := 339) (by decide +kernel) rfl
theorem wk_340 : Cond.selects "RopeTreaty" ⟨"RopeTreaty", "jumperIs", "(II)I"⟩ ⟨"RopeTreaty", "jumperIs", "(II)I"⟩ ∈ tblG := wdG (i := 340) (by decide +kernel) rfl
theorem wk_341 : Cond.code ⟨"RopeTreaty", "jumperIs", "(II)I"⟩ prog_1_method_3_code (3 : Nat) (Option.some Jvm.ClassFile.FieldType.int) ∈ tblG := wdG (i := 341) (by decide +kernel) rfl
theorem wk_342 : Cond.methodLink "RopeTreaty" (84 : Nat) ⟨"RopeTreaty$Rope", "has", "(I)Z"⟩ ∈ tblG := wdG (i := 342) (by decide +kernel) rfl
theorem wk_343 : Cond.instanceMethod ⟨"RopeTreaty$Rope", "has", "(I)Z"⟩ ∈ tblG := wdG (i := 343) (by decide +kernel) rfl
theorem wk_344 : Cond.selects "RopeTreaty$Rope" ⟨"RopeTreaty$Rope", "has", "(I)Z"⟩ ⟨"RopeTreaty$Rope", "has", "(I)Z"⟩ ∈ tblG := wdG (i := 344) (by decide +kernel) rfl
theorem wk_345 : Cond.code ⟨"RopeTreaty$Rope", "has", "(I)Z"⟩ prog_3_method_3_code (2 : Nat) (Option.some Jvm.ClassFile.FieldType.boolean) ∈ tblG := wdG (i := 345) (by decide +kernel) rfl
theorem wk_346 : Cond.methodLink "RopeTreaty" (102 : Nat) ⟨"RopeTreaty$Rope", "costs", "(I)I"⟩ ∈ tblG := wdG (i := 346) (by decide +kernel) rfl
theorem wk_347 : Cond.instanceMethod ⟨"RopeTreaty$Rope", "costs", "(I)I"⟩ ∈ tblG := wdG (i := 347) (by decide +kernel) rfl
theorem wk_348 : Cond.selects "RopeTreaty$Rope" ⟨"RopeTreaty$Rope", "costs", "(I)I"⟩ ⟨"RopeTreaty$Rope", "costs", "(I)I"⟩ ∈ tblG := wdG (i := 348) (by decide +kernel) rfl
theorem wk_349 : Cond.code ⟨"RopeTreaty$Rope", "costs", "(I)I"⟩ prog_3_method_13_code (2 : Nat) (Option.some Jvm.ClassFile.FieldType.int) ∈ tblG := wdG (i := 349) (by decide +kernel) rfl
theorem wk_350 : Cond.methodLink "RopeTreaty$Rope" (98 : Nat) ⟨"RopeTreaty$Rope", "takes", "(I)I"⟩ ∈ tblG := wdG (i := 350) (by decide +kernel) rfl
theorem wk_351 : Cond.instanceMethod ⟨"RopeTreaty$Rope", "takes", "(I)I"⟩ ∈ tblG := wdG (i := 351) (by decide +kernel) rfl
theorem wk_352 : Cond.selects "RopeTreaty$Rope" ⟨"RopeTreaty$Rope", "takes", "(I)I"⟩ ⟨"RopeTreaty$Rope", "takes", "(I)I"⟩ ∈ tblG := wdG (i := 352) (by decide +kernel) rfl
theorem wk_353 : Cond.code ⟨"RopeTreaty$Rope", "takes", "(I)I"⟩ prog_3_method_11_code (3 : Nat) (Option.some Jvm.ClassFile.FieldType.int) ∈ tblG := wdG (i := 353) (by decide +kernel) rfl
theorem wk_354 : Cond.methodLink "RopeTreaty$Rope" (82 : Nat) ⟨"RopeTreaty$Rope", "word", "()I"⟩ ∈ tblG := wdG (i := 354) (by decide +kernel) rfl
theorem wk_355 : Cond.instanceMethod ⟨"RopeTreaty$Rope", "word", "()I"⟩ ∈ tblG := wdG (i := 355) (by decide +kernel) rfl
theorem wk_356 : Cond.selects "RopeTreaty$Rope" ⟨"RopeTreaty$Rope", "word", "()I"⟩ ⟨"RopeTreaty$Rope", "word", "()I"⟩ ∈ tblG := wdG (i := 356) (by decide +kernel) rfl
theorem wk_357 : Cond.code ⟨"RopeTreaty$Rope", "word", "()I"⟩ prog_3_method_6_code (1 : Nat) (Option.some Jvm.ClassFile.FieldType.int) ∈ tblG := wdG (i := 357) (by decide +kernel) rfl
theorem wk_358 : Cond.methodLink "RopeTreaty$Rope" (95 : Nat) ⟨"RopeTreaty$Rope", "howManyIn", "()I"⟩ ∈ tblG := wdG (i := 358) (by decide +kernel) rfl
theorem wk_359 : Cond.instanceMethod ⟨"RopeTreaty$Rope", "howManyIn", "()I"⟩ ∈ tblG := wdG (i := 359) (by decide +kernel) rfl
theorem wk_360 : Cond.selects "RopeTreaty$Rope" ⟨"RopeTreaty$Rope", "howManyIn", "()I"⟩ ⟨"RopeTreaty$Rope", "howManyIn", "()I"⟩ ∈ tblG := wdG (i := 360) (by decide +kernel) rfl
theorem wk_361 : Cond.code ⟨"RopeTreaty$Rope", "howManyIn", "()I"⟩ prog_3_method_9_code (1 : Nat) (Option.some Jvm.ClassFile.FieldType.int) ∈ tblG := wdG (i := 361) (by decide +kernel) rfl
theorem wk_362 : Cond.methodLink "RopeTreaty$Rope" (86 : Nat) ⟨"RopeTreaty$Rope", "setIn", "()I"⟩ ∈ tblG := wdG (i := 362) (by decide +kernel) rfl
theorem wk_363 : Cond.instanceMethod ⟨"RopeTreaty$Rope", "setIn", "()I"⟩ ∈ tblG := wdG (i := 363) (by decide +kernel) rfl
theorem wk_364 : Cond.selects "RopeTreaty$Rope" ⟨"RopeTreaty$Rope", "setIn", "()I"⟩ ⟨"RopeTreaty$Rope", "setIn", "()I"⟩ ∈ tblG := wdG (i := 364) (by decide +kernel) rfl
theorem wk_365 : Cond.code ⟨"RopeTreaty$Rope", "setIn", "()I"⟩ prog_3_method_10_code (3 : Nat) (Option.some Jvm.ClassFile.FieldType.int) ∈ tblG := wdG (i := 365) (by decide +kernel) rfl
theorem wk_366 : Cond.methodLink "RopeTreaty$Rope" (89 : Nat) ⟨"java/lang/Integer", "bitCount", "(I)I"⟩ ∈ tblG := wdG (i := 366) (by decide +kernel) rfl
theorem wk_367 : Cond.static ⟨"java/lang/Integer", "bitCount", "(I)I"⟩ ∈ tblG := wdG (i := 367) (by decide +kernel) rfl
theorem wk_368 : Cond.code ⟨"java/lang/Integer", "bitCount", "(I)I"⟩ prog_10_method_49_code (1 : Nat) (Option.some Jvm.ClassFile.FieldType.int) ∈ tblG := wdG (i := 368) (by decide +kernel) rfl
theorem wk_369 : Cond.constant "java/lang/Integer" (265 : Nat) (1431655765 : Int32) ∈ tblG := wdG (i := 369) (by decide +kernel) rfl
theorem wk_370 : Cond.constant "java/lang/Integer" (266 : Nat) (858993459 : Int32) ∈ tblG := wdG (i := 370) (by decide +kernel) rfl
theorem wk_371 : Cond.constant "java/lang/Integer" (267 : Nat) (252645135 : Int32) ∈ tblG := wdG (i := 371) (by decide +kernel) rfl
theorem wk_372 : Cond.methodLink "RopeTreaty$Rope" (101 : Nat) ⟨"RopeTreaty$Text", "gives", "(III)I"⟩ ∈ tblG := wdG (i := 372) (by decide +kernel) rfl
theorem wk_373 : Cond.instanceMethod ⟨"RopeTreaty$Text", "gives", "(III)I"⟩ ∈ tblG := wdG (i := 373) (by decide +kernel) rfl
theorem wk_374 : Cond.selects "RopeTreaty$Text" ⟨"RopeTreaty$Text", "gives", "(III)I"⟩ ⟨"RopeTreaty$Text", "gives", "(III)I"⟩ ∈ tblG := wdG (i := 374) (by decide +kernel) rfl
theorem wk_375 : Cond.code ⟨"RopeTreaty$Text", "gives", "(III)I"⟩ prog_6_method_5_code (5 : Nat) (Option.some Jvm.ClassFile.FieldType.int) ∈ tblG := wdG (i := 375) (by decide +kernel) rfl
theorem wk_376 : Cond.methodLink "RopeTreaty$Text" (35 : Nat) ⟨"RopeTreaty$Text", "isTold", "()Z"⟩ ∈ tblG := wdG (i := 376) (by decide +kernel) rfl
theorem wk_377 : Cond.instanceMethod ⟨"RopeTreaty$Text", "isTold", "()Z"⟩ ∈ tblG := wdG (i := 377) (by decide +kernel) rfl
theorem wk_378 : Cond.selects "RopeTreaty$Text" ⟨"RopeTreaty$Text", "isTold", "()Z"⟩ ⟨"RopeTreaty$Text", "isTold", "()Z"⟩ ∈ tblG := wdG (i := 378) (by decide +kernel) rfl
theorem wk_379 : Cond.code ⟨"RopeTreaty$Text", "isTold", "()Z"⟩ prog_6_method_2_code (1 : Nat) (Option.some Jvm.ClassFile.FieldType.boolean) ∈ tblG := wdG (i := 379) (by decide +kernel) rfl
theorem wk_380 : Cond.methodLink "RopeTreaty$Text" (39 : Nat) ⟨"RopeTreaty$Text", "work", "(III)I"⟩ ∈ tblG := wdG (i := 380) (by decide +kernel) rfl
theorem wk_382 : Cond.instanceMethod ⟨"RopeTreaty$Text", "work", "(III)I"⟩ ∈ tblG := wdG (i := 382) (by decide +kernel) rfl
theorem wk_383 : Cond.code ⟨"RopeTreaty$Text", "work", "(III)I"⟩ prog_6_method_6_code (7 : Nat) (Option.some Jvm.ClassFile.FieldType.int) ∈ tblG := wdG (i := 383) (by decide +kernel) rfl
theorem wk_384 : Cond.methodLink "RopeTreaty$Text" (52 : Nat) ⟨"RopeTreaty$Text", "join", "(III)I"⟩ ∈ tblG := wdG (i := 384) (by decide +kernel) rfl
theorem wk_385 : Cond.static ⟨"RopeTreaty$Text", "join", "(III)I"⟩ ∈ tblG := wdG (i := 385) (by decide +kernel) rfl
theorem wk_386 : Cond.code ⟨"RopeTreaty$Text", "join", "(III)I"⟩ prog_6_method_8_code (3 : Nat) (Option.some Jvm.ClassFile.FieldType.int) ∈ tblG := wdG (i := 386) (by decide +kernel) rfl
theorem wk_387 : Cond.methodLink "RopeTreaty$Text" (55 : Nat) ⟨"RopeTreaty$Text", "meaning", "(IIII)I"⟩ ∈ tblG := wdG (i := 387) (by decide +kernel) rfl
theorem wk_388 : Cond.static ⟨"RopeTreaty$Text", "meaning", "(IIII)I"⟩ ∈ tblG := wdG (i := 388) (by decide +kernel) rfl
theorem wk_389 : Cond.code ⟨"RopeTreaty$Text", "meaning", "(IIII)I"⟩ prog_6_method_7_code (4 : Nat) (Option.some Jvm.ClassFile.FieldType.int) ∈ tblG := wdG (i := 389) (by decide +kernel) rfl
theorem wk_390 : Cond.methodLink "RopeTreaty$Text" (43 : Nat) ⟨"java/lang/Math", "min", "(II)I"⟩ ∈ tblG := wdG (i := 390) (by decide +kernel) rfl
theorem wk_391 : Cond.static ⟨"java/lang/Math", "min", "(II)I"⟩ ∈ tblG := wdG (i := 391) (by decide +kernel) rfl
theorem wk_392 : Cond.code ⟨"java/lang/Math", "min", "(II)I"⟩ prog_11_method_69_code (2 : Nat) (Option.some Jvm.ClassFile.FieldType.int) ∈ tblG := wdG (i := 392) (by decide +kernel) rfl
theorem wk_393 : Cond.methodLink "RopeTreaty$Text" (49 : Nat) ⟨"java/lang/Math", "max", "(II)I"⟩ ∈ tblG := wdG (i := 393) (by decide +kernel) rfl
theorem wk_394 : Cond.static ⟨"java/lang/Math", "max", "(II)I"⟩ ∈ tblG := wdG (i := 394) (by decide +kernel) rfl
theorem wk_395 : Cond.code ⟨"java/lang/Math", "max", "(II)I"⟩ prog_11_method_65_code (2 : Nat) (Option.some Jvm.ClassFile.FieldType.int) ∈ tblG := wdG (i := 395) (by decide +kernel) rfl
theorem wk_397 : Cond.instanceMethod ⟨"RopeTreaty", "become", "(II)I"⟩ ∈ tblG := wdG (i := 397) (by decide +kernel) rfl
theorem wk_398 : Cond.selects "RopeTreaty" ⟨"RopeTreaty", "become", "(II)I"⟩ ⟨"RopeTreaty", "become", "(II)I"⟩ ∈ tblG := wdG (i := 398) (by decide +kernel) rfl
theorem wk_399 : Cond.code ⟨"RopeTreaty", "become", "(II)I"⟩ prog_1_method_4_code (4 : Nat) (Option.some Jvm.ClassFile.FieldType.int) ∈ tblG := wdG (i := 399) (by decide +kernel) rfl
theorem wk_400 : Cond.methodLink "RopeTreaty" (105 : Nat) ⟨"RopeTreaty$Rope", "setKindAndMark", "(II)V"⟩ ∈ tblG := wdG (i := 400) (by decide +kernel) rfl
theorem wk_402 : Cond.instanceMethod ⟨"RopeTreaty", "as", "(II)I"⟩ ∈ tblG := wdG (i := 402) (by decide +kernel) rfl
theorem wk_403 : Cond.selects "RopeTreaty" ⟨"RopeTreaty", "as", "(II)I"⟩ ⟨"RopeTreaty", "as", "(II)I"⟩ ∈ tblG := wdG (i := 403) (by decide +kernel) rfl
theorem wk_404 : Cond.code ⟨"RopeTreaty", "as", "(II)I"⟩ prog_1_method_5_code (3 : Nat) (Option.some Jvm.ClassFile.FieldType.int) ∈ tblG := wdG (i := 404) (by decide +kernel) rfl
theorem wk_405 : Cond.methodLink "RopeTreaty" (109 : Nat) ⟨"RopeTreaty", "isUnder", "(II)Z"⟩ ∈ tblG := wdG (i := 405) (by decide +kernel) rfl
theorem wk_406 : Cond.static ⟨"RopeTreaty", "isUnder", "(II)Z"⟩ ∈ tblG := wdG (i := 406) (by decide +kernel) rfl
theorem wk_407 : Cond.code ⟨"RopeTreaty", "isUnder", "(II)Z"⟩ prog_1_method_49_code (4 : Nat) (Option.some Jvm.ClassFile.FieldType.boolean) ∈ tblG := wdG (i := 407) (by decide +kernel) rfl
theorem wk_408 : Cond.fieldLink "RopeTreaty" (278 : Nat) "RopeTreaty" "ABOVE" "[I" ∈ tblG := wdG (i := 408) (by decide +kernel) rfl
theorem wk_411 : Cond.instanceMethod ⟨"RopeTreaty", "jump", "(II)I"⟩ ∈ tblG := wdG (i := 411) (by decide +kernel) rfl
theorem wk_412 : Cond.selects "RopeTreaty" ⟨"RopeTreaty", "jump", "(II)I"⟩ ⟨"RopeTreaty", "jump", "(II)I"⟩ ∈ tblG := wdG (i := 412) (by decide +kernel) rfl
theorem wk_413 : Cond.code ⟨"RopeTreaty", "jump", "(II)I"⟩ prog_1_method_6_code (4 : Nat) (Option.some Jvm.ClassFile.FieldType.int) ∈ tblG := wdG (i := 413) (by decide +kernel) rfl
theorem wk_414 : Cond.methodLink "RopeTreaty" (112 : Nat) ⟨"RopeTreaty$Rope", "turns", "()Z"⟩ ∈ tblG := wdG (i := 414) (by decide +kernel) rfl
theorem wk_415 : Cond.instanceMethod ⟨"RopeTreaty$Rope", "turns", "()Z"⟩ ∈ tblG := wdG (i := 415) (by decide +kernel) rfl
theorem wk_416 : Cond.selects "RopeTreaty$Rope" ⟨"RopeTreaty$Rope", "turns", "()Z"⟩ ⟨"RopeTreaty$Rope", "turns", "()Z"⟩ ∈ tblG := wdG (i := 416) (by decide +kernel) rfl
theorem wk_417 : Cond.code ⟨"RopeTreaty$Rope", "turns", "()Z"⟩ prog_3_method_7_code (1 : Nat) (Option.some Jvm.ClassFile.FieldType.boolean) ∈ tblG := wdG (i := 417) (by decide +kernel) rfl
theorem wk_419 : Cond.instanceMethod ⟨"RopeTreaty", "rest", "(II)I"⟩ ∈ tblG := wdG (i := 419) (by decide +kernel) rfl
theorem wk_420 : Cond.selects "RopeTreaty" ⟨"RopeTreaty", "rest", "(II)I"⟩ ⟨"RopeTreaty", "rest", "(II)I"⟩ ∈ tblG := wdG (i := 420) (by decide +kernel) rfl
theorem wk_421 : Cond.code ⟨"RopeTreaty", "rest", "(II)I"⟩ prog_1_method_7_code (4 : Nat) (Option.some Jvm.ClassFile.FieldType.int) ∈ tblG := wdG (i := 421) (by decide +kernel) rfl
theorem wk_423 : Cond.instanceMethod ⟨"RopeTreaty", "spell", "(II)I"⟩ ∈ tblG := wdG (i := 423) (by decide +kernel) rfl
theorem wk_424 : Cond.selects "RopeTreaty" ⟨"RopeTreaty", "spell", "(II)I"⟩ ⟨"RopeTreaty", "spell", "(II)I"⟩ ∈ tblG := wdG (i := 424) (by decide +kernel) rfl
theorem wk_425 : Cond.code ⟨"RopeTreaty", "spell", "(II)I"⟩ prog_1_method_8_code (4 : Nat) (Option.some Jvm.ClassFile.FieldType.int) ∈ tblG := wdG (i := 425) (by decide +kernel) rfl
theorem wk_427 : Cond.instanceMethod ⟨"RopeTreaty", "bar", "(I)I"⟩ ∈ tblG := wdG (i := 427) (by decide +kernel) rfl
theorem wk_428 : Cond.selects "RopeTreaty" ⟨"RopeTreaty", "bar", "(I)I"⟩ ⟨"RopeTreaty", "bar", "(I)I"⟩ ∈ tblG := wdG (i := 428) (by decide +kernel) rfl
theorem wk_429 : Cond.code ⟨"RopeTreaty", "bar", "(I)I"⟩ prog_1_method_9_code (3 : Nat) (Option.some Jvm.ClassFile.FieldType.int) ∈ tblG := wdG (i := 429) (by decide +kernel) rfl
theorem wk_431 : Cond.instanceMethod ⟨"RopeTreaty", "liking", "(II)I"⟩ ∈ tblG := wdG (i := 431) (by decide +kernel) rfl
theorem wk_432 : Cond.selects "RopeTreaty" ⟨"RopeTreaty", "liking", "(II)I"⟩ ⟨"RopeTreaty", "liking", "(II)I"⟩ ∈ tblG := wdG (i := 432) (by decide +kernel) rfl
theorem wk_433 : Cond.code ⟨"RopeTreaty", "liking", "(II)I"⟩ prog_1_method_10_code (3 : Nat) (Option.some Jvm.ClassFile.FieldType.int) ∈ tblG := wdG (i := 433) (by decide +kernel) rfl
theorem wk_434 : Cond.methodLink "RopeTreaty" (122 : Nat) ⟨"RopeTreaty", "isTreaty", "(I)Z"⟩ ∈ tblG := wdG (i := 434) (by decide +kernel) rfl
theorem wk_435 : Cond.static ⟨"RopeTreaty", "isTreaty", "(I)Z"⟩ ∈ tblG := wdG (i := 435) (by decide +kernel) rfl
theorem wk_436 : Cond.code ⟨"RopeTreaty", "isTreaty", "(I)Z"⟩ prog_1_method_44_code (1 : Nat) (Option.some Jvm.ClassFile.FieldType.boolean) ∈ tblG := wdG (i := 436) (by decide +kernel) rfl
theorem wk_437 : Cond.methodLink "RopeTreaty" (125 : Nat) ⟨"RopeTreaty$Rope", "likes", "(II)I"⟩ ∈ tblG := wdG (i := 437) (by decide +kernel) rfl
theorem wk_438 : Cond.instanceMethod ⟨"RopeTreaty$Rope", "likes", "(II)I"⟩ ∈ tblG := wdG (i := 438) (by decide +kernel) rfl
theorem wk_439 : Cond.selects "RopeTreaty$Rope" ⟨"RopeTreaty$Rope", "likes", "(II)I"⟩ ⟨"RopeTreaty$Rope", "likes", "(II)I"⟩ ∈ tblG := wdG (i := 439) (by decide +kernel) rfl
theorem wk_440 : Cond.code ⟨"RopeTreaty$Rope", "likes", "(II)I"⟩ prog_3_method_14_code (3 : Nat) (Option.some Jvm.ClassFile.FieldType.int) ∈ tblG := wdG (i := 440) (by decide +kernel) rfl
theorem wk_441 : Cond.methodLink "RopeTreaty$Rope" (105 : Nat) ⟨"RopeTreaty$Rope", "leans", "(II)I"⟩ ∈ tblG := wdG (i := 441) (by decide +kernel) rfl
theorem wk_442 : Cond.instanceMethod ⟨"RopeTreaty$Rope", "leans", "(II)I"⟩ ∈ tblG := wdG (i := 442) (by decide +kernel) rfl
theorem wk_443 : Cond.selects "RopeTreaty$Rope" ⟨"RopeTreaty$Rope", "leans", "(II)I"⟩ ⟨"RopeTreaty$Rope", "leans", "(II)I"⟩ ∈ tblG := wdG (i := 443) (by decide +kernel) rfl
theorem wk_444 : Cond.code ⟨"RopeTreaty$Rope", "leans", "(II)I"⟩ prog_3_method_12_code (4 : Nat) (Option.some Jvm.ClassFile.FieldType.int) ∈ tblG := wdG (i := 444) (by decide +kernel) rfl
theorem wk_446 : Cond.instanceMethod ⟨"RopeTreaty", "talk", "(II)I"⟩ ∈ tblG := wdG (i := 446) (by decide +kernel) rfl
theorem wk_447 : Cond.selects "RopeTreaty" ⟨"RopeTreaty", "talk", "(II)I"⟩ ⟨"RopeTreaty", "talk", "(II)I"⟩ ∈ tblG := wdG (i := 447) (by decide +kernel) rfl
theorem wk_448 : Cond.code ⟨"RopeTreaty", "talk", "(II)I"⟩ prog_1_method_11_code (3 : Nat) (Option.some Jvm.ClassFile.FieldType.int) ∈ tblG := wdG (i := 448) (by decide +kernel) rfl
theorem wk_449 : Cond.methodLink "RopeTreaty" (129 : Nat) ⟨"RopeTreaty$Rope", "mayTalk", "()Z"⟩ ∈ tblG := wdG (i := 449) (by decide +kernel) rfl
theorem wk_450 : Cond.instanceMethod ⟨"RopeTreaty$Rope", "mayTalk", "()Z"⟩ ∈ tblG := wdG (i := 450) (by decide +kernel) rfl
theorem wk_451 : Cond.selects "RopeTreaty$Rope" ⟨"RopeTreaty$Rope", "mayTalk", "()Z"⟩ ⟨"RopeTreaty$Rope", "mayTalk", "()Z"⟩ ∈ tblG := wdG (i := 451) (by decide +kernel) rfl
theorem wk_452 : Cond.code ⟨"RopeTreaty$Rope", "mayTalk", "()Z"⟩ prog_3_method_8_code (1 : Nat) (Option.some Jvm.ClassFile.FieldType.boolean) ∈ tblG := wdG (i := 452) (by decide +kernel) rfl
theorem wk_453 : Cond.methodLink "RopeTreaty$Rope" (78 : Nat) ⟨"RopeTreaty$Rope", "turns", "()Z"⟩ ∈ tblG := wdG (i := 453) (by decide +kernel) rfl
theorem wk_454 : Cond.methodLink "RopeTreaty" (132 : Nat) ⟨"RopeTreaty$Rope", "isTaken", "(I)Z"⟩ ∈ tblG := wdG (i := 454) (by decide +kernel) rfl
theorem wk_455 : Cond.instanceMethod ⟨"RopeTreaty$Rope", "isTaken", "(I)Z"⟩ ∈ tblG := wdG (i := 455) (by decide +kernel) rfl
theorem wk_456 : Cond.selects "RopeTreaty$Rope" ⟨"RopeTreaty$Rope", "isTaken", "(I)Z"⟩ ⟨"RopeTreaty$Rope", "isTaken", "(I)Z"⟩ ∈ tblG := wdG (i := 456) (by decide +kernel) rfl
theorem wk_457 : Cond.code ⟨"RopeTreaty$Rope", "isTaken", "(I)Z"⟩ prog_3_method_15_code (3 : Nat) (Option.some Jvm.ClassFile.FieldType.boolean) ∈ tblG := wdG (i := 457) (by decide +kernel) rfl
theorem wk_458 : Cond.methodLink "RopeTreaty$Rope" (109 : Nat) ⟨"RopeTreaty$Rope", "likes", "(II)I"⟩ ∈ tblG := wdG (i := 458) (by decide +kernel) rfl
theorem wk_460 : Cond.instanceMethod ⟨"RopeTreaty", "feed", "(JI)I"⟩ ∈ tblG := wdG (i := 460) (by decide +kernel) rfl
theorem wk_461 : Cond.selects "RopeTreaty" ⟨"RopeTreaty", "feed", "(JI)I"⟩ ⟨"RopeTreaty", "feed", "(JI)I"⟩ ∈ tblG := wdG (i := 461) (by decide +kernel) rfl
theorem wk_462 : Cond.code ⟨"RopeTreaty", "feed", "(JI)I"⟩ prog_1_method_12_code (4 : Nat) (Option.some Jvm.ClassFile.FieldType.int) ∈ tblG := wdG (i := 462) (by decide +kernel) rfl
theorem wk_463 : Cond.methodLink "RopeTreaty" (141 : Nat) ⟨"RopeTreaty$Tape", "add", "(JI)V"⟩ ∈ tblG := wdG (i := 463) (by decide +kernel) rfl
theorem wk_464 : Cond.instanceMethod ⟨"RopeTreaty$Tape", "add", "(JI)V"⟩ ∈ tblG := wdG (i := 464) (by decide +kernel) rfl
theorem wk_465 : Cond.selects "RopeTreaty$Tape" ⟨"RopeTreaty$Tape", "add", "(JI)V"⟩ ⟨"RopeTreaty$Tape", "add", "(JI)V"⟩ ∈ tblG := wdG (i := 465) (by decide +kernel) rfl
theorem wk_466 : Cond.code ⟨"RopeTreaty$Tape", "add", "(JI)V"⟩ prog_5_method_2_code (5 : Nat) (Option.none : Option Jvm.ClassFile.FieldType) ∈ tblG := wdG (i := 466) (by decide +kernel) rfl
theorem wk_468 : Cond.instanceMethod ⟨"RopeTreaty", "text", "(I)I"⟩ ∈ tblG := wdG (i := 468) (by decide +kernel) rfl
theorem wk_469 : Cond.selects "RopeTreaty" ⟨"RopeTreaty", "text", "(I)I"⟩ ⟨"RopeTreaty", "text", "(I)I"⟩ ∈ tblG := wdG (i := 469) (by decide +kernel) rfl
theorem wk_470 : Cond.code ⟨"RopeTreaty", "text", "(I)I"⟩ prog_1_method_13_code (3 : Nat) (Option.some Jvm.ClassFile.FieldType.int) ∈ tblG := wdG (i := 470) (by decide +kernel) rfl
theorem wk_471 : Cond.methodLink "RopeTreaty" (144 : Nat) ⟨"RopeTreaty", "isUse", "(I)Z"⟩ ∈ tblG := wdG (i := 471) (by decide +kernel) rfl
theorem wk_472 : Cond.static ⟨"RopeTreaty", "isUse", "(I)Z"⟩ ∈ tblG := wdG (i := 472) (by decide +kernel) rfl
theorem wk_473 : Cond.code ⟨"RopeTreaty", "isUse", "(I)Z"⟩ prog_1_method_45_code (1 : Nat) (Option.some Jvm.ClassFile.FieldType.boolean) ∈ tblG := wdG (i := 473) (by decide +kernel) rfl
theorem wk_474 : Cond.methodLink "RopeTreaty" (147 : Nat) ⟨"RopeTreaty$Reader", "read", "(LRopeTreaty$Tape;I)I"⟩ ∈ tblG := wdG (i := 474) (by decide +kernel) rfl
theorem wk_475 : Cond.instanceMethod ⟨"RopeTreaty$Reader", "read", "(LRopeTreaty$Tape;I)I"⟩ ∈ tblG := wdG (i := 475) (by decide +kernel) rfl
theorem wk_476 : Cond.selects "RopeTreaty$Reader" ⟨"RopeTreaty$Reader", "read", "(LRopeTreaty$Tape;I)I"⟩ ⟨"RopeTreaty$Reader", "read", "(LRopeTreaty$Tape;I)I"⟩ ∈ tblG := wdG (i := 476) (by decide +kernel) rfl
theorem wk_477 : Cond.code ⟨"RopeTreaty$Reader", "read", "(LRopeTreaty$Tape;I)I"⟩ prog_2_method_2_code (3 : Nat) (Option.some Jvm.ClassFile.FieldType.int) ∈ tblG := wdG (i := 477) (by decide +kernel) rfl
theorem wk_478 : Cond.methodLink "RopeTreaty$Reader" (21 : Nat) ⟨"java/lang/System", "arraycopy", "(Ljava/lang/Object;ILjava/lang/Object;II)V"⟩ ∈ tblG := wdG (i := 478) (by decide +kernel) rfl
theorem wk_479 : Cond.static ⟨"java/lang/System", "arraycopy", "(Ljava/lang/Object;ILjava/lang/Object;II)V"⟩ ∈ tblG := wdG (i := 479) (by decide +kernel) rfl
theorem wk_480 : Cond.native ⟨"java/lang/System", "arraycopy", "(Ljava/lang/Object;ILjava/lang/Object;II)V"⟩ ∈ tblG := wdG (i := 480) (by decide +kernel) rfl
theorem wk_481 : Cond.methodLink "RopeTreaty$Reader" (45 : Nat) ⟨"RopeTreaty$Reader", "readOr", "(I)V"⟩ ∈ tblG := wdG (i := 481) (by decide +kernel) rfl
theorem wk_483 : Cond.instanceMethod ⟨"RopeTreaty$Reader", "readOr", "(I)V"⟩ ∈ tblG := wdG (i := 483) (by decide +kernel) rfl
theorem wk_484 : Cond.code ⟨"RopeTreaty$Reader", "readOr", "(I)V"⟩ prog_2_method_3_code (3 : Nat) (Option.none : Option Jvm.ClassFile.FieldType) ∈ tblG := wdG (i := 484) (by decide +kernel) rfl
theorem wk_485 : Cond.methodLink "RopeTreaty$Reader" (49 : Nat) ⟨"RopeTreaty$Reader", "readAnd", "(I)V"⟩ ∈ tblG := wdG (i := 485) (by decide +kernel) rfl
theorem wk_487 : Cond.instanceMethod ⟨"RopeTreaty$Reader", "readAnd", "(I)V"⟩ ∈ tblG := wdG (i := 487) (by decide +kernel) rfl
theorem wk_488 : Cond.code ⟨"RopeTreaty$Reader", "readAnd", "(I)V"⟩ prog_2_method_4_code (3 : Nat) (Option.none : Option Jvm.ClassFile.FieldType) ∈ tblG := wdG (i := 488) (by decide +kernel) rfl
theorem wk_489 : Cond.methodLink "RopeTreaty$Reader" (59 : Nat) ⟨"RopeTreaty$Reader", "readLikeness", "(I)V"⟩ ∈ tblG := wdG (i := 489) (by decide +kernel) rfl
theorem wk_491 : Cond.instanceMethod ⟨"RopeTreaty$Reader", "readLikeness", "(I)V"⟩ ∈ tblG := wdG (i := 491) (by decide +kernel) rfl
theorem wk_492 : Cond.code ⟨"RopeTreaty$Reader", "readLikeness", "(I)V"⟩ prog_2_method_5_code (3 : Nat) (Option.none : Option Jvm.ClassFile.FieldType) ∈ tblG := wdG (i := 492) (by decide +kernel) rfl
theorem wk_493 : Cond.methodLink "RopeTreaty$Reader" (62 : Nat) ⟨"RopeTreaty$Reader", "readSum", "(I)V"⟩ ∈ tblG := wdG (i := 493) (by decide +kernel) rfl
theorem wk_495 : Cond.instanceMethod ⟨"RopeTreaty$Reader", "readSum", "(I)V"⟩ ∈ tblG := wdG (i := 495) (by decide +kernel) rfl
theorem wk_496 : Cond.code ⟨"RopeTreaty$Reader", "readSum", "(I)V"⟩ prog_2_method_6_code (4 : Nat) (Option.none : Option Jvm.ClassFile.FieldType) ∈ tblG := wdG (i := 496) (by decide +kernel) rfl
theorem wk_497 : Cond.methodLink "RopeTreaty$Reader" (65 : Nat) ⟨"RopeTreaty$Reader", "readProduct", "(I)V"⟩ ∈ tblG := wdG (i := 497) (by decide +kernel) rfl
theorem wk_499 : Cond.instanceMethod ⟨"RopeTreaty$Reader", "readProduct", "(I)V"⟩ ∈ tblG := wdG (i := 499) (by decide +kernel) rfl
theorem wk_500 : Cond.code ⟨"RopeTreaty$Reader", "readProduct", "(I)V"⟩ prog_2_method_7_code (4 : Nat) (Option.none : Option Jvm.ClassFile.FieldType) ∈ tblG := wdG (i := 500) (by decide +kernel) rfl
theorem wk_501 : Cond.methodLink "RopeTreaty$Reader" (68 : Nat) ⟨"RopeTreaty$Reader", "readPart", "(I)V"⟩ ∈ tblG := wdG (i := 501) (by decide +kernel) rfl
theorem wk_503 : Cond.instanceMethod ⟨"RopeTreaty$Reader", "readPart", "(I)V"⟩ ∈ tblG := wdG (i := 503) (by decide +kernel) rfl
theorem wk_504 : Cond.code ⟨"RopeTreaty$Reader", "readPart", "(I)V"⟩ prog_2_method_8_code (3 : Nat) (Option.none : Option Jvm.ClassFile.FieldType) ∈ tblG := wdG (i := 504) (by decide +kernel) rfl
theorem wk_505 : Cond.methodLink "RopeTreaty$Reader" (71 : Nat) ⟨"RopeTreaty$Reader", "nextName", "()I"⟩ ∈ tblG := wdG (i := 505) (by decide +kernel) rfl
theorem wk_507 : Cond.instanceMethod ⟨"RopeTreaty$Reader", "nextName", "()I"⟩ ∈ tblG := wdG (i := 507) (by decide +kernel) rfl
theorem wk_508 : Cond.code ⟨"RopeTreaty$Reader", "nextName", "()I"⟩ prog_2_method_11_code (3 : Nat) (Option.some Jvm.ClassFile.FieldType.int) ∈ tblG := wdG (i := 508) (by decide +kernel) rfl
theorem wk_509 : Cond.fieldLink "RopeTreaty$Reader" (85 : Nat) "RopeTreaty$Reader" "NAMES" "[C" ∈ tblG := wdG (i := 509) (by decide +kernel) rfl
theorem wk_511 : Cond.methodLink "RopeTreaty$Reader" (52 : Nat) ⟨"RopeTreaty$Reader", "isNext", "(C)Z"⟩ ∈ tblG := wdG (i := 511) (by decide +kernel) rfl
theorem wk_513 : Cond.instanceMethod ⟨"RopeTreaty$Reader", "isNext", "(C)Z"⟩ ∈ tblG := wdG (i := 513) (by decide +kernel) rfl
theorem wk_514 : Cond.code ⟨"RopeTreaty$Reader", "isNext", "(C)Z"⟩ prog_2_method_13_code (2 : Nat) (Option.some Jvm.ClassFile.FieldType.boolean) ∈ tblG := wdG (i := 514) (by decide +kernel) rfl
theorem wk_515 : Cond.methodLink "RopeTreaty$Reader" (56 : Nat) ⟨"RopeTreaty$Reader", "write", "(I)V"⟩ ∈ tblG := wdG (i := 515) (by decide +kernel) rfl
theorem wk_517 : Cond.instanceMethod ⟨"RopeTreaty$Reader", "write", "(I)V"⟩ ∈ tblG := wdG (i := 517) (by decide +kernel) rfl
theorem wk_518 : Cond.code ⟨"RopeTreaty$Reader", "write", "(I)V"⟩ prog_2_method_14_code (2 : Nat) (Option.none : Option Jvm.ClassFile.FieldType) ∈ tblG := wdG (i := 518) (by decide +kernel) rfl
theorem wk_519 : Cond.methodLink "RopeTreaty$Reader" (75 : Nat) ⟨"RopeTreaty$Reader", "isDigit", "()Z"⟩ ∈ tblG := wdG (i := 519) (by decide +kernel) rfl
theorem wk_521 : Cond.instanceMethod ⟨"RopeTreaty$Reader", "isDigit", "()Z"⟩ ∈ tblG := wdG (i := 521) (by decide +kernel) rfl
theorem wk_522 : Cond.code ⟨"RopeTreaty$Reader", "isDigit", "()Z"⟩ prog_2_method_12_code (1 : Nat) (Option.some Jvm.ClassFile.FieldType.boolean) ∈ tblG := wdG (i := 522) (by decide +kernel) rfl
theorem wk_523 : Cond.methodLink "RopeTreaty$Reader" (79 : Nat) ⟨"RopeTreaty$Reader", "readNumber", "()V"⟩ ∈ tblG := wdG (i := 523) (by decide +kernel) rfl
theorem wk_525 : Cond.instanceMethod ⟨"RopeTreaty$Reader", "readNumber", "()V"⟩ ∈ tblG := wdG (i := 525) (by decide +kernel) rfl
theorem wk_526 : Cond.code ⟨"RopeTreaty$Reader", "readNumber", "()V"⟩ prog_2_method_9_code (3 : Nat) (Option.none : Option Jvm.ClassFile.FieldType) ∈ tblG := wdG (i := 526) (by decide +kernel) rfl
theorem wk_527 : Cond.methodLink "RopeTreaty$Reader" (82 : Nat) ⟨"RopeTreaty$Reader", "close", "()V"⟩ ∈ tblG := wdG (i := 527) (by decide +kernel) rfl
theorem wk_529 : Cond.instanceMethod ⟨"RopeTreaty$Reader", "close", "()V"⟩ ∈ tblG := wdG (i := 529) (by decide +kernel) rfl
theorem wk_530 : Cond.code ⟨"RopeTreaty$Reader", "close", "()V"⟩ prog_2_method_10_code (1 : Nat) (Option.none : Option Jvm.ClassFile.FieldType) ∈ tblG := wdG (i := 530) (by decide +kernel) rfl
theorem wk_531 : Cond.methodLink "RopeTreaty" (161 : Nat) ⟨"RopeTreaty$Text", "learn", "([II)V"⟩ ∈ tblG := wdG (i := 531) (by decide +kernel) rfl
theorem wk_532 : Cond.instanceMethod ⟨"RopeTreaty$Text", "learn", "([II)V"⟩ ∈ tblG := wdG (i := 532) (by decide +kernel) rfl
theorem wk_533 : Cond.selects "RopeTreaty$Text" ⟨"RopeTreaty$Text", "learn", "([II)V"⟩ ⟨"RopeTreaty$Text", "learn", "([II)V"⟩ ∈ tblG := wdG (i := 533) (by decide +kernel) rfl
theorem wk_534 : Cond.code ⟨"RopeTreaty$Text", "learn", "([II)V"⟩ prog_6_method_3_code (3 : Nat) (Option.none : Option Jvm.ClassFile.FieldType) ∈ tblG := wdG (i := 534) (by decide +kernel) rfl
theorem wk_535 : Cond.methodLink "RopeTreaty$Text" (25 : Nat) ⟨"java/lang/System", "arraycopy", "(Ljava/lang/Object;ILjava/lang/Object;II)V"⟩ ∈ tblG := wdG (i := 535) (by decide +kernel) rfl
theorem wk_537 : Cond.instanceMethod ⟨"RopeTreaty", "untell", "(I)I"⟩ ∈ tblG := wdG (i := 537) (by decide +kernel) rfl
theorem wk_538 : Cond.selects "RopeTreaty" ⟨"RopeTreaty", "untell", "(I)I"⟩ ⟨"RopeTreaty", "untell", "(I)I"⟩ ∈ tblG := wdG (i := 538) (by decide +kernel) rfl
theorem wk_539 : Cond.code ⟨"RopeTreaty", "untell", "(I)I"⟩ prog_1_method_14_code (3 : Nat) (Option.some Jvm.ClassFile.FieldType.int) ∈ tblG := wdG (i := 539) (by decide +kernel) rfl
theorem wk_540 : Cond.methodLink "RopeTreaty" (167 : Nat) ⟨"RopeTreaty$Text", "isTold", "()Z"⟩ ∈ tblG := wdG (i := 540) (by decide +kernel) rfl
theorem wk_542 : Cond.instanceMethod ⟨"RopeTreaty", "law", "(IIII)I"⟩ ∈ tblG := wdG (i := 542) (by decide +kernel) rfl
theorem wk_543 : Cond.selects "RopeTreaty" ⟨"RopeTreaty", "law", "(IIII)I"⟩ ⟨"RopeTreaty", "law", "(IIII)I"⟩ ∈ tblG := wdG (i := 543) (by decide +kernel) rfl
theorem wk_544 : Cond.code ⟨"RopeTreaty", "law", "(IIII)I"⟩ prog_1_method_15_code (5 : Nat) (Option.some Jvm.ClassFile.FieldType.int) ∈ tblG := wdG (i := 544) (by decide +kernel) rfl
theorem wk_545 : Cond.methodLink "RopeTreaty" (171 : Nat) ⟨"RopeTreaty$Text", "gives", "(III)I"⟩ ∈ tblG := wdG (i := 545) (by decide +kernel) rfl
theorem wk_547 : Cond.instanceMethod ⟨"RopeTreaty", "beats", "(I)I"⟩ ∈ tblG := wdG (i := 547) (by decide +kernel) rfl
theorem wk_548 : Cond.selects "RopeTreaty" ⟨"RopeTreaty", "beats", "(I)I"⟩ ⟨"RopeTreaty", "beats", "(I)I"⟩ ∈ tblG := wdG (i := 548) (by decide +kernel) rfl
theorem wk_549 : Cond.code ⟨"RopeTreaty", "beats", "(I)I"⟩ prog_1_method_16_code (4 : Nat) (Option.some Jvm.ClassFile.FieldType.int) ∈ tblG := wdG (i := 549) (by decide +kernel) rfl
theorem wk_550 : Cond.constant "RopeTreaty" (177 : Nat) (99999 : Int32) ∈ tblG := wdG (i := 550) (by decide +kernel) rfl
theorem wk_551 : Cond.methodLink "RopeTreaty" (178 : Nat) ⟨"RopeTreaty$Rope", "pass", "()I"⟩ ∈ tblG := wdG (i := 551) (by decide +kernel) rfl
theorem wk_552 : Cond.instanceMethod ⟨"RopeTreaty$Rope", "pass", "()I"⟩ ∈ tblG := wdG (i := 552) (by decide +kernel) rfl
theorem wk_553 : Cond.selects "RopeTreaty$Rope" ⟨"RopeTreaty$Rope", "pass", "()I"⟩ ⟨"RopeTreaty$Rope", "pass", "()I"⟩ ∈ tblG := wdG (i := 553) (by decide +kernel) rfl
theorem wk_554 : Cond.code ⟨"RopeTreaty$Rope", "pass", "()I"⟩ prog_3_method_19_code (3 : Nat) (Option.some Jvm.ClassFile.FieldType.int) ∈ tblG := wdG (i := 554) (by decide +kernel) rfl
theorem wk_555 : Cond.methodLink "RopeTreaty$Rope" (123 : Nat) ⟨"RopeTreaty$Rope", "costs", "(I)I"⟩ ∈ tblG := wdG (i := 555) (by decide +kernel) rfl
theorem wk_556 : Cond.methodLink "RopeTreaty$Rope" (126 : Nat) ⟨"RopeTreaty$Rope", "skip", "(I)I"⟩ ∈ tblG := wdG (i := 556) (by decide +kernel) rfl
theorem wk_558 : Cond.instanceMethod ⟨"RopeTreaty$Rope", "skip", "(I)I"⟩ ∈ tblG := wdG (i := 558) (by decide +kernel) rfl
theorem wk_559 : Cond.code ⟨"RopeTreaty$Rope", "skip", "(I)I"⟩ prog_3_method_20_code (2 : Nat) (Option.some Jvm.ClassFile.FieldType.int) ∈ tblG := wdG (i := 559) (by decide +kernel) rfl
theorem wk_560 : Cond.methodLink "RopeTreaty$Rope" (112 : Nat) ⟨"java/lang/Math", "min", "(II)I"⟩ ∈ tblG := wdG (i := 560) (by decide +kernel) rfl
theorem wk_561 : Cond.constant "RopeTreaty$Rope" (129 : Nat) (99999 : Int32) ∈ tblG := wdG (i := 561) (by decide +kernel) rfl
theorem wk_563 : Cond.instanceMethod ⟨"RopeTreaty", "loose", "(I)I"⟩ ∈ tblG := wdG (i := 563) (by decide +kernel) rfl
theorem wk_564 : Cond.selects "RopeTreaty" ⟨"RopeTreaty", "loose", "(I)I"⟩ ⟨"RopeTreaty", "loose", "(I)I"⟩ ∈ tblG := wdG (i := 564) (by decide +kernel) rfl
theorem wk_565 : Cond.code ⟨"RopeTreaty", "loose", "(I)I"⟩ prog_1_method_17_code (4 : Nat) (Option.some Jvm.ClassFile.FieldType.int) ∈ tblG := wdG (i := 565) (by decide +kernel) rfl
theorem wk_566 : Cond.methodLink "RopeTreaty" (182 : Nat) ⟨"RopeTreaty$Rope", "passByDraws", "()I"⟩ ∈ tblG := wdG (i := 566) (by decide +kernel) rfl
theorem wk_567 : Cond.instanceMethod ⟨"RopeTreaty$Rope", "passByDraws", "()I"⟩ ∈ tblG := wdG (i := 567) (by decide +kernel) rfl
theorem wk_568 : Cond.selects "RopeTreaty$Rope" ⟨"RopeTreaty$Rope", "passByDraws", "()I"⟩ ⟨"RopeTreaty$Rope", "passByDraws", "()I"⟩ ∈ tblG := wdG (i := 568) (by decide +kernel) rfl
theorem wk_569 : Cond.code ⟨"RopeTreaty$Rope", "passByDraws", "()I"⟩ prog_3_method_21_code (4 : Nat) (Option.some Jvm.ClassFile.FieldType.int) ∈ tblG := wdG (i := 569) (by decide +kernel) rfl
theorem wk_570 : Cond.methodLink "RopeTreaty$Rope" (130 : Nat) ⟨"RopeTreaty$Rope", "draw", "()I"⟩ ∈ tblG := wdG (i := 570) (by decide +kernel) rfl
theorem wk_572 : Cond.instanceMethod ⟨"RopeTreaty$Rope", "draw", "()I"⟩ ∈ tblG := wdG (i := 572) (by decide +kernel) rfl
theorem wk_573 : Cond.code ⟨"RopeTreaty$Rope", "draw", "()I"⟩ prog_3_method_22_code (1 : Nat) (Option.some Jvm.ClassFile.FieldType.int) ∈ tblG := wdG (i := 573) (by decide +kernel) rfl
theorem wk_574 : Cond.constant "RopeTreaty$Rope" (143 : Nat) (1103515245 : Int32) ∈ tblG := wdG (i := 574) (by decide +kernel) rfl
theorem wk_575 : Cond.methodLink "RopeTreaty$Rope" (133 : Nat) ⟨"RopeTreaty$Rope", "mayTalk", "()Z"⟩ ∈ tblG := wdG (i := 575) (by decide +kernel) rfl
theorem wk_576 : Cond.methodLink "RopeTreaty$Rope" (136 : Nat) ⟨"RopeTreaty$Rope", "isTaken", "(I)Z"⟩ ∈ tblG := wdG (i := 576) (by decide +kernel) rfl
theorem wk_577 : Cond.methodLink "RopeTreaty$Rope" (140 : Nat) ⟨"RopeTreaty$Rope", "pass", "()I"⟩ ∈ tblG := wdG (i := 577) (by decide +kernel) rfl
theorem wk_579 : Cond.instanceMethod ⟨"RopeTreaty", "seed", "(I)I"⟩ ∈ tblG := wdG (i := 579) (by decide +kernel) rfl
theorem wk_580 : Cond.selects "RopeTreaty" ⟨"RopeTreaty", "seed", "(I)I"⟩ ⟨"RopeTreaty", "seed", "(I)I"⟩ ∈ tblG := wdG (i := 580) (by decide +kernel) rfl
theorem wk_581 : Cond.code ⟨"RopeTreaty", "seed", "(I)I"⟩ prog_1_method_18_code (3 : Nat) (Option.some Jvm.ClassFile.FieldType.int) ∈ tblG := wdG (i := 581) (by decide +kernel) rfl
theorem wk_583 : Cond.instanceMethod ⟨"RopeTreaty", "then", "(III)I"⟩ ∈ tblG := wdG (i := 583) (by decide +kernel) rfl
theorem wk_584 : Cond.selects "RopeTreaty" ⟨"RopeTreaty", "then", "(III)I"⟩ ⟨"RopeTreaty", "then", "(III)I"⟩ ∈ tblG := wdG (i := 584) (by decide +kernel) rfl
theorem wk_585 : Cond.code ⟨"RopeTreaty", "then", "(III)I"⟩ prog_1_method_19_code (5 : Nat) (Option.some Jvm.ClassFile.FieldType.int) ∈ tblG := wdG (i := 585) (by decide +kernel) rfl
theorem wk_586 : Cond.methodLink "RopeTreaty" (188 : Nat) ⟨"RopeTreaty$Rope", "copy", "(LRopeTreaty$Rope;)V"⟩ ∈ tblG := wdG (i := 586) (by decide +kernel) rfl
theorem wk_587 : Cond.instanceMethod ⟨"RopeTreaty$Rope", "copy", "(LRopeTreaty$Rope;)V"⟩ ∈ tblG := wdG (i := 587) (by decide +kernel) rfl
theorem wk_588 : Cond.selects "RopeTreaty$Rope" ⟨"RopeTreaty$Rope", "copy", "(LRopeTreaty$Rope;)V"⟩ ⟨"RopeTreaty$Rope", "copy", "(LRopeTreaty$Rope;)V"⟩ ∈ tblG := wdG (i := 588) (by decide +kernel) rfl
theorem wk_589 : Cond.code ⟨"RopeTreaty$Rope", "copy", "(LRopeTreaty$Rope;)V"⟩ prog_3_method_2_code (2 : Nat) (Option.none : Option Jvm.ClassFile.FieldType) ∈ tblG := wdG (i := 589) (by decide +kernel) rfl
theorem wk_590 : Cond.methodLink "RopeTreaty$Rope" (55 : Nat) ⟨"RopeTreaty$Text", "copy", "(LRopeTreaty$Text;)V"⟩ ∈ tblG := wdG (i := 590) (by decide +kernel) rfl
theorem wk_591 : Cond.instanceMethod ⟨"RopeTreaty$Text", "copy", "(LRopeTreaty$Text;)V"⟩ ∈ tblG := wdG (i := 591) (by decide +kernel) rfl
theorem wk_592 : Cond.selects "RopeTreaty$Text" ⟨"RopeTreaty$Text", "copy", "(LRopeTreaty$Text;)V"⟩ ⟨"RopeTreaty$Text", "copy", "(LRopeTreaty$Text;)V"⟩ ∈ tblG := wdG (i := 592) (by decide +kernel) rfl
theorem wk_593 : Cond.code ⟨"RopeTreaty$Text", "copy", "(LRopeTreaty$Text;)V"⟩ prog_6_method_4_code (2 : Nat) (Option.none : Option Jvm.ClassFile.FieldType) ∈ tblG := wdG (i := 593) (by decide +kernel) rfl
theorem wk_594 : Cond.methodLink "RopeTreaty$Text" (31 : Nat) ⟨"RopeTreaty$Text", "learn", "([II)V"⟩ ∈ tblG := wdG (i := 594) (by decide +kernel) rfl
theorem wk_595 : Cond.methodLink "RopeTreaty$Rope" (59 : Nat) ⟨"java/lang/System", "arraycopy", "(Ljava/lang/Object;ILjava/lang/Object;II)V"⟩ ∈ tblG := wdG (i := 595) (by decide +kernel) rfl
theorem wk_597 : Cond.instanceMethod ⟨"RopeTreaty", "lasts", "(I)I"⟩ ∈ tblG := wdG (i := 597) (by decide +kernel) rfl
theorem wk_598 : Cond.selects "RopeTreaty" ⟨"RopeTreaty", "lasts", "(I)I"⟩ ⟨"RopeTreaty", "lasts", "(I)I"⟩ ∈ tblG := wdG (i := 598) (by decide +kernel) rfl
theorem wk_599 : Cond.code ⟨"RopeTreaty", "lasts", "(I)I"⟩ prog_1_method_20_code (3 : Nat) (Option.some Jvm.ClassFile.FieldType.int) ∈ tblG := wdG (i := 599) (by decide +kernel) rfl
theorem wk_601 : Cond.instanceMethod ⟨"RopeTreaty", "agree", "(I)I"⟩ ∈ tblG := wdG (i := 601) (by decide +kernel) rfl
theorem wk_602 : Cond.selects "RopeTreaty" ⟨"RopeTreaty", "agree", "(I)I"⟩ ⟨"RopeTreaty", "agree", "(I)I"⟩ ∈ tblG := wdG (i := 602) (by decide +kernel) rfl
theorem wk_603 : Cond.code ⟨"RopeTreaty", "agree", "(I)I"⟩ prog_1_method_21_code (4 : Nat) (Option.some Jvm.ClassFile.FieldType.int) ∈ tblG := wdG (i := 603) (by decide +kernel) rfl
theorem wk_605 : Cond.instanceMethod ⟨"RopeTreaty", "fairest", "(I)I"⟩ ∈ tblG := wdG (i := 605) (by decide +kernel) rfl
theorem wk_606 : Cond.selects "RopeTreaty" ⟨"RopeTreaty", "fairest", "(I)I"⟩ ⟨"RopeTreaty", "fairest", "(I)I"⟩ ∈ tblG := wdG (i := 606) (by decide +kernel) rfl
theorem wk_607 : Cond.code ⟨"RopeTreaty", "fairest", "(I)I"⟩ prog_1_method_22_code (6 : Nat) (Option.some Jvm.ClassFile.FieldType.int) ∈ tblG := wdG (i := 607) (by decide +kernel) rfl
theorem wk_608 : Cond.methodLink "RopeTreaty" (192 : Nat) ⟨"RopeTreaty$Rope", "howManyIn", "()I"⟩ ∈ tblG := wdG (i := 608) (by decide +kernel) rfl
theorem wk_609 : Cond.methodLink "RopeTreaty" (195 : Nat) ⟨"RopeTreaty$Rope", "leastLiking", "(I)I"⟩ ∈ tblG := wdG (i := 609) (by decide +kernel) rfl
theorem wk_610 : Cond.instanceMethod ⟨"RopeTreaty$Rope", "leastLiking", "(I)I"⟩ ∈ tblG := wdG (i := 610) (by decide +kernel) rfl
theorem wk_611 : Cond.selects "RopeTreaty$Rope" ⟨"RopeTreaty$Rope", "leastLiking", "(I)I"⟩ ⟨"RopeTreaty$Rope", "leastLiking", "(I)I"⟩ ∈ tblG := wdG (i := 611) (by decide +kernel) rfl
theorem wk_612 : Cond.code ⟨"RopeTreaty$Rope", "leastLiking", "(I)I"⟩ prog_3_method_16_code (4 : Nat) (Option.some Jvm.ClassFile.FieldType.int) ∈ tblG := wdG (i := 612) (by decide +kernel) rfl
theorem wk_614 : Cond.instanceMethod ⟨"RopeTreaty", "balks", "(I)I"⟩ ∈ tblG := wdG (i := 614) (by decide +kernel) rfl
theorem wk_615 : Cond.selects "RopeTreaty" ⟨"RopeTreaty", "balks", "(I)I"⟩ ⟨"RopeTreaty", "balks", "(I)I"⟩ ∈ tblG := wdG (i := 615) (by decide +kernel) rfl
theorem wk_616 : Cond.code ⟨"RopeTreaty", "balks", "(I)I"⟩ prog_1_method_23_code (3 : Nat) (Option.some Jvm.ClassFile.FieldType.int) ∈ tblG := wdG (i := 616) (by decide +kernel) rfl
theorem wk_617 : Cond.methodLink "RopeTreaty" (198 : Nat) ⟨"RopeTreaty$Rope", "whoBalks", "()I"⟩ ∈ tblG := wdG (i := 617) (by decide +kernel) rfl
theorem wk_618 : Cond.instanceMethod ⟨"RopeTreaty$Rope", "whoBalks", "()I"⟩ ∈ tblG := wdG (i := 618) (by decide +kernel) rfl
theorem wk_619 : Cond.selects "RopeTreaty$Rope" ⟨"RopeTreaty$Rope", "whoBalks", "()I"⟩ ⟨"RopeTreaty$Rope", "whoBalks", "()I"⟩ ∈ tblG := wdG (i := 619) (by decide +kernel) rfl
theorem wk_620 : Cond.code ⟨"RopeTreaty$Rope", "whoBalks", "()I"⟩ prog_3_method_17_code (3 : Nat) (Option.some Jvm.ClassFile.FieldType.int) ∈ tblG := wdG (i := 620) (by decide +kernel) rfl
theorem wk_621 : Cond.methodLink "RopeTreaty$Rope" (117 : Nat) ⟨"RopeTreaty$Rope", "onlyAgainst", "(I)I"⟩ ∈ tblG := wdG (i := 621) (by decide +kernel) rfl
theorem wk_623 : Cond.instanceMethod ⟨"RopeTreaty$Rope", "onlyAgainst", "(I)I"⟩ ∈ tblG := wdG (i := 623) (by decide +kernel) rfl
theorem wk_624 : Cond.code ⟨"RopeTreaty$Rope", "onlyAgainst", "(I)I"⟩ prog_3_method_18_code (4 : Nat) (Option.some Jvm.ClassFile.FieldType.int) ∈ tblG := wdG (i := 624) (by decide +kernel) rfl
theorem wk_625 : Cond.methodLink "RopeTreaty$Rope" (120 : Nat) ⟨"java/lang/Math", "max", "(II)I"⟩ ∈ tblG := wdG (i := 625) (by decide +kernel) rfl
theorem wk_627 : Cond.instanceMethod ⟨"RopeTreaty", "soon", "(I)I"⟩ ∈ tblG := wdG (i := 627) (by decide +kernel) rfl
theorem wk_628 : Cond.selects "RopeTreaty" ⟨"RopeTreaty", "soon", "(I)I"⟩ ⟨"RopeTreaty", "soon", "(I)I"⟩ ∈ tblG := wdG (i := 628) (by decide +kernel) rfl
theorem wk_629 : Cond.code ⟨"RopeTreaty", "soon", "(I)I"⟩ prog_1_method_24_code (3 : Nat) (Option.some Jvm.ClassFile.FieldType.int) ∈ tblG := wdG (i := 629) (by decide +kernel) rfl
theorem wk_631 : Cond.instanceMethod ⟨"RopeTreaty", "meets", "(IIII)I"⟩ ∈ tblG := wdG (i := 631) (by decide +kernel) rfl
theorem wk_632 : Cond.selects "RopeTreaty" ⟨"RopeTreaty", "meets", "(IIII)I"⟩ ⟨"RopeTreaty", "meets", "(IIII)I"⟩ ∈ tblG := wdG (i := 632) (by decide +kernel) rfl
theorem wk_633 : Cond.code ⟨"RopeTreaty", "meets", "(IIII)I"⟩ prog_1_method_25_code (7 : Nat) (Option.some Jvm.ClassFile.FieldType.int) ∈ tblG := wdG (i := 633) (by decide +kernel) rfl
theorem wk_634 : Cond.methodLink "RopeTreaty" (204 : Nat) ⟨"RopeTreaty", "isRest", "(II)Z"⟩ ∈ tblG := wdG (i := 634) (by decide +kernel) rfl
theorem wk_635 : Cond.static ⟨"RopeTreaty", "isRest", "(II)Z"⟩ ∈ tblG := wdG (i := 635) (by decide +kernel) rfl
theorem wk_636 : Cond.code ⟨"RopeTreaty", "isRest", "(II)Z"⟩ prog_1_method_48_code (2 : Nat) (Option.some Jvm.ClassFile.FieldType.boolean) ∈ tblG := wdG (i := 636) (by decide +kernel) rfl
theorem wk_638 : Cond.instanceMethod ⟨"RopeTreaty", "odds", "(II)I"⟩ ∈ tblG := wdG (i := 638) (by decide +kernel) rfl
theorem wk_639 : Cond.selects "RopeTreaty" ⟨"RopeTreaty", "odds", "(II)I"⟩ ⟨"RopeTreaty", "odds", "(II)I"⟩ ∈ tblG := wdG (i := 639) (by decide +kernel) rfl
theorem wk_640 : Cond.code ⟨"RopeTreaty", "odds", "(II)I"⟩ prog_1_method_26_code (5 : Nat) (Option.some Jvm.ClassFile.FieldType.int) ∈ tblG := wdG (i := 640) (by decide +kernel) rfl
theorem wk_642 : Cond.instanceMethod ⟨"RopeTreaty", "fits", "(I)I"⟩ ∈ tblG := wdG (i := 642) (by decide +kernel) rfl
theorem wk_643 : Cond.selects "RopeTreaty" ⟨"RopeTreaty", "fits", "(I)I"⟩ ⟨"RopeTreaty", "fits", "(I)I"⟩ ∈ tblG := wdG (i := 643) (by decide +kernel) rfl
theorem wk_644 : Cond.code ⟨"RopeTreaty", "fits", "(I)I"⟩ prog_1_method_27_code (3 : Nat) (Option.some Jvm.ClassFile.FieldType.int) ∈ tblG := wdG (i := 644) (by decide +kernel) rfl
theorem wk_645 : Cond.methodLink "RopeTreaty" (207 : Nat) ⟨"RopeTreaty", "isSheet", "(I)Z"⟩ ∈ tblG := wdG (i := 645) (by decide +kernel) rfl
theorem wk_646 : Cond.static ⟨"RopeTreaty", "isSheet", "(I)Z"⟩ ∈ tblG := wdG (i := 646) (by decide +kernel) rfl
theorem wk_647 : Cond.code ⟨"RopeTreaty", "isSheet", "(I)Z"⟩ prog_1_method_46_code (1 : Nat) (Option.some Jvm.ClassFile.FieldType.boolean) ∈ tblG := wdG (i := 647) (by decide +kernel) rfl
theorem wk_648 : Cond.methodLink "RopeTreaty" (210 : Nat) ⟨"RopeTreaty$Row", "isMissing", "()Z"⟩ ∈ tblG := wdG (i := 648) (by decide +kernel) rfl
theorem wk_649 : Cond.instanceMethod ⟨"RopeTreaty$Row", "isMissing", "()Z"⟩ ∈ tblG := wdG (i := 649) (by decide +kernel) rfl
theorem wk_650 : Cond.selects "RopeTreaty$Row" ⟨"RopeTreaty$Row", "isMissing", "()Z"⟩ ⟨"RopeTreaty$Row", "isMissing", "()Z"⟩ ∈ tblG := wdG (i := 650) (by decide +kernel) rfl
theorem wk_651 : Cond.code ⟨"RopeTreaty$Row", "isMissing", "()Z"⟩ prog_4_method_2_code (1 : Nat) (Option.some Jvm.ClassFile.FieldType.boolean) ∈ tblG := wdG (i := 651) (by decide +kernel) rfl
theorem wk_652 : Cond.methodLink "RopeTreaty" (213 : Nat) ⟨"RopeTreaty$Rope", "breathsRight", "(LRopeTreaty$Row;)I"⟩ ∈ tblG := wdG (i := 652) (by decide +kernel) rfl
theorem wk_653 : Cond.instanceMethod ⟨"RopeTreaty$Rope", "breathsRight", "(LRopeTreaty$Row;)I"⟩ ∈ tblG := wdG (i := 653) (by decide +kernel) rfl
theorem wk_654 : Cond.selects "RopeTreaty$Rope" ⟨"RopeTreaty$Rope", "breathsRight", "(LRopeTreaty$Row;)I"⟩ ⟨"RopeTreaty$Rope", "breathsRight", "(LRopeTreaty$Row;)I"⟩ ∈ tblG := wdG (i := 654) (by decide +kernel) rfl
theorem wk_655 : Cond.code ⟨"RopeTreaty$Rope", "breathsRight", "(LRopeTreaty$Row;)I"⟩ prog_3_method_23_code (3 : Nat) (Option.some Jvm.ClassFile.FieldType.int) ∈ tblG := wdG (i := 655) (by decide +kernel) rfl
theorem wk_657 : Cond.instanceMethod ⟨"RopeTreaty", "voice", "(III)I"⟩ ∈ tblG := wdG (i := 657) (by decide +kernel) rfl
theorem wk_658 : Cond.selects "RopeTreaty" ⟨"RopeTreaty", "voice", "(III)I"⟩ ⟨"RopeTreaty", "voice", "(III)I"⟩ ∈ tblG := wdG (i := 658) (by decide +kernel) rfl
theorem wk_659 : Cond.code ⟨"RopeTreaty", "voice", "(III)I"⟩ prog_1_method_28_code (5 : Nat) (Option.some Jvm.ClassFile.FieldType.int) ∈ tblG := wdG (i := 659) (by decide +kernel) rfl
theorem wk_660 : Cond.methodLink "RopeTreaty" (218 : Nat) ⟨"RopeTreaty$Throat", "speak", "(IIIII)I"⟩ ∈ tblG := wdG (i := 660) (by decide +kernel) rfl
theorem wk_661 : Cond.instanceMethod ⟨"RopeTreaty$Throat", "speak", "(IIIII)I"⟩ ∈ tblG := wdG (i := 661) (by decide +kernel) rfl
theorem wk_662 : Cond.selects "RopeTreaty$Throat" ⟨"RopeTreaty$Throat", "speak", "(IIIII)I"⟩ ⟨"RopeTreaty$Throat", "speak", "(IIIII)I"⟩ ∈ tblG := wdG (i := 662) (by decide +kernel) rfl
theorem wk_663 : Cond.code ⟨"RopeTreaty$Throat", "speak", "(IIIII)I"⟩ prog_7_method_2_code (6 : Nat) (Option.some Jvm.ClassFile.FieldType.int) ∈ tblG := wdG (i := 663) (by decide +kernel) rfl
theorem wk_664 : Cond.methodLink "RopeTreaty$Throat" (32 : Nat) ⟨"RopeTreaty$Throat", "say", "(IIII)I"⟩ ∈ tblG := wdG (i := 664) (by decide +kernel) rfl
theorem wk_666 : Cond.instanceMethod ⟨"RopeTreaty$Throat", "say", "(IIII)I"⟩ ∈ tblG := wdG (i := 666) (by decide +kernel) rfl
theorem wk_667 : Cond.code ⟨"RopeTreaty$Throat", "say", "(IIII)I"⟩ prog_7_method_3_code (6 : Nat) (Option.some Jvm.ClassFile.FieldType.int) ∈ tblG := wdG (i := 667) (by decide +kernel) rfl
theorem wk_668 : Cond.methodLink "RopeTreaty$Throat" (36 : Nat) ⟨"RopeTreaty$Throat", "bodyOf", "(II)I"⟩ ∈ tblG := wdG (i := 668) (by decide +kernel) rfl
theorem wk_669 : Cond.static ⟨"RopeTreaty$Throat", "bodyOf", "(II)I"⟩ ∈ tblG := wdG (i := 669) (by decide +kernel) rfl
theorem wk_670 : Cond.code ⟨"RopeTreaty$Throat", "bodyOf", "(II)I"⟩ prog_7_method_4_code (4 : Nat) (Option.some Jvm.ClassFile.FieldType.int) ∈ tblG := wdG (i := 670) (by decide +kernel) rfl
theorem wk_672 : Cond.fieldLink "RopeTreaty$Throat" (48 : Nat) "RopeTreaty$Throat" "BODIES" "[I" ∈ tblG := wdG (i := 672) (by decide +kernel) rfl
theorem wk_675 : Cond.methodLink "RopeTreaty$Throat" (40 : Nat) ⟨"RopeTreaty$Throat", "work", "(III)I"⟩ ∈ tblG := wdG (i := 675) (by decide +kernel) rfl
theorem wk_677 : Cond.instanceMethod ⟨"RopeTreaty$Throat", "work", "(III)I"⟩ ∈ tblG := wdG (i := 677) (by decide +kernel) rfl
theorem wk_678 : Cond.code ⟨"RopeTreaty$Throat", "work", "(III)I"⟩ prog_7_method_5_code (4 : Nat) (Option.some Jvm.ClassFile.FieldType.int) ∈ tblG := wdG (i := 678) (by decide +kernel) rfl
theorem wk_679 : Cond.methodLink "RopeTreaty$Throat" (54 : Nat) ⟨"RopeTreaty$Throat", "part", "(I)I"⟩ ∈ tblG := wdG (i := 679) (by decide +kernel) rfl
theorem wk_681 : Cond.instanceMethod ⟨"RopeTreaty$Throat", "part", "(I)I"⟩ ∈ tblG := wdG (i := 681) (by decide +kernel) rfl
theorem wk_682 : Cond.code ⟨"RopeTreaty$Throat", "part", "(I)I"⟩ prog_7_method_6_code (3 : Nat) (Option.some Jvm.ClassFile.FieldType.int) ∈ tblG := wdG (i := 682) (by decide +kernel) rfl
theorem wk_684 : Cond.instanceMethod ⟨"RopeTreaty", "body", "(I)I"⟩ ∈ tblG := wdG (i := 684) (by decide +kernel) rfl
theorem wk_685 : Cond.selects "RopeTreaty" ⟨"RopeTreaty", "body", "(I)I"⟩ ⟨"RopeTreaty", "body", "(I)I"⟩ ∈ tblG := wdG (i := 685) (by decide +kernel) rfl
theorem wk_686 : Cond.code ⟨"RopeTreaty", "body", "(I)I"⟩ prog_1_method_29_code (2 : Nat) (Option.some Jvm.ClassFile.FieldType.int) ∈ tblG := wdG (i := 686) (by decide +kernel) rfl
theorem wk_688 : Cond.instanceMethod ⟨"RopeTreaty", "sheet", "(III)I"⟩ ∈ tblG := wdG (i := 688) (by decide +kernel) rfl
theorem wk_689 : Cond.selects "RopeTreaty" ⟨"RopeTreaty", "sheet", "(III)I"⟩ ⟨"RopeTreaty", "sheet", "(III)I"⟩ ∈ tblG := wdG (i := 689) (by decide +kernel) rfl
theorem wk_690 : Cond.code ⟨"RopeTreaty", "sheet", "(III)I"⟩ prog_1_method_30_code (4 : Nat) (Option.some Jvm.ClassFile.FieldType.int) ∈ tblG := wdG (i := 690) (by decide +kernel) rfl
theorem wk_691 : Cond.methodLink "RopeTreaty" (232 : Nat) ⟨"RopeTreaty", "isBits", "(I)Z"⟩ ∈ tblG := wdG (i := 691) (by decide +kernel) rfl
theorem wk_692 : Cond.static ⟨"RopeTreaty", "isBits", "(I)Z"⟩ ∈ tblG := wdG (i := 692) (by decide +kernel) rfl
theorem wk_693 : Cond.code ⟨"RopeTreaty", "isBits", "(I)Z"⟩ prog_1_method_47_code (1 : Nat) (Option.some Jvm.ClassFile.FieldType.boolean) ∈ tblG := wdG (i := 693) (by decide +kernel) rfl
theorem wk_694 : Cond.methodLink "RopeTreaty" (235 : Nat) ⟨"RopeTreaty$Row", "begin", "(II)V"⟩ ∈ tblG := wdG (i := 694) (by decide +kernel) rfl
theorem wk_695 : Cond.instanceMethod ⟨"RopeTreaty$Row", "begin", "(II)V"⟩ ∈ tblG := wdG (i := 695) (by decide +kernel) rfl
theorem wk_696 : Cond.selects "RopeTreaty$Row" ⟨"RopeTreaty$Row", "begin", "(II)V"⟩ ⟨"RopeTreaty$Row", "begin", "(II)V"⟩ ∈ tblG := wdG (i := 696) (by decide +kernel) rfl
theorem wk_697 : Cond.code ⟨"RopeTreaty$Row", "begin", "(II)V"⟩ prog_4_method_3_code (4 : Nat) (Option.none : Option Jvm.ClassFile.FieldType) ∈ tblG := wdG (i := 697) (by decide +kernel) rfl
theorem wk_699 : Cond.instanceMethod ⟨"RopeTreaty", "put", "(III)I"⟩ ∈ tblG := wdG (i := 699) (by decide +kernel) rfl
theorem wk_700 : Cond.selects "RopeTreaty" ⟨"RopeTreaty", "put", "(III)I"⟩ ⟨"RopeTreaty", "put", "(III)I"⟩ ∈ tblG := wdG (i := 700) (by decide +kernel) rfl
theorem wk_701 : Cond.code ⟨"RopeTreaty", "put", "(III)I"⟩ prog_1_method_31_code (4 : Nat) (Option.some Jvm.ClassFile.FieldType.int) ∈ tblG := wdG (i := 701) (by decide +kernel) rfl
theorem wk_702 : Cond.methodLink "RopeTreaty" (241 : Nat) ⟨"RopeTreaty$Row", "lowest", "(I)I"⟩ ∈ tblG := wdG (i := 702) (by decide +kernel) rfl
theorem wk_703 : Cond.instanceMethod ⟨"RopeTreaty$Row", "lowest", "(I)I"⟩ ∈ tblG := wdG (i := 703) (by decide +kernel) rfl
theorem wk_704 : Cond.selects "RopeTreaty$Row" ⟨"RopeTreaty$Row", "lowest", "(I)I"⟩ ⟨"RopeTreaty$Row", "lowest", "(I)I"⟩ ∈ tblG := wdG (i := 704) (by decide +kernel) rfl
theorem wk_705 : Cond.code ⟨"RopeTreaty$Row", "lowest", "(I)I"⟩ prog_4_method_4_code (2 : Nat) (Option.some Jvm.ClassFile.FieldType.int) ∈ tblG := wdG (i := 705) (by decide +kernel) rfl
theorem wk_707 : Cond.instanceMethod ⟨"RopeTreaty", "move", "(IIIII)I"⟩ ∈ tblG := wdG (i := 707) (by decide +kernel) rfl
theorem wk_708 : Cond.selects "RopeTreaty" ⟨"RopeTreaty", "move", "(IIIII)I"⟩ ⟨"RopeTreaty", "move", "(IIIII)I"⟩ ∈ tblG := wdG (i := 708) (by decide +kernel) rfl
theorem wk_709 : Cond.code ⟨"RopeTreaty", "move", "(IIIII)I"⟩ prog_1_method_32_code (8 : Nat) (Option.some Jvm.ClassFile.FieldType.int) ∈ tblG := wdG (i := 709) (by decide +kernel) rfl
theorem wk_710 : Cond.methodLink "RopeTreaty" (247 : Nat) ⟨"RopeTreaty$Row", "holds", "(II)Z"⟩ ∈ tblG := wdG (i := 710) (by decide +kernel) rfl
theorem wk_711 : Cond.instanceMethod ⟨"RopeTreaty$Row", "holds", "(II)Z"⟩ ∈ tblG := wdG (i := 711) (by decide +kernel) rfl
theorem wk_712 : Cond.selects "RopeTreaty$Row" ⟨"RopeTreaty$Row", "holds", "(II)Z"⟩ ⟨"RopeTreaty$Row", "holds", "(II)Z"⟩ ∈ tblG := wdG (i := 712) (by decide +kernel) rfl
theorem wk_713 : Cond.code ⟨"RopeTreaty$Row", "holds", "(II)Z"⟩ prog_4_method_5_code (3 : Nat) (Option.some Jvm.ClassFile.FieldType.boolean) ∈ tblG := wdG (i := 713) (by decide +kernel) rfl
theorem wk_714 : Cond.methodLink "RopeTreaty" (250 : Nat) ⟨"java/lang/System", "arraycopy", "(Ljava/lang/Object;ILjava/lang/Object;II)V"⟩ ∈ tblG := wdG (i := 714) (by decide +kernel) rfl
theorem wk_716 : Cond.instanceMethod ⟨"RopeTreaty", "breaths", "(I)I"⟩ ∈ tblG := wdG (i := 716) (by decide +kernel) rfl
theorem wk_717 : Cond.selects "RopeTreaty" ⟨"RopeTreaty", "breaths", "(I)I"⟩ ⟨"RopeTreaty", "breaths", "(I)I"⟩ ∈ tblG := wdG (i := 717) (by decide +kernel) rfl
theorem wk_718 : Cond.code ⟨"RopeTreaty", "breaths", "(I)I"⟩ prog_1_method_33_code (2 : Nat) (Option.some Jvm.ClassFile.FieldType.int) ∈ tblG := wdG (i := 718) (by decide +kernel) rfl
theorem wk_719 : Cond.methodLink "RopeTreaty" (256 : Nat) ⟨"RopeTreaty$Rope", "takeBreaths", "(LRopeTreaty$Row;)I"⟩ ∈ tblG := wdG (i := 719) (by decide +kernel) rfl
theorem wk_720 : Cond.instanceMethod ⟨"RopeTreaty$Rope", "takeBreaths", "(LRopeTreaty$Row;)I"⟩ ∈ tblG := wdG (i := 720) (by decide +kernel) rfl
theorem wk_721 : Cond.selects "RopeTreaty$Rope" ⟨"RopeTreaty$Rope", "takeBreaths", "(LRopeTreaty$Row;)I"⟩ ⟨"RopeTreaty$Rope", "takeBreaths", "(LRopeTreaty$Row;)I"⟩ ∈ tblG := wdG (i := 721) (by decide +kernel) rfl
theorem wk_722 : Cond.code ⟨"RopeTreaty$Rope", "takeBreaths", "(LRopeTreaty$Row;)I"⟩ prog_3_method_25_code (3 : Nat) (Option.some Jvm.ClassFile.FieldType.int) ∈ tblG := wdG (i := 722) (by decide +kernel) rfl
theorem wk_725 : Cond.instanceMethod ⟨"RopeTreaty", "judge", "(I)I"⟩ ∈ tblG := wdG (i := 725) (by decide +kernel) rfl
theorem wk_726 : Cond.selects "RopeTreaty" ⟨"RopeTreaty", "judge", "(I)I"⟩ ⟨"RopeTreaty", "judge", "(I)I"⟩ ∈ tblG := wdG (i := 726) (by decide +kernel) rfl
theorem wk_727 : Cond.code ⟨"RopeTreaty", "judge", "(I)I"⟩ prog_1_method_34_code (2 : Nat) (Option.some Jvm.ClassFile.FieldType.int) ∈ tblG := wdG (i := 727) (by decide +kernel) rfl
theorem wk_728 : Cond.methodLink "RopeTreaty" (259 : Nat) ⟨"RopeTreaty$Rope", "costsRight", "(LRopeTreaty$Row;)I"⟩ ∈ tblG := wdG (i := 728) (by decide +kernel) rfl
theorem wk_729 : Cond.instanceMethod ⟨"RopeTreaty$Rope", "costsRight", "(LRopeTreaty$Row;)I"⟩ ∈ tblG := wdG (i := 729) (by decide +kernel) rfl
theorem wk_730 : Cond.selects "RopeTreaty$Rope" ⟨"RopeTreaty$Rope", "costsRight", "(LRopeTreaty$Row;)I"⟩ ⟨"RopeTreaty$Rope", "costsRight", "(LRopeTreaty$Row;)I"⟩ ∈ tblG := wdG (i := 730) (by decide +kernel) rfl
theorem wk_731 : Cond.code ⟨"RopeTreaty$Rope", "costsRight", "(LRopeTreaty$Row;)I"⟩ prog_3_method_24_code (3 : Nat) (Option.some Jvm.ClassFile.FieldType.int) ∈ tblG := wdG (i := 731) (by decide +kernel) rfl
theorem wk_733 : Cond.instanceMethod ⟨"RopeTreaty", "image", "()I"⟩ ∈ tblG := wdG (i := 733) (by decide +kernel) rfl
theorem wk_734 : Cond.selects "RopeTreaty" ⟨"RopeTreaty", "image", "()I"⟩ ⟨"RopeTreaty", "image", "()I"⟩ ∈ tblG := wdG (i := 734) (by decide +kernel) rfl
theorem wk_735 : Cond.code ⟨"RopeTreaty", "image", "()I"⟩ prog_1_method_35_code (1 : Nat) (Option.some Jvm.ClassFile.FieldType.int) ∈ tblG := wdG (i := 735) (by decide +kernel) rfl
theorem wk_736 : Cond.methodLink "RopeTreaty" (262 : Nat) ⟨"RopeTreaty$Tape", "copy", "(LRopeTreaty$Tape;)V"⟩ ∈ tblG := wdG (i := 736) (by decide +kernel) rfl
theorem wk_737 : Cond.instanceMethod ⟨"RopeTreaty$Tape", "copy", "(LRopeTreaty$Tape;)V"⟩ ∈ tblG := wdG (i := 737) (by decide +kernel) rfl
theorem wk_738 : Cond.selects "RopeTreaty$Tape" ⟨"RopeTreaty$Tape", "copy", "(LRopeTreaty$Tape;)V"⟩ ⟨"RopeTreaty$Tape", "copy", "(LRopeTreaty$Tape;)V"⟩ ∈ tblG := wdG (i := 738) (by decide +kernel) rfl
theorem wk_739 : Cond.code ⟨"RopeTreaty$Tape", "copy", "(LRopeTreaty$Tape;)V"⟩ prog_5_method_3_code (2 : Nat) (Option.none : Option Jvm.ClassFile.FieldType) ∈ tblG := wdG (i := 739) (by decide +kernel) rfl
theorem wk_740 : Cond.methodLink "RopeTreaty$Tape" (19 : Nat) ⟨"java/lang/System", "arraycopy", "(Ljava/lang/Object;ILjava/lang/Object;II)V"⟩ ∈ tblG := wdG (i := 740) (by decide +kernel) rfl
theorem wk_741 : Cond.methodLink "RopeTreaty" (265 : Nat) ⟨"RopeTreaty$Row", "copy", "(LRopeTreaty$Row;)V"⟩ ∈ tblG := wdG (i := 741) (by decide +kernel) rfl
theorem wk_742 : Cond.instanceMethod ⟨"RopeTreaty$Row", "copy", "(LRopeTreaty$Row;)V"⟩ ∈ tblG := wdG (i := 742) (by decide +kernel) rfl
theorem wk_743 : Cond.selects "RopeTreaty$Row" ⟨"RopeTreaty$Row", "copy", "(LRopeTreaty$Row;)V"⟩ ⟨"RopeTreaty$Row", "copy", "(LRopeTreaty$Row;)V"⟩ ∈ tblG := wdG (i := 743) (by decide +kernel) rfl
theorem wk_744 : Cond.code ⟨"RopeTreaty$Row", "copy", "(LRopeTreaty$Row;)V"⟩ prog_4_method_6_code (2 : Nat) (Option.none : Option Jvm.ClassFile.FieldType) ∈ tblG := wdG (i := 744) (by decide +kernel) rfl
theorem wk_745 : Cond.methodLink "RopeTreaty$Row" (22 : Nat) ⟨"java/lang/System", "arraycopy", "(Ljava/lang/Object;ILjava/lang/Object;II)V"⟩ ∈ tblG := wdG (i := 745) (by decide +kernel) rfl
theorem wk_747 : Cond.instanceMethod ⟨"RopeTreaty", "restore", "()I"⟩ ∈ tblG := wdG (i := 747) (by decide +kernel) rfl
theorem wk_748 : Cond.selects "RopeTreaty" ⟨"RopeTreaty", "restore", "()I"⟩ ⟨"RopeTreaty", "restore", "()I"⟩ ∈ tblG := wdG (i := 748) (by decide +kernel) rfl
theorem wk_749 : Cond.code ⟨"RopeTreaty", "restore", "()I"⟩ prog_1_method_36_code (1 : Nat) (Option.some Jvm.ClassFile.FieldType.int) ∈ tblG := wdG (i := 749) (by decide +kernel) rfl
theorem wk_751 : Cond.instanceMethod ⟨"RopeTreaty", "tell", "(I)I"⟩ ∈ tblG := wdG (i := 751) (by decide +kernel) rfl
theorem wk_752 : Cond.selects "RopeTreaty" ⟨"RopeTreaty", "tell", "(I)I"⟩ ⟨"RopeTreaty", "tell", "(I)I"⟩ ∈ tblG := wdG (i := 752) (by decide +kernel) rfl
theorem wk_753 : Cond.code ⟨"RopeTreaty", "tell", "(I)I"⟩ prog_1_method_37_code (2 : Nat) (Option.some Jvm.ClassFile.FieldType.int) ∈ tblG := wdG (i := 753) (by decide +kernel) rfl
theorem wk_755 : Cond.instanceMethod ⟨"RopeTreaty", "check", "()I"⟩ ∈ tblG := wdG (i := 755) (by decide +kernel) rfl
theorem wk_756 : Cond.selects "RopeTreaty" ⟨"RopeTreaty", "check", "()I"⟩ ⟨"RopeTreaty", "check", "()I"⟩ ∈ tblG := wdG (i := 756) (by decide +kernel) rfl
theorem wk_757 : Cond.code ⟨"RopeTreaty", "check", "()I"⟩ prog_1_method_38_code (3 : Nat) (Option.some Jvm.ClassFile.FieldType.int) ∈ tblG := wdG (i := 757) (by decide +kernel) rfl
theorem wk_759 : Cond.instanceMethod ⟨"RopeTreaty", "count", "(I)I"⟩ ∈ tblG := wdG (i := 759) (by decide +kernel) rfl
theorem wk_760 : Cond.selects "RopeTreaty" ⟨"RopeTreaty", "count", "(I)I"⟩ ⟨"RopeTreaty", "count", "(I)I"⟩ ∈ tblG := wdG (i := 760) (by decide +kernel) rfl
theorem wk_761 : Cond.code ⟨"RopeTreaty", "count", "(I)I"⟩ prog_1_method_39_code (2 : Nat) (Option.some Jvm.ClassFile.FieldType.int) ∈ tblG := wdG (i := 761) (by decide +kernel) rfl
theorem wk_762 : Cond.methodLink "RopeTreaty" (271 : Nat) ⟨"RopeTreaty$Rope", "setIn", "()I"⟩ ∈ tblG := wdG (i := 762) (by decide +kernel) rfl
theorem wk_764 : Cond.instanceMethod ⟨"RopeTreaty", "told", "(I)I"⟩ ∈ tblG := wdG (i := 764) (by decide +kernel) rfl
theorem wk_765 : Cond.selects "RopeTreaty" ⟨"RopeTreaty", "told", "(I)I"⟩ ⟨"RopeTreaty", "told", "(I)I"⟩ ∈ tblG := wdG (i := 765) (by decide +kernel) rfl
theorem wk_766 : Cond.code ⟨"RopeTreaty", "told", "(I)I"⟩ prog_1_method_40_code (2 : Nat) (Option.some Jvm.ClassFile.FieldType.int) ∈ tblG := wdG (i := 766) (by decide +kernel) rfl
theorem wk_773 : Cond.fieldLink "RopeTreatyModel" (9 : Nat) "RopeTreatyModel" "row" "[I" ∈ tblG := wdG (i := 773) (by decide +kernel) rfl
theorem wk_774 : Cond.fieldLink "RopeTreatyModel" (13 : Nat) "RopeTreatyModel" "kept" "[I" ∈ tblG := wdG (i := 774) (by decide +kernel) rfl
theorem wk_775 : Cond.fieldLink "RopeTreatyModel" (16 : Nat) "RopeTreatyModel" "before" "[I" ∈ tblG := wdG (i := 775) (by decide +kernel) rfl
theorem wk_776 : Cond.fieldLink "RopeTreatyModel" (283 : Nat) "RopeTreatyModel" "images" "I" ∈ tblG := wdG (i := 776) (by decide +kernel) rfl
theorem wk_777 : Cond.fieldLink "RopeTreatyModel" (19 : Nat) "RopeTreatyModel" "errors" "[I" ∈ tblG := wdG (i := 777) (by decide +kernel) rfl
theorem wk_778 : Cond.fieldLink "RopeTreatyModel" (22 : Nat) "RopeTreatyModel" "bitsOf" "[I" ∈ tblG := wdG (i := 778) (by decide +kernel) rfl
theorem wk_779 : Cond.fieldLink "RopeTreatyModel" (25 : Nat) "RopeTreatyModel" "sizeOf" "[I" ∈ tblG := wdG (i := 779) (by decide +kernel) rfl
theorem wk_780 : Cond.fieldLink "RopeTreatyModel" (28 : Nat) "RopeTreatyModel" "cells" "[I" ∈ tblG := wdG (i := 780) (by decide +kernel) rfl
theorem wk_781 : Cond.fieldLink "RopeTreatyModel" (31 : Nat) "RopeTreatyModel" "act" "[I" ∈ tblG := wdG (i := 781) (by decide +kernel) rfl
theorem wk_782 : Cond.fieldLink "RopeTreatyModel" (34 : Nat) "RopeTreatyModel" "with" "[I" ∈ tblG := wdG (i := 782) (by decide +kernel) rfl
theorem wk_783 : Cond.fieldLink "RopeTreatyModel" (37 : Nat) "RopeTreatyModel" "facts" "[I" ∈ tblG := wdG (i := 783) (by decide +kernel) rfl
theorem wk_784 : Cond.fieldLink "RopeTreatyModel" (40 : Nat) "RopeTreatyModel" "pile" "[I" ∈ tblG := wdG (i := 784) (by decide +kernel) rfl
theorem wk_785 : Cond.fieldLink "RopeTreatyModel" (139 : Nat) "RopeTreatyModel" "laid" "I" ∈ tblG := wdG (i := 785) (by decide +kernel) rfl
theorem wk_786 : Cond.fieldLink "RopeTreatyModel" (135 : Nat) "RopeTreatyModel" "here" "I" ∈ tblG := wdG (i := 786) (by decide +kernel) rfl
theorem wk_787 : Cond.fieldLink "RopeTreatyModel" (156 : Nat) "RopeTreatyModel" "opened" "I" ∈ tblG := wdG (i := 787) (by decide +kernel) rfl
theorem wk_788 : Cond.fieldLink "RopeTreatyModel" (148 : Nat) "RopeTreatyModel" "bad" "Z" ∈ tblG := wdG (i := 788) (by decide +kernel) rfl
theorem wk_789 : Cond.fieldLink "RopeTreatyModel" (142 : Nat) "RopeTreatyModel" "using" "I" ∈ tblG := wdG (i := 789) (by decide +kernel) rfl
theorem wk_790 : Cond.fieldLink "RopeTreatyModel" (43 : Nat) "RopeTreatyModel" "costs" "[I" ∈ tblG := wdG (i := 790) (by decide +kernel) rfl
theorem wk_791 : Cond.fieldLink "RopeTreatyModel" (46 : Nat) "RopeTreatyModel" "trace" "[I" ∈ tblG := wdG (i := 791) (by decide +kernel) rfl
theorem wk_792 : Cond.fieldLink "RopeTreatyModel" (236 : Nat) "RopeTreatyModel" "traced" "I" ∈ tblG := wdG (i := 792) (by decide +kernel) rfl
theorem wk_793 : Cond.fieldLink "RopeTreatyModel" (263 : Nat) "RopeTreatyModel" "isParted" "Z" ∈ tblG := wdG (i := 793) (by decide +kernel) rfl
theorem wk_838 : Cond.instanceMethod ⟨"RopeTreatyModel", "jumper", "(III)I"⟩ ∈ tblG := wdG (i := 838) (by decide +kernel) rfl
theorem wk_839 : Cond.selects "RopeTreatyModel" ⟨"RopeTreatyModel", "jumper", "(III)I"⟩ ⟨"RopeTreatyModel", "jumper", "(III)I"⟩ ∈ tblG := wdG (i := 839) (by decide +kernel) rfl
theorem wk_840 : Cond.code ⟨"RopeTreatyModel", "jumper", "(III)I"⟩ prog_9_method_25_code (5 : Nat) (Option.some Jvm.ClassFile.FieldType.int) ∈ tblG := wdG (i := 840) (by decide +kernel) rfl
theorem wk_841 : Cond.methodLink "RopeTreatyModel" (94 : Nat) ⟨"RopeTreatyModel", "isKm", "(I)Z"⟩ ∈ tblG := wdG (i := 841) (by decide +kernel) rfl
theorem wk_842 : Cond.static ⟨"RopeTreatyModel", "isKm", "(I)Z"⟩ ∈ tblG := wdG (i := 842) (by decide +kernel) rfl
theorem wk_843 : Cond.code ⟨"RopeTreatyModel", "isKm", "(I)Z"⟩ prog_9_method_24_code (1 : Nat) (Option.some Jvm.ClassFile.FieldType.boolean) ∈ tblG := wdG (i := 843) (by decide +kernel) rfl
theorem wk_844 : Cond.methodLink "RopeTreatyModel" (54 : Nat) ⟨"RopeTreatyModel", "in", "(III)Z"⟩ ∈ tblG := wdG (i := 844) (by decide +kernel) rfl
theorem wk_845 : Cond.static ⟨"RopeTreatyModel", "in", "(III)Z"⟩ ∈ tblG := wdG (i := 845) (by decide +kernel) rfl
theorem wk_846 : Cond.code ⟨"RopeTreatyModel", "in", "(III)Z"⟩ prog_9_method_3_code (3 : Nat) (Option.some Jvm.ClassFile.FieldType.boolean) ∈ tblG := wdG (i := 846) (by decide +kernel) rfl
theorem wk_847 : Cond.constant "RopeTreatyModel" (97 : Nat) (-1000000001 : Int32) ∈ tblG := wdG (i := 847) (by decide +kernel) rfl
theorem wk_848 : Cond.methodLink "RopeTreatyModel" (98 : Nat) ⟨"RopeTreatyModel", "error", "(I)I"⟩ ∈ tblG := wdG (i := 848) (by decide +kernel) rfl
theorem wk_850 : Cond.instanceMethod ⟨"RopeTreatyModel", "error", "(I)I"⟩ ∈ tblG := wdG (i := 850) (by decide +kernel) rfl
theorem wk_851 : Cond.code ⟨"RopeTreatyModel", "error", "(I)I"⟩ prog_9_method_2_code (2 : Nat) (Option.some Jvm.ClassFile.FieldType.int) ∈ tblG := wdG (i := 851) (by decide +kernel) rfl
theorem wk_852 : Cond.constant "RopeTreatyModel" (49 : Nat) (-1000000000 : Int32) ∈ tblG := wdG (i := 852) (by decide +kernel) rfl
theorem wk_853 : Cond.constant "RopeTreatyModel" (101 : Nat) (-1000000004 : Int32) ∈ tblG := wdG (i := 853) (by decide +kernel) rfl
theorem wk_854 : Cond.methodLink "RopeTreatyModel" (102 : Nat) ⟨"RopeTreatyModel", "lets", "(III)V"⟩ ∈ tblG := wdG (i := 854) (by decide +kernel) rfl
theorem wk_856 : Cond.instanceMethod ⟨"RopeTreatyModel", "lets", "(III)V"⟩ ∈ tblG := wdG (i := 856) (by decide +kernel) rfl
theorem wk_857 : Cond.code ⟨"RopeTreatyModel", "lets", "(III)V"⟩ prog_9_method_13_code (4 : Nat) (Option.none : Option Jvm.ClassFile.FieldType) ∈ tblG := wdG (i := 857) (by decide +kernel) rfl
theorem wk_859 : Cond.instanceMethod ⟨"RopeTreatyModel", "jumperIs", "(II)I"⟩ ∈ tblG := wdG (i := 859) (by decide +kernel) rfl
theorem wk_860 : Cond.selects "RopeTreatyModel" ⟨"RopeTreatyModel", "jumperIs", "(II)I"⟩ ⟨"RopeTreatyModel", "jumperIs", "(II)I"⟩ ∈ tblG := wdG (i := 860) (by decide +kernel) rfl
theorem wk_861 : Cond.code ⟨"RopeTreatyModel", "jumperIs", "(II)I"⟩ prog_9_method_26_code (3 : Nat) (Option.some Jvm.ClassFile.FieldType.int) ∈ tblG := wdG (i := 861) (by decide +kernel) rfl
theorem wk_862 : Cond.methodLink "RopeTreatyModel" (106 : Nat) ⟨"RopeTreatyModel", "isJumper", "(I)Z"⟩ ∈ tblG := wdG (i := 862) (by decide +kernel) rfl
theorem wk_864 : Cond.instanceMethod ⟨"RopeTreatyModel", "isJumper", "(I)Z"⟩ ∈ tblG := wdG (i := 864) (by decide +kernel) rfl
theorem wk_865 : Cond.code ⟨"RopeTreatyModel", "isJumper", "(I)Z"⟩ prog_9_method_9_code (2 : Nat) (Option.some Jvm.ClassFile.FieldType.boolean) ∈ tblG := wdG (i := 865) (by decide +kernel) rfl
theorem wk_866 : Cond.methodLink "RopeTreatyModel" (58 : Nat) ⟨"RopeTreatyModel", "of", "(II)I"⟩ ∈ tblG := wdG (i := 866) (by decide +kernel) rfl
theorem wk_868 : Cond.instanceMethod ⟨"RopeTreatyModel", "of", "(II)I"⟩ ∈ tblG := wdG (i := 868) (by decide +kernel) rfl
theorem wk_869 : Cond.code ⟨"RopeTreatyModel", "of", "(II)I"⟩ prog_9_method_12_code (3 : Nat) (Option.some Jvm.ClassFile.FieldType.int) ∈ tblG := wdG (i := 869) (by decide +kernel) rfl
theorem wk_870 : Cond.methodLink "RopeTreatyModel" (109 : Nat) ⟨"RopeTreatyModel", "costsOf", "(I)I"⟩ ∈ tblG := wdG (i := 870) (by decide +kernel) rfl
theorem wk_872 : Cond.instanceMethod ⟨"RopeTreatyModel", "costsOf", "(I)I"⟩ ∈ tblG := wdG (i := 872) (by decide +kernel) rfl
theorem wk_873 : Cond.code ⟨"RopeTreatyModel", "costsOf", "(I)I"⟩ prog_9_method_19_code (2 : Nat) (Option.some Jvm.ClassFile.FieldType.int) ∈ tblG := wdG (i := 873) (by decide +kernel) rfl
theorem wk_874 : Cond.methodLink "RopeTreatyModel" (77 : Nat) ⟨"RopeTreatyModel", "takesOf", "(I)I"⟩ ∈ tblG := wdG (i := 874) (by decide +kernel) rfl
theorem wk_876 : Cond.instanceMethod ⟨"RopeTreatyModel", "takesOf", "(I)I"⟩ ∈ tblG := wdG (i := 876) (by decide +kernel) rfl
theorem wk_877 : Cond.code ⟨"RopeTreatyModel", "takesOf", "(I)I"⟩ prog_9_method_18_code (3 : Nat) (Option.some Jvm.ClassFile.FieldType.int) ∈ tblG := wdG (i := 877) (by decide +kernel) rfl
theorem wk_878 : Cond.methodLink "RopeTreatyModel" (66 : Nat) ⟨"RopeTreatyModel", "word", "()I"⟩ ∈ tblG := wdG (i := 878) (by decide +kernel) rfl
theorem wk_880 : Cond.instanceMethod ⟨"RopeTreatyModel", "word", "()I"⟩ ∈ tblG := wdG (i := 880) (by decide +kernel) rfl
theorem wk_881 : Cond.code ⟨"RopeTreatyModel", "word", "()I"⟩ prog_9_method_16_code (1 : Nat) (Option.some Jvm.ClassFile.FieldType.int) ∈ tblG := wdG (i := 881) (by decide +kernel) rfl
theorem wk_882 : Cond.methodLink "RopeTreatyModel" (70 : Nat) ⟨"RopeTreatyModel", "allIn", "()I"⟩ ∈ tblG := wdG (i := 882) (by decide +kernel) rfl
theorem wk_884 : Cond.instanceMethod ⟨"RopeTreatyModel", "allIn", "()I"⟩ ∈ tblG := wdG (i := 884) (by decide +kernel) rfl
theorem wk_885 : Cond.code ⟨"RopeTreatyModel", "allIn", "()I"⟩ prog_9_method_15_code (3 : Nat) (Option.some Jvm.ClassFile.FieldType.int) ∈ tblG := wdG (i := 885) (by decide +kernel) rfl
theorem wk_886 : Cond.methodLink "RopeTreatyModel" (62 : Nat) ⟨"RopeTreatyModel", "isIn", "(I)Z"⟩ ∈ tblG := wdG (i := 886) (by decide +kernel) rfl
theorem wk_888 : Cond.instanceMethod ⟨"RopeTreatyModel", "isIn", "(I)Z"⟩ ∈ tblG := wdG (i := 888) (by decide +kernel) rfl
theorem wk_889 : Cond.code ⟨"RopeTreatyModel", "isIn", "(I)Z"⟩ prog_9_method_14_code (2 : Nat) (Option.some Jvm.ClassFile.FieldType.boolean) ∈ tblG := wdG (i := 889) (by decide +kernel) rfl
theorem wk_890 : Cond.methodLink "RopeTreatyModel" (73 : Nat) ⟨"RopeTreatyModel", "bits", "(I)I"⟩ ∈ tblG := wdG (i := 890) (by decide +kernel) rfl
theorem wk_891 : Cond.static ⟨"RopeTreatyModel", "bits", "(I)I"⟩ ∈ tblG := wdG (i := 891) (by decide +kernel) rfl
theorem wk_892 : Cond.code ⟨"RopeTreatyModel", "bits", "(I)I"⟩ prog_9_method_8_code (3 : Nat) (Option.some Jvm.ClassFile.FieldType.int) ∈ tblG := wdG (i := 892) (by decide +kernel) rfl
theorem wk_893 : Cond.methodLink "RopeTreatyModel" (80 : Nat) ⟨"RopeTreatyModel", "gives", "(IIII)I"⟩ ∈ tblG := wdG (i := 893) (by decide +kernel) rfl
theorem wk_895 : Cond.instanceMethod ⟨"RopeTreatyModel", "gives", "(IIII)I"⟩ ∈ tblG := wdG (i := 895) (by decide +kernel) rfl
theorem wk_896 : Cond.code ⟨"RopeTreatyModel", "gives", "(IIII)I"⟩ prog_9_method_53_code (7 : Nat) (Option.some Jvm.ClassFile.FieldType.int) ∈ tblG := wdG (i := 896) (by decide +kernel) rfl
theorem wk_897 : Cond.methodLink "RopeTreatyModel" (191 : Nat) ⟨"RopeTreatyModel", "works", "(I)I"⟩ ∈ tblG := wdG (i := 897) (by decide +kernel) rfl
theorem wk_899 : Cond.instanceMethod ⟨"RopeTreatyModel", "works", "(I)I"⟩ ∈ tblG := wdG (i := 899) (by decide +kernel) rfl
theorem wk_900 : Cond.code ⟨"RopeTreatyModel", "works", "(I)I"⟩ prog_9_method_52_code (5 : Nat) (Option.some Jvm.ClassFile.FieldType.int) ∈ tblG := wdG (i := 900) (by decide +kernel) rfl
theorem wk_901 : Cond.methodLink "RopeTreatyModel" (187 : Nat) ⟨"RopeTreatyModel", "twoOf", "(III)I"⟩ ∈ tblG := wdG (i := 901) (by decide +kernel) rfl
theorem wk_902 : Cond.static ⟨"RopeTreatyModel", "twoOf", "(III)I"⟩ ∈ tblG := wdG (i := 902) (by decide +kernel) rfl
theorem wk_903 : Cond.code ⟨"RopeTreatyModel", "twoOf", "(III)I"⟩ prog_9_method_51_code (3 : Nat) (Option.some Jvm.ClassFile.FieldType.int) ∈ tblG := wdG (i := 903) (by decide +kernel) rfl
theorem wk_904 : Cond.methodLink "RopeTreatyModel" (194 : Nat) ⟨"RopeTreatyModel", "held", "(III)I"⟩ ∈ tblG := wdG (i := 904) (by decide +kernel) rfl
theorem wk_905 : Cond.static ⟨"RopeTreatyModel", "held", "(III)I"⟩ ∈ tblG := wdG (i := 905) (by decide +kernel) rfl
theorem wk_906 : Cond.code ⟨"RopeTreatyModel", "held", "(III)I"⟩ prog_9_method_4_code (3 : Nat) (Option.some Jvm.ClassFile.FieldType.int) ∈ tblG := wdG (i := 906) (by decide +kernel) rfl
theorem wk_908 : Cond.instanceMethod ⟨"RopeTreatyModel", "become", "(II)I"⟩ ∈ tblG := wdG (i := 908) (by decide +kernel) rfl
theorem wk_909 : Cond.selects "RopeTreatyModel" ⟨"RopeTreatyModel", "become", "(II)I"⟩ ⟨"RopeTreatyModel", "become", "(II)I"⟩ ∈ tblG := wdG (i := 909) (by decide +kernel) rfl
theorem wk_910 : Cond.code ⟨"RopeTreatyModel", "become", "(II)I"⟩ prog_9_method_27_code (3 : Nat) (Option.some Jvm.ClassFile.FieldType.int) ∈ tblG := wdG (i := 910) (by decide +kernel) rfl
theorem wk_911 : Cond.methodLink "RopeTreatyModel" (112 : Nat) ⟨"RopeTreatyModel", "becomes", "(II)I"⟩ ∈ tblG := wdG (i := 911) (by decide +kernel) rfl
theorem wk_913 : Cond.instanceMethod ⟨"RopeTreatyModel", "becomes", "(II)I"⟩ ∈ tblG := wdG (i := 913) (by decide +kernel) rfl
theorem wk_914 : Cond.code ⟨"RopeTreatyModel", "becomes", "(II)I"⟩ prog_9_method_11_code (4 : Nat) (Option.some Jvm.ClassFile.FieldType.int) ∈ tblG := wdG (i := 914) (by decide +kernel) rfl
theorem wk_916 : Cond.instanceMethod ⟨"RopeTreatyModel", "as", "(II)I"⟩ ∈ tblG := wdG (i := 916) (by decide +kernel) rfl
theorem wk_917 : Cond.selects "RopeTreatyModel" ⟨"RopeTreatyModel", "as", "(II)I"⟩ ⟨"RopeTreatyModel", "as", "(II)I"⟩ ∈ tblG := wdG (i := 917) (by decide +kernel) rfl
theorem wk_918 : Cond.code ⟨"RopeTreatyModel", "as", "(II)I"⟩ prog_9_method_28_code (5 : Nat) (Option.some Jvm.ClassFile.FieldType.int) ∈ tblG := wdG (i := 918) (by decide +kernel) rfl
theorem wk_919 : Cond.constant "RopeTreatyModel" (115 : Nat) (-1000000005 : Int32) ∈ tblG := wdG (i := 919) (by decide +kernel) rfl
theorem wk_921 : Cond.instanceMethod ⟨"RopeTreatyModel", "jump", "(II)I"⟩ ∈ tblG := wdG (i := 921) (by decide +kernel) rfl
theorem wk_922 : Cond.selects "RopeTreatyModel" ⟨"RopeTreatyModel", "jump", "(II)I"⟩ ⟨"RopeTreatyModel", "jump", "(II)I"⟩ ∈ tblG := wdG (i := 922) (by decide +kernel) rfl
theorem wk_923 : Cond.code ⟨"RopeTreatyModel", "jump", "(II)I"⟩ prog_9_method_29_code (3 : Nat) (Option.some Jvm.ClassFile.FieldType.int) ∈ tblG := wdG (i := 923) (by decide +kernel) rfl
theorem wk_924 : Cond.methodLink "RopeTreatyModel" (116 : Nat) ⟨"RopeTreatyModel", "doesTurn", "()Z"⟩ ∈ tblG := wdG (i := 924) (by decide +kernel) rfl
theorem wk_926 : Cond.instanceMethod ⟨"RopeTreatyModel", "doesTurn", "()Z"⟩ ∈ tblG := wdG (i := 926) (by decide +kernel) rfl
theorem wk_927 : Cond.code ⟨"RopeTreatyModel", "doesTurn", "()Z"⟩ prog_9_method_17_code (1 : Nat) (Option.some Jvm.ClassFile.FieldType.boolean) ∈ tblG := wdG (i := 927) (by decide +kernel) rfl
theorem wk_928 : Cond.constant "RopeTreatyModel" (120 : Nat) (-1000000003 : Int32) ∈ tblG := wdG (i := 928) (by decide +kernel) rfl
theorem wk_930 : Cond.instanceMethod ⟨"RopeTreatyModel", "rest", "(II)I"⟩ ∈ tblG := wdG (i := 930) (by decide +kernel) rfl
theorem wk_931 : Cond.selects "RopeTreatyModel" ⟨"RopeTreatyModel", "rest", "(II)I"⟩ ⟨"RopeTreatyModel", "rest", "(II)I"⟩ ∈ tblG := wdG (i := 931) (by decide +kernel) rfl
theorem wk_932 : Cond.code ⟨"RopeTreatyModel", "rest", "(II)I"⟩ prog_9_method_30_code (3 : Nat) (Option.some Jvm.ClassFile.FieldType.int) ∈ tblG := wdG (i := 932) (by decide +kernel) rfl
theorem wk_934 : Cond.instanceMethod ⟨"RopeTreatyModel", "spell", "(II)I"⟩ ∈ tblG := wdG (i := 934) (by decide +kernel) rfl
theorem wk_935 : Cond.selects "RopeTreatyModel" ⟨"RopeTreatyModel", "spell", "(II)I"⟩ ⟨"RopeTreatyModel", "spell", "(II)I"⟩ ∈ tblG := wdG (i := 935) (by decide +kernel) rfl
theorem wk_936 : Cond.code ⟨"RopeTreatyModel", "spell", "(II)I"⟩ prog_9_method_31_code (3 : Nat) (Option.some Jvm.ClassFile.FieldType.int) ∈ tblG := wdG (i := 936) (by decide +kernel) rfl
theorem wk_938 : Cond.instanceMethod ⟨"RopeTreatyModel", "bar", "(I)I"⟩ ∈ tblG := wdG (i := 938) (by decide +kernel) rfl
theorem wk_939 : Cond.selects "RopeTreatyModel" ⟨"RopeTreatyModel", "bar", "(I)I"⟩ ⟨"RopeTreatyModel", "bar", "(I)I"⟩ ∈ tblG := wdG (i := 939) (by decide +kernel) rfl
theorem wk_940 : Cond.code ⟨"RopeTreatyModel", "bar", "(I)I"⟩ prog_9_method_32_code (2 : Nat) (Option.some Jvm.ClassFile.FieldType.int) ∈ tblG := wdG (i := 940) (by decide +kernel) rfl
theorem wk_942 : Cond.instanceMethod ⟨"RopeTreatyModel", "liking", "(II)I"⟩ ∈ tblG := wdG (i := 942) (by decide +kernel) rfl
theorem wk_943 : Cond.selects "RopeTreatyModel" ⟨"RopeTreatyModel", "liking", "(II)I"⟩ ⟨"RopeTreatyModel", "liking", "(II)I"⟩ ∈ tblG := wdG (i := 943) (by decide +kernel) rfl
theorem wk_944 : Cond.code ⟨"RopeTreatyModel", "liking", "(II)I"⟩ prog_9_method_33_code (3 : Nat) (Option.some Jvm.ClassFile.FieldType.int) ∈ tblG := wdG (i := 944) (by decide +kernel) rfl
theorem wk_945 : Cond.methodLink "RopeTreatyModel" (121 : Nat) ⟨"RopeTreatyModel", "isTreaty", "(I)Z"⟩ ∈ tblG := wdG (i := 945) (by decide +kernel) rfl
theorem wk_946 : Cond.static ⟨"RopeTreatyModel", "isTreaty", "(I)Z"⟩ ∈ tblG := wdG (i := 946) (by decide +kernel) rfl
theorem wk_947 : Cond.code ⟨"RopeTreatyModel", "isTreaty", "(I)Z"⟩ prog_9_method_10_code (1 : Nat) (Option.some Jvm.ClassFile.FieldType.boolean) ∈ tblG := wdG (i := 947) (by decide +kernel) rfl
theorem wk_948 : Cond.methodLink "RopeTreatyModel" (87 : Nat) ⟨"RopeTreatyModel", "likesOf", "(II)I"⟩ ∈ tblG := wdG (i := 948) (by decide +kernel) rfl
theorem wk_950 : Cond.instanceMethod ⟨"RopeTreatyModel", "likesOf", "(II)I"⟩ ∈ tblG := wdG (i := 950) (by decide +kernel) rfl
theorem wk_951 : Cond.code ⟨"RopeTreatyModel", "likesOf", "(II)I"⟩ prog_9_method_21_code (3 : Nat) (Option.some Jvm.ClassFile.FieldType.int) ∈ tblG := wdG (i := 951) (by decide +kernel) rfl
theorem wk_952 : Cond.methodLink "RopeTreatyModel" (84 : Nat) ⟨"RopeTreatyModel", "leansOf", "(II)I"⟩ ∈ tblG := wdG (i := 952) (by decide +kernel) rfl
theorem wk_954 : Cond.instanceMethod ⟨"RopeTreatyModel", "leansOf", "(II)I"⟩ ∈ tblG := wdG (i := 954) (by decide +kernel) rfl
theorem wk_955 : Cond.code ⟨"RopeTreatyModel", "leansOf", "(II)I"⟩ prog_9_method_20_code (6 : Nat) (Option.some Jvm.ClassFile.FieldType.int) ∈ tblG := wdG (i := 955) (by decide +kernel) rfl
theorem wk_957 : Cond.instanceMethod ⟨"RopeTreatyModel", "talk", "(II)I"⟩ ∈ tblG := wdG (i := 957) (by decide +kernel) rfl
theorem wk_958 : Cond.selects "RopeTreatyModel" ⟨"RopeTreatyModel", "talk", "(II)I"⟩ ⟨"RopeTreatyModel", "talk", "(II)I"⟩ ∈ tblG := wdG (i := 958) (by decide +kernel) rfl
theorem wk_959 : Cond.code ⟨"RopeTreatyModel", "talk", "(II)I"⟩ prog_9_method_36_code (3 : Nat) (Option.some Jvm.ClassFile.FieldType.int) ∈ tblG := wdG (i := 959) (by decide +kernel) rfl
theorem wk_960 : Cond.methodLink "RopeTreatyModel" (127 : Nat) ⟨"RopeTreatyModel", "mayTalk", "(I)Z"⟩ ∈ tblG := wdG (i := 960) (by decide +kernel) rfl
theorem wk_962 : Cond.instanceMethod ⟨"RopeTreatyModel", "mayTalk", "(I)Z"⟩ ∈ tblG := wdG (i := 962) (by decide +kernel) rfl
theorem wk_963 : Cond.code ⟨"RopeTreatyModel", "mayTalk", "(I)Z"⟩ prog_9_method_34_code (2 : Nat) (Option.some Jvm.ClassFile.FieldType.boolean) ∈ tblG := wdG (i := 963) (by decide +kernel) rfl
theorem wk_964 : Cond.methodLink "RopeTreatyModel" (130 : Nat) ⟨"RopeTreatyModel", "talks", "(I)Z"⟩ ∈ tblG := wdG (i := 964) (by decide +kernel) rfl
theorem wk_966 : Cond.instanceMethod ⟨"RopeTreatyModel", "talks", "(I)Z"⟩ ∈ tblG := wdG (i := 966) (by decide +kernel) rfl
theorem wk_967 : Cond.code ⟨"RopeTreatyModel", "talks", "(I)Z"⟩ prog_9_method_35_code (3 : Nat) (Option.some Jvm.ClassFile.FieldType.boolean) ∈ tblG := wdG (i := 967) (by decide +kernel) rfl
theorem wk_968 : Cond.methodLink "RopeTreatyModel" (124 : Nat) ⟨"RopeTreatyModel", "isTaken", "(I)Z"⟩ ∈ tblG := wdG (i := 968) (by decide +kernel) rfl
theorem wk_970 : Cond.instanceMethod ⟨"RopeTreatyModel", "isTaken", "(I)Z"⟩ ∈ tblG := wdG (i := 970) (by decide +kernel) rfl
theorem wk_971 : Cond.code ⟨"RopeTreatyModel", "isTaken", "(I)Z"⟩ prog_9_method_23_code (4 : Nat) (Option.some Jvm.ClassFile.FieldType.boolean) ∈ tblG := wdG (i := 971) (by decide +kernel) rfl
theorem wk_972 : Cond.methodLink "RopeTreatyModel" (90 : Nat) ⟨"RopeTreatyModel", "doesTake", "(II)Z"⟩ ∈ tblG := wdG (i := 972) (by decide +kernel) rfl
theorem wk_974 : Cond.instanceMethod ⟨"RopeTreatyModel", "doesTake", "(II)Z"⟩ ∈ tblG := wdG (i := 974) (by decide +kernel) rfl
theorem wk_975 : Cond.code ⟨"RopeTreatyModel", "doesTake", "(II)Z"⟩ prog_9_method_22_code (3 : Nat) (Option.some Jvm.ClassFile.FieldType.boolean) ∈ tblG := wdG (i := 975) (by decide +kernel) rfl
theorem wk_977 : Cond.instanceMethod ⟨"RopeTreatyModel", "feed", "(JI)I"⟩ ∈ tblG := wdG (i := 977) (by decide +kernel) rfl
theorem wk_978 : Cond.selects "RopeTreatyModel" ⟨"RopeTreatyModel", "feed", "(JI)I"⟩ ⟨"RopeTreatyModel", "feed", "(JI)I"⟩ ∈ tblG := wdG (i := 978) (by decide +kernel) rfl
theorem wk_979 : Cond.code ⟨"RopeTreatyModel", "feed", "(JI)I"⟩ prog_9_method_37_code (5 : Nat) (Option.some Jvm.ClassFile.FieldType.int) ∈ tblG := wdG (i := 979) (by decide +kernel) rfl
theorem wk_980 : Cond.constantLong "RopeTreatyModel" (133 : Nat) (255 : Int64) ∈ tblG := wdG (i := 980) (by decide +kernel) rfl
theorem wk_982 : Cond.instanceMethod ⟨"RopeTreatyModel", "text", "(I)I"⟩ ∈ tblG := wdG (i := 982) (by decide +kernel) rfl
theorem wk_983 : Cond.selects "RopeTreatyModel" ⟨"RopeTreatyModel", "text", "(I)I"⟩ ⟨"RopeTreatyModel", "text", "(I)I"⟩ ∈ tblG := wdG (i := 983) (by decide +kernel) rfl
theorem wk_984 : Cond.code ⟨"RopeTreatyModel", "text", "(I)I"⟩ prog_9_method_49_code (4 : Nat) (Option.some Jvm.ClassFile.FieldType.int) ∈ tblG := wdG (i := 984) (by decide +kernel) rfl
theorem wk_985 : Cond.methodLink "RopeTreatyModel" (162 : Nat) ⟨"RopeTreatyModel", "any", "()V"⟩ ∈ tblG := wdG (i := 985) (by decide +kernel) rfl
theorem wk_987 : Cond.instanceMethod ⟨"RopeTreatyModel", "any", "()V"⟩ ∈ tblG := wdG (i := 987) (by decide +kernel) rfl
theorem wk_988 : Cond.code ⟨"RopeTreatyModel", "any", "()V"⟩ prog_9_method_48_code (1 : Nat) (Option.none : Option Jvm.ClassFile.FieldType) ∈ tblG := wdG (i := 988) (by decide +kernel) rfl
theorem wk_989 : Cond.methodLink "RopeTreatyModel" (184 : Nat) ⟨"RopeTreatyModel", "all", "()V"⟩ ∈ tblG := wdG (i := 989) (by decide +kernel) rfl
theorem wk_991 : Cond.instanceMethod ⟨"RopeTreatyModel", "all", "()V"⟩ ∈ tblG := wdG (i := 991) (by decide +kernel) rfl
theorem wk_992 : Cond.code ⟨"RopeTreatyModel", "all", "()V"⟩ prog_9_method_47_code (1 : Nat) (Option.none : Option Jvm.ClassFile.FieldType) ∈ tblG := wdG (i := 992) (by decide +kernel) rfl
theorem wk_993 : Cond.methodLink "RopeTreatyModel" (181 : Nat) ⟨"RopeTreatyModel", "compares", "()V"⟩ ∈ tblG := wdG (i := 993) (by decide +kernel) rfl
theorem wk_995 : Cond.instanceMethod ⟨"RopeTreatyModel", "compares", "()V"⟩ ∈ tblG := wdG (i := 995) (by decide +kernel) rfl
theorem wk_996 : Cond.code ⟨"RopeTreatyModel", "compares", "()V"⟩ prog_9_method_46_code (2 : Nat) (Option.none : Option Jvm.ClassFile.FieldType) ∈ tblG := wdG (i := 996) (by decide +kernel) rfl
theorem wk_997 : Cond.methodLink "RopeTreatyModel" (178 : Nat) ⟨"RopeTreatyModel", "sum", "()V"⟩ ∈ tblG := wdG (i := 997) (by decide +kernel) rfl
theorem wk_999 : Cond.instanceMethod ⟨"RopeTreatyModel", "sum", "()V"⟩ ∈ tblG := wdG (i := 999) (by decide +kernel) rfl
theorem wk_1000 : Cond.code ⟨"RopeTreatyModel", "sum", "()V"⟩ prog_9_method_45_code (2 : Nat) (Option.none : Option Jvm.ClassFile.FieldType) ∈ tblG := wdG (i := 1000) (by decide +kernel) rfl
theorem wk_1001 : Cond.methodLink "RopeTreatyModel" (175 : Nat) ⟨"RopeTreatyModel", "times", "()V"⟩ ∈ tblG := wdG (i := 1001) (by decide +kernel) rfl
theorem wk_1003 : Cond.instanceMethod ⟨"RopeTreatyModel", "times", "()V"⟩ ∈ tblG := wdG (i := 1003) (by decide +kernel) rfl
theorem wk_1004 : Cond.code ⟨"RopeTreatyModel", "times", "()V"⟩ prog_9_method_44_code (2 : Nat) (Option.none : Option Jvm.ClassFile.FieldType) ∈ tblG := wdG (i := 1004) (by decide +kernel) rfl
theorem wk_1005 : Cond.methodLink "RopeTreatyModel" (159 : Nat) ⟨"RopeTreatyModel", "one", "()V"⟩ ∈ tblG := wdG (i := 1005) (by decide +kernel) rfl
theorem wk_1007 : Cond.instanceMethod ⟨"RopeTreatyModel", "one", "()V"⟩ ∈ tblG := wdG (i := 1007) (by decide +kernel) rfl
theorem wk_1008 : Cond.code ⟨"RopeTreatyModel", "one", "()V"⟩ prog_9_method_43_code (3 : Nat) (Option.none : Option Jvm.ClassFile.FieldType) ∈ tblG := wdG (i := 1008) (by decide +kernel) rfl
theorem wk_1009 : Cond.methodLink "RopeTreatyModel" (145 : Nat) ⟨"RopeTreatyModel", "look", "()I"⟩ ∈ tblG := wdG (i := 1009) (by decide +kernel) rfl
theorem wk_1011 : Cond.instanceMethod ⟨"RopeTreatyModel", "look", "()I"⟩ ∈ tblG := wdG (i := 1011) (by decide +kernel) rfl
theorem wk_1012 : Cond.code ⟨"RopeTreatyModel", "look", "()I"⟩ prog_9_method_38_code (1 : Nat) (Option.some Jvm.ClassFile.FieldType.int) ∈ tblG := wdG (i := 1012) (by decide +kernel) rfl
theorem wk_1013 : Cond.methodLink "RopeTreatyModel" (165 : Nat) ⟨"RopeTreatyModel", "nameOf", "(I)I"⟩ ∈ tblG := wdG (i := 1013) (by decide +kernel) rfl
theorem wk_1015 : Cond.instanceMethod ⟨"RopeTreatyModel", "nameOf", "(I)I"⟩ ∈ tblG := wdG (i := 1015) (by decide +kernel) rfl
theorem wk_1016 : Cond.code ⟨"RopeTreatyModel", "nameOf", "(I)I"⟩ prog_9_method_40_code (2 : Nat) (Option.some Jvm.ClassFile.FieldType.int) ∈ tblG := wdG (i := 1016) (by decide +kernel) rfl
theorem wk_1017 : Cond.methodLink "RopeTreatyModel" (152 : Nat) ⟨"RopeTreatyModel", "lays", "(II)V"⟩ ∈ tblG := wdG (i := 1017) (by decide +kernel) rfl
theorem wk_1019 : Cond.instanceMethod ⟨"RopeTreatyModel", "lays", "(II)V"⟩ ∈ tblG := wdG (i := 1019) (by decide +kernel) rfl
theorem wk_1020 : Cond.code ⟨"RopeTreatyModel", "lays", "(II)V"⟩ prog_9_method_39_code (3 : Nat) (Option.none : Option Jvm.ClassFile.FieldType) ∈ tblG := wdG (i := 1020) (by decide +kernel) rfl
theorem wk_1021 : Cond.methodLink "RopeTreatyModel" (168 : Nat) ⟨"RopeTreatyModel", "opens", "(I)V"⟩ ∈ tblG := wdG (i := 1021) (by decide +kernel) rfl
theorem wk_1023 : Cond.instanceMethod ⟨"RopeTreatyModel", "opens", "(I)V"⟩ ∈ tblG := wdG (i := 1023) (by decide +kernel) rfl
theorem wk_1024 : Cond.code ⟨"RopeTreatyModel", "opens", "(I)V"⟩ prog_9_method_42_code (2 : Nat) (Option.none : Option Jvm.ClassFile.FieldType) ∈ tblG := wdG (i := 1024) (by decide +kernel) rfl
theorem wk_1025 : Cond.methodLink "RopeTreatyModel" (172 : Nat) ⟨"RopeTreatyModel", "number", "()V"⟩ ∈ tblG := wdG (i := 1025) (by decide +kernel) rfl
theorem wk_1027 : Cond.instanceMethod ⟨"RopeTreatyModel", "number", "()V"⟩ ∈ tblG := wdG (i := 1027) (by decide +kernel) rfl
theorem wk_1028 : Cond.code ⟨"RopeTreatyModel", "number", "()V"⟩ prog_9_method_41_code (3 : Nat) (Option.none : Option Jvm.ClassFile.FieldType) ∈ tblG := wdG (i := 1028) (by decide +kernel) rfl
theorem wk_1030 : Cond.instanceMethod ⟨"RopeTreatyModel", "untell", "(I)I"⟩ ∈ tblG := wdG (i := 1030) (by decide +kernel) rfl
theorem wk_1031 : Cond.selects "RopeTreatyModel" ⟨"RopeTreatyModel", "untell", "(I)I"⟩ ⟨"RopeTreatyModel", "untell", "(I)I"⟩ ∈ tblG := wdG (i := 1031) (by decide +kernel) rfl
theorem wk_1032 : Cond.code ⟨"RopeTreatyModel", "untell", "(I)I"⟩ prog_9_method_50_code (2 : Nat) (Option.some Jvm.ClassFile.FieldType.int) ∈ tblG := wdG (i := 1032) (by decide +kernel) rfl
theorem wk_1034 : Cond.instanceMethod ⟨"RopeTreatyModel", "law", "(IIII)I"⟩ ∈ tblG := wdG (i := 1034) (by decide +kernel) rfl
theorem wk_1035 : Cond.selects "RopeTreatyModel" ⟨"RopeTreatyModel", "law", "(IIII)I"⟩ ⟨"RopeTreatyModel", "law", "(IIII)I"⟩ ∈ tblG := wdG (i := 1035) (by decide +kernel) rfl
theorem wk_1036 : Cond.code ⟨"RopeTreatyModel", "law", "(IIII)I"⟩ prog_9_method_54_code (5 : Nat) (Option.some Jvm.ClassFile.FieldType.int) ∈ tblG := wdG (i := 1036) (by decide +kernel) rfl
theorem wk_1038 : Cond.instanceMethod ⟨"RopeTreatyModel", "beats", "(I)I"⟩ ∈ tblG := wdG (i := 1038) (by decide +kernel) rfl
theorem wk_1039 : Cond.selects "RopeTreatyModel" ⟨"RopeTreatyModel", "beats", "(I)I"⟩ ⟨"RopeTreatyModel", "beats", "(I)I"⟩ ∈ tblG := wdG (i := 1039) (by decide +kernel) rfl
theorem wk_1040 : Cond.code ⟨"RopeTreatyModel", "beats", "(I)I"⟩ prog_9_method_57_code (4 : Nat) (Option.some Jvm.ClassFile.FieldType.int) ∈ tblG := wdG (i := 1040) (by decide +kernel) rfl
theorem wk_1041 : Cond.constant "RopeTreatyModel" (200 : Nat) (99999 : Int32) ∈ tblG := wdG (i := 1041) (by decide +kernel) rfl
theorem wk_1042 : Cond.methodLink "RopeTreatyModel" (201 : Nat) ⟨"RopeTreatyModel", "goes", "()I"⟩ ∈ tblG := wdG (i := 1042) (by decide +kernel) rfl
theorem wk_1044 : Cond.instanceMethod ⟨"RopeTreatyModel", "goes", "()I"⟩ ∈ tblG := wdG (i := 1044) (by decide +kernel) rfl
theorem wk_1045 : Cond.code ⟨"RopeTreatyModel", "goes", "()I"⟩ prog_9_method_56_code (3 : Nat) (Option.some Jvm.ClassFile.FieldType.int) ∈ tblG := wdG (i := 1045) (by decide +kernel) rfl
theorem wk_1046 : Cond.methodLink "RopeTreatyModel" (197 : Nat) ⟨"RopeTreatyModel", "misses", "(I)Z"⟩ ∈ tblG := wdG (i := 1046) (by decide +kernel) rfl
theorem wk_1048 : Cond.instanceMethod ⟨"RopeTreatyModel", "misses", "(I)Z"⟩ ∈ tblG := wdG (i := 1048) (by decide +kernel) rfl
theorem wk_1049 : Cond.code ⟨"RopeTreatyModel", "misses", "(I)Z"⟩ prog_9_method_55_code (4 : Nat) (Option.some Jvm.ClassFile.FieldType.boolean) ∈ tblG := wdG (i := 1049) (by decide +kernel) rfl
theorem wk_1051 : Cond.instanceMethod ⟨"RopeTreatyModel", "loose", "(I)I"⟩ ∈ tblG := wdG (i := 1051) (by decide +kernel) rfl
theorem wk_1052 : Cond.selects "RopeTreatyModel" ⟨"RopeTreatyModel", "loose", "(I)I"⟩ ⟨"RopeTreatyModel", "loose", "(I)I"⟩ ∈ tblG := wdG (i := 1052) (by decide +kernel) rfl
theorem wk_1053 : Cond.code ⟨"RopeTreatyModel", "loose", "(I)I"⟩ prog_9_method_60_code (4 : Nat) (Option.some Jvm.ClassFile.FieldType.int) ∈ tblG := wdG (i := 1053) (by decide +kernel) rfl
theorem wk_1054 : Cond.methodLink "RopeTreatyModel" (208 : Nat) ⟨"RopeTreatyModel", "drawn", "()Z"⟩ ∈ tblG := wdG (i := 1054) (by decide +kernel) rfl
theorem wk_1056 : Cond.instanceMethod ⟨"RopeTreatyModel", "drawn", "()Z"⟩ ∈ tblG := wdG (i := 1056) (by decide +kernel) rfl
theorem wk_1057 : Cond.code ⟨"RopeTreatyModel", "drawn", "()Z"⟩ prog_9_method_59_code (4 : Nat) (Option.some Jvm.ClassFile.FieldType.boolean) ∈ tblG := wdG (i := 1057) (by decide +kernel) rfl
theorem wk_1058 : Cond.methodLink "RopeTreatyModel" (205 : Nat) ⟨"RopeTreatyModel", "draw", "()I"⟩ ∈ tblG := wdG (i := 1058) (by decide +kernel) rfl
theorem wk_1060 : Cond.instanceMethod ⟨"RopeTreatyModel", "draw", "()I"⟩ ∈ tblG := wdG (i := 1060) (by decide +kernel) rfl
theorem wk_1061 : Cond.code ⟨"RopeTreatyModel", "draw", "()I"⟩ prog_9_method_58_code (1 : Nat) (Option.some Jvm.ClassFile.FieldType.int) ∈ tblG := wdG (i := 1061) (by decide +kernel) rfl
theorem wk_1062 : Cond.constant "RopeTreatyModel" (204 : Nat) (1103515245 : Int32) ∈ tblG := wdG (i := 1062) (by decide +kernel) rfl
theorem wk_1064 : Cond.instanceMethod ⟨"RopeTreatyModel", "seed", "(I)I"⟩ ∈ tblG := wdG (i := 1064) (by decide +kernel) rfl
theorem wk_1065 : Cond.selects "RopeTreatyModel" ⟨"RopeTreatyModel", "seed", "(I)I"⟩ ⟨"RopeTreatyModel", "seed", "(I)I"⟩ ∈ tblG := wdG (i := 1065) (by decide +kernel) rfl
theorem wk_1066 : Cond.code ⟨"RopeTreatyModel", "seed", "(I)I"⟩ prog_9_method_61_code (2 : Nat) (Option.some Jvm.ClassFile.FieldType.int) ∈ tblG := wdG (i := 1066) (by decide +kernel) rfl
theorem wk_1068 : Cond.instanceMethod ⟨"RopeTreatyModel", "then", "(III)I"⟩ ∈ tblG := wdG (i := 1068) (by decide +kernel) rfl
theorem wk_1069 : Cond.selects "RopeTreatyModel" ⟨"RopeTreatyModel", "then", "(III)I"⟩ ⟨"RopeTreatyModel", "then", "(III)I"⟩ ∈ tblG := wdG (i := 1069) (by decide +kernel) rfl
theorem wk_1070 : Cond.code ⟨"RopeTreatyModel", "then", "(III)I"⟩ prog_9_method_63_code (5 : Nat) (Option.some Jvm.ClassFile.FieldType.int) ∈ tblG := wdG (i := 1070) (by decide +kernel) rfl
theorem wk_1071 : Cond.methodLink "RopeTreatyModel" (211 : Nat) ⟨"RopeTreatyModel", "thinks", "()V"⟩ ∈ tblG := wdG (i := 1071) (by decide +kernel) rfl
theorem wk_1073 : Cond.instanceMethod ⟨"RopeTreatyModel", "thinks", "()V"⟩ ∈ tblG := wdG (i := 1073) (by decide +kernel) rfl
theorem wk_1074 : Cond.code ⟨"RopeTreatyModel", "thinks", "()V"⟩ prog_9_method_6_code (1 : Nat) (Option.none : Option Jvm.ClassFile.FieldType) ∈ tblG := wdG (i := 1074) (by decide +kernel) rfl
theorem wk_1075 : Cond.methodLink "RopeTreatyModel" (50 : Nat) ⟨"RopeTreatyModel", "copyAll", "([I[I)V"⟩ ∈ tblG := wdG (i := 1075) (by decide +kernel) rfl
theorem wk_1076 : Cond.static ⟨"RopeTreatyModel", "copyAll", "([I[I)V"⟩ ∈ tblG := wdG (i := 1076) (by decide +kernel) rfl
theorem wk_1077 : Cond.code ⟨"RopeTreatyModel", "copyAll", "([I[I)V"⟩ prog_9_method_5_code (3 : Nat) (Option.none : Option Jvm.ClassFile.FieldType) ∈ tblG := wdG (i := 1077) (by decide +kernel) rfl
theorem wk_1078 : Cond.methodLink "RopeTreatyModel" (214 : Nat) ⟨"RopeTreatyModel", "goesFor", "(I)V"⟩ ∈ tblG := wdG (i := 1078) (by decide +kernel) rfl
theorem wk_1080 : Cond.instanceMethod ⟨"RopeTreatyModel", "goesFor", "(I)V"⟩ ∈ tblG := wdG (i := 1080) (by decide +kernel) rfl
theorem wk_1081 : Cond.code ⟨"RopeTreatyModel", "goesFor", "(I)V"⟩ prog_9_method_62_code (4 : Nat) (Option.none : Option Jvm.ClassFile.FieldType) ∈ tblG := wdG (i := 1081) (by decide +kernel) rfl
theorem wk_1082 : Cond.methodLink "RopeTreatyModel" (217 : Nat) ⟨"RopeTreatyModel", "putsBack", "()V"⟩ ∈ tblG := wdG (i := 1082) (by decide +kernel) rfl
theorem wk_1084 : Cond.instanceMethod ⟨"RopeTreatyModel", "putsBack", "()V"⟩ ∈ tblG := wdG (i := 1084) (by decide +kernel) rfl
theorem wk_1085 : Cond.code ⟨"RopeTreatyModel", "putsBack", "()V"⟩ prog_9_method_7_code (1 : Nat) (Option.none : Option Jvm.ClassFile.FieldType) ∈ tblG := wdG (i := 1085) (by decide +kernel) rfl
theorem wk_1087 : Cond.instanceMethod ⟨"RopeTreatyModel", "lasts", "(I)I"⟩ ∈ tblG := wdG (i := 1087) (by decide +kernel) rfl
theorem wk_1088 : Cond.selects "RopeTreatyModel" ⟨"RopeTreatyModel", "lasts", "(I)I"⟩ ⟨"RopeTreatyModel", "lasts", "(I)I"⟩ ∈ tblG := wdG (i := 1088) (by decide +kernel) rfl
theorem wk_1089 : Cond.code ⟨"RopeTreatyModel", "lasts", "(I)I"⟩ prog_9_method_64_code (3 : Nat) (Option.some Jvm.ClassFile.FieldType.int) ∈ tblG := wdG (i := 1089) (by decide +kernel) rfl
theorem wk_1090 : Cond.constant "RopeTreatyModel" (220 : Nat) (-1000000002 : Int32) ∈ tblG := wdG (i := 1090) (by decide +kernel) rfl
theorem wk_1092 : Cond.instanceMethod ⟨"RopeTreatyModel", "agree", "(I)I"⟩ ∈ tblG := wdG (i := 1092) (by decide +kernel) rfl
theorem wk_1093 : Cond.selects "RopeTreatyModel" ⟨"RopeTreatyModel", "agree", "(I)I"⟩ ⟨"RopeTreatyModel", "agree", "(I)I"⟩ ∈ tblG := wdG (i := 1093) (by decide +kernel) rfl
theorem wk_1094 : Cond.code ⟨"RopeTreatyModel", "agree", "(I)I"⟩ prog_9_method_65_code (6 : Nat) (Option.some Jvm.ClassFile.FieldType.int) ∈ tblG := wdG (i := 1094) (by decide +kernel) rfl
theorem wk_1096 : Cond.instanceMethod ⟨"RopeTreatyModel", "fairest", "(I)I"⟩ ∈ tblG := wdG (i := 1096) (by decide +kernel) rfl
theorem wk_1097 : Cond.selects "RopeTreatyModel" ⟨"RopeTreatyModel", "fairest", "(I)I"⟩ ⟨"RopeTreatyModel", "fairest", "(I)I"⟩ ∈ tblG := wdG (i := 1097) (by decide +kernel) rfl
theorem wk_1098 : Cond.code ⟨"RopeTreatyModel", "fairest", "(I)I"⟩ prog_9_method_67_code (6 : Nat) (Option.some Jvm.ClassFile.FieldType.int) ∈ tblG := wdG (i := 1098) (by decide +kernel) rfl
theorem wk_1099 : Cond.methodLink "RopeTreatyModel" (221 : Nat) ⟨"RopeTreatyModel", "leastLiking", "(I)I"⟩ ∈ tblG := wdG (i := 1099) (by decide +kernel) rfl
theorem wk_1101 : Cond.instanceMethod ⟨"RopeTreatyModel", "leastLiking", "(I)I"⟩ ∈ tblG := wdG (i := 1101) (by decide +kernel) rfl
theorem wk_1102 : Cond.code ⟨"RopeTreatyModel", "leastLiking", "(I)I"⟩ prog_9_method_66_code (5 : Nat) (Option.some Jvm.ClassFile.FieldType.int) ∈ tblG := wdG (i := 1102) (by decide +kernel) rfl
theorem wk_1104 : Cond.instanceMethod ⟨"RopeTreatyModel", "balks", "(I)I"⟩ ∈ tblG := wdG (i := 1104) (by decide +kernel) rfl
theorem wk_1105 : Cond.selects "RopeTreatyModel" ⟨"RopeTreatyModel", "balks", "(I)I"⟩ ⟨"RopeTreatyModel", "balks", "(I)I"⟩ ∈ tblG := wdG (i := 1105) (by decide +kernel) rfl
theorem wk_1106 : Cond.code ⟨"RopeTreatyModel", "balks", "(I)I"⟩ prog_9_method_70_code (6 : Nat) (Option.some Jvm.ClassFile.FieldType.int) ∈ tblG := wdG (i := 1106) (by decide +kernel) rfl
theorem wk_1107 : Cond.methodLink "RopeTreatyModel" (227 : Nat) ⟨"RopeTreatyModel", "balksOf", "(I)I"⟩ ∈ tblG := wdG (i := 1107) (by decide +kernel) rfl
theorem wk_1109 : Cond.instanceMethod ⟨"RopeTreatyModel", "balksOf", "(I)I"⟩ ∈ tblG := wdG (i := 1109) (by decide +kernel) rfl
theorem wk_1110 : Cond.code ⟨"RopeTreatyModel", "balksOf", "(I)I"⟩ prog_9_method_69_code (4 : Nat) (Option.some Jvm.ClassFile.FieldType.int) ∈ tblG := wdG (i := 1110) (by decide +kernel) rfl
theorem wk_1111 : Cond.methodLink "RopeTreatyModel" (224 : Nat) ⟨"RopeTreatyModel", "whoAlone", "(I)I"⟩ ∈ tblG := wdG (i := 1111) (by decide +kernel) rfl
theorem wk_1113 : Cond.instanceMethod ⟨"RopeTreatyModel", "whoAlone", "(I)I"⟩ ∈ tblG := wdG (i := 1113) (by decide +kernel) rfl
theorem wk_1114 : Cond.code ⟨"RopeTreatyModel", "whoAlone", "(I)I"⟩ prog_9_method_68_code (6 : Nat) (Option.some Jvm.ClassFile.FieldType.int) ∈ tblG := wdG (i := 1114) (by decide +kernel) rfl
theorem wk_1116 : Cond.instanceMethod ⟨"RopeTreatyModel", "soon", "(I)I"⟩ ∈ tblG := wdG (i := 1116) (by decide +kernel) rfl
theorem wk_1117 : Cond.selects "RopeTreatyModel" ⟨"RopeTreatyModel", "soon", "(I)I"⟩ ⟨"RopeTreatyModel", "soon", "(I)I"⟩ ∈ tblG := wdG (i := 1117) (by decide +kernel) rfl
theorem wk_1118 : Cond.code ⟨"RopeTreatyModel", "soon", "(I)I"⟩ prog_9_method_71_code (3 : Nat) (Option.some Jvm.ClassFile.FieldType.int) ∈ tblG := wdG (i := 1118) (by decide +kernel) rfl
theorem wk_1120 : Cond.instanceMethod ⟨"RopeTreatyModel", "meets", "(IIII)I"⟩ ∈ tblG := wdG (i := 1120) (by decide +kernel) rfl
theorem wk_1121 : Cond.selects "RopeTreatyModel" ⟨"RopeTreatyModel", "meets", "(IIII)I"⟩ ⟨"RopeTreatyModel", "meets", "(IIII)I"⟩ ∈ tblG := wdG (i := 1121) (by decide +kernel) rfl
theorem wk_1122 : Cond.code ⟨"RopeTreatyModel", "meets", "(IIII)I"⟩ prog_9_method_72_code (6 : Nat) (Option.some Jvm.ClassFile.FieldType.int) ∈ tblG := wdG (i := 1122) (by decide +kernel) rfl
theorem wk_1124 : Cond.instanceMethod ⟨"RopeTreatyModel", "odds", "(II)I"⟩ ∈ tblG := wdG (i := 1124) (by decide +kernel) rfl
theorem wk_1125 : Cond.selects "RopeTreatyModel" ⟨"RopeTreatyModel", "odds", "(II)I"⟩ ⟨"RopeTreatyModel", "odds", "(II)I"⟩ ∈ tblG := wdG (i := 1125) (by decide +kernel) rfl
theorem wk_1126 : Cond.code ⟨"RopeTreatyModel", "odds", "(II)I"⟩ prog_9_method_73_code (6 : Nat) (Option.some Jvm.ClassFile.FieldType.int) ∈ tblG := wdG (i := 1126) (by decide +kernel) rfl
theorem wk_1128 : Cond.instanceMethod ⟨"RopeTreatyModel", "fits", "(I)I"⟩ ∈ tblG := wdG (i := 1128) (by decide +kernel) rfl
theorem wk_1129 : Cond.selects "RopeTreatyModel" ⟨"RopeTreatyModel", "fits", "(I)I"⟩ ⟨"RopeTreatyModel", "fits", "(I)I"⟩ ∈ tblG := wdG (i := 1129) (by decide +kernel) rfl
theorem wk_1130 : Cond.code ⟨"RopeTreatyModel", "fits", "(I)I"⟩ prog_9_method_75_code (4 : Nat) (Option.some Jvm.ClassFile.FieldType.int) ∈ tblG := wdG (i := 1130) (by decide +kernel) rfl
theorem wk_1131 : Cond.methodLink "RopeTreatyModel" (230 : Nat) ⟨"RopeTreatyModel", "notThere", "(I)I"⟩ ∈ tblG := wdG (i := 1131) (by decide +kernel) rfl
theorem wk_1133 : Cond.instanceMethod ⟨"RopeTreatyModel", "notThere", "(I)I"⟩ ∈ tblG := wdG (i := 1133) (by decide +kernel) rfl
theorem wk_1134 : Cond.code ⟨"RopeTreatyModel", "notThere", "(I)I"⟩ prog_9_method_91_code (2 : Nat) (Option.some Jvm.ClassFile.FieldType.int) ∈ tblG := wdG (i := 1134) (by decide +kernel) rfl
theorem wk_1135 : Cond.methodLink "RopeTreatyModel" (276 : Nat) ⟨"RopeTreatyModel", "isSheet", "(I)Z"⟩ ∈ tblG := wdG (i := 1135) (by decide +kernel) rfl
theorem wk_1136 : Cond.static ⟨"RopeTreatyModel", "isSheet", "(I)Z"⟩ ∈ tblG := wdG (i := 1136) (by decide +kernel) rfl
theorem wk_1137 : Cond.code ⟨"RopeTreatyModel", "isSheet", "(I)Z"⟩ prog_9_method_89_code (1 : Nat) (Option.some Jvm.ClassFile.FieldType.boolean) ∈ tblG := wdG (i := 1137) (by decide +kernel) rfl
theorem wk_1138 : Cond.methodLink "RopeTreatyModel" (233 : Nat) ⟨"RopeTreatyModel", "isSo", "(I)Z"⟩ ∈ tblG := wdG (i := 1138) (by decide +kernel) rfl
theorem wk_1140 : Cond.instanceMethod ⟨"RopeTreatyModel", "isSo", "(I)Z"⟩ ∈ tblG := wdG (i := 1140) (by decide +kernel) rfl
theorem wk_1141 : Cond.code ⟨"RopeTreatyModel", "isSo", "(I)Z"⟩ prog_9_method_74_code (4 : Nat) (Option.some Jvm.ClassFile.FieldType.boolean) ∈ tblG := wdG (i := 1141) (by decide +kernel) rfl
theorem wk_1143 : Cond.instanceMethod ⟨"RopeTreatyModel", "voice", "(III)I"⟩ ∈ tblG := wdG (i := 1143) (by decide +kernel) rfl
theorem wk_1144 : Cond.selects "RopeTreatyModel" ⟨"RopeTreatyModel", "voice", "(III)I"⟩ ⟨"RopeTreatyModel", "voice", "(III)I"⟩ ∈ tblG := wdG (i := 1144) (by decide +kernel) rfl
theorem wk_1145 : Cond.code ⟨"RopeTreatyModel", "voice", "(III)I"⟩ prog_9_method_87_code (5 : Nat) (Option.some Jvm.ClassFile.FieldType.int) ∈ tblG := wdG (i := 1145) (by decide +kernel) rfl
theorem wk_1146 : Cond.methodLink "RopeTreatyModel" (248 : Nat) ⟨"RopeTreatyModel", "sings", "(II)I"⟩ ∈ tblG := wdG (i := 1146) (by decide +kernel) rfl
theorem wk_1148 : Cond.instanceMethod ⟨"RopeTreatyModel", "sings", "(II)I"⟩ ∈ tblG := wdG (i := 1148) (by decide +kernel) rfl
theorem wk_1149 : Cond.code ⟨"RopeTreatyModel", "sings", "(II)I"⟩ prog_9_method_79_code (3 : Nat) (Option.some Jvm.ClassFile.FieldType.int) ∈ tblG := wdG (i := 1149) (by decide +kernel) rfl
theorem wk_1150 : Cond.methodLink "RopeTreatyModel" (245 : Nat) ⟨"RopeTreatyModel", "masterSings", "(II)I"⟩ ∈ tblG := wdG (i := 1150) (by decide +kernel) rfl
theorem wk_1152 : Cond.instanceMethod ⟨"RopeTreatyModel", "masterSings", "(II)I"⟩ ∈ tblG := wdG (i := 1152) (by decide +kernel) rfl
theorem wk_1153 : Cond.code ⟨"RopeTreatyModel", "masterSings", "(II)I"⟩ prog_9_method_78_code (3 : Nat) (Option.some Jvm.ClassFile.FieldType.int) ∈ tblG := wdG (i := 1153) (by decide +kernel) rfl
theorem wk_1154 : Cond.methodLink "RopeTreatyModel" (239 : Nat) ⟨"RopeTreatyModel", "begins", "(I)V"⟩ ∈ tblG := wdG (i := 1154) (by decide +kernel) rfl
theorem wk_1156 : Cond.instanceMethod ⟨"RopeTreatyModel", "begins", "(I)V"⟩ ∈ tblG := wdG (i := 1156) (by decide +kernel) rfl
theorem wk_1157 : Cond.code ⟨"RopeTreatyModel", "begins", "(I)V"⟩ prog_9_method_76_code (2 : Nat) (Option.none : Option Jvm.ClassFile.FieldType) ∈ tblG := wdG (i := 1157) (by decide +kernel) rfl
theorem wk_1158 : Cond.methodLink "RopeTreatyModel" (242 : Nat) ⟨"RopeTreatyModel", "plainSings", "(II)I"⟩ ∈ tblG := wdG (i := 1158) (by decide +kernel) rfl
theorem wk_1160 : Cond.instanceMethod ⟨"RopeTreatyModel", "plainSings", "(II)I"⟩ ∈ tblG := wdG (i := 1160) (by decide +kernel) rfl
theorem wk_1161 : Cond.code ⟨"RopeTreatyModel", "plainSings", "(II)I"⟩ prog_9_method_77_code (3 : Nat) (Option.some Jvm.ClassFile.FieldType.int) ∈ tblG := wdG (i := 1161) (by decide +kernel) rfl
theorem wk_1162 : Cond.methodLink "RopeTreatyModel" (257 : Nat) ⟨"RopeTreatyModel", "jumps", "(II)I"⟩ ∈ tblG := wdG (i := 1162) (by decide +kernel) rfl
theorem wk_1164 : Cond.instanceMethod ⟨"RopeTreatyModel", "jumps", "(II)I"⟩ ∈ tblG := wdG (i := 1164) (by decide +kernel) rfl
theorem wk_1165 : Cond.code ⟨"RopeTreatyModel", "jumps", "(II)I"⟩ prog_9_method_82_code (3 : Nat) (Option.some Jvm.ClassFile.FieldType.int) ∈ tblG := wdG (i := 1165) (by decide +kernel) rfl
theorem wk_1166 : Cond.methodLink "RopeTreatyModel" (254 : Nat) ⟨"RopeTreatyModel", "conJumps", "(II)I"⟩ ∈ tblG := wdG (i := 1166) (by decide +kernel) rfl
theorem wk_1168 : Cond.instanceMethod ⟨"RopeTreatyModel", "conJumps", "(II)I"⟩ ∈ tblG := wdG (i := 1168) (by decide +kernel) rfl
theorem wk_1169 : Cond.code ⟨"RopeTreatyModel", "conJumps", "(II)I"⟩ prog_9_method_81_code (3 : Nat) (Option.some Jvm.ClassFile.FieldType.int) ∈ tblG := wdG (i := 1169) (by decide +kernel) rfl
theorem wk_1170 : Cond.methodLink "RopeTreatyModel" (251 : Nat) ⟨"RopeTreatyModel", "plainJumps", "(II)I"⟩ ∈ tblG := wdG (i := 1170) (by decide +kernel) rfl
theorem wk_1172 : Cond.instanceMethod ⟨"RopeTreatyModel", "plainJumps", "(II)I"⟩ ∈ tblG := wdG (i := 1172) (by decide +kernel) rfl
theorem wk_1173 : Cond.code ⟨"RopeTreatyModel", "plainJumps", "(II)I"⟩ prog_9_method_80_code (3 : Nat) (Option.some Jvm.ClassFile.FieldType.int) ∈ tblG := wdG (i := 1173) (by decide +kernel) rfl
theorem wk_1174 : Cond.methodLink "RopeTreatyModel" (269 : Nat) ⟨"RopeTreatyModel", "claps", "(II)I"⟩ ∈ tblG := wdG (i := 1174) (by decide +kernel) rfl
theorem wk_1176 : Cond.instanceMethod ⟨"RopeTreatyModel", "claps", "(II)I"⟩ ∈ tblG := wdG (i := 1176) (by decide +kernel) rfl
theorem wk_1177 : Cond.code ⟨"RopeTreatyModel", "claps", "(II)I"⟩ prog_9_method_84_code (3 : Nat) (Option.some Jvm.ClassFile.FieldType.int) ∈ tblG := wdG (i := 1177) (by decide +kernel) rfl
theorem wk_1178 : Cond.methodLink "RopeTreatyModel" (260 : Nat) ⟨"RopeTreatyModel", "plainClaps", "(II)I"⟩ ∈ tblG := wdG (i := 1178) (by decide +kernel) rfl
theorem wk_1180 : Cond.instanceMethod ⟨"RopeTreatyModel", "plainClaps", "(II)I"⟩ ∈ tblG := wdG (i := 1180) (by decide +kernel) rfl
theorem wk_1181 : Cond.code ⟨"RopeTreatyModel", "plainClaps", "(II)I"⟩ prog_9_method_83_code (3 : Nat) (Option.some Jvm.ClassFile.FieldType.int) ∈ tblG := wdG (i := 1181) (by decide +kernel) rfl
theorem wk_1182 : Cond.methodLink "RopeTreatyModel" (272 : Nat) ⟨"RopeTreatyModel", "partsBy", "(II)I"⟩ ∈ tblG := wdG (i := 1182) (by decide +kernel) rfl
theorem wk_1184 : Cond.instanceMethod ⟨"RopeTreatyModel", "partsBy", "(II)I"⟩ ∈ tblG := wdG (i := 1184) (by decide +kernel) rfl
theorem wk_1185 : Cond.code ⟨"RopeTreatyModel", "partsBy", "(II)I"⟩ prog_9_method_86_code (4 : Nat) (Option.some Jvm.ClassFile.FieldType.int) ∈ tblG := wdG (i := 1185) (by decide +kernel) rfl
theorem wk_1186 : Cond.methodLink "RopeTreatyModel" (266 : Nat) ⟨"RopeTreatyModel", "plainParts", "(II)I"⟩ ∈ tblG := wdG (i := 1186) (by decide +kernel) rfl
theorem wk_1188 : Cond.instanceMethod ⟨"RopeTreatyModel", "plainParts", "(II)I"⟩ ∈ tblG := wdG (i := 1188) (by decide +kernel) rfl
theorem wk_1189 : Cond.code ⟨"RopeTreatyModel", "plainParts", "(II)I"⟩ prog_9_method_85_code (4 : Nat) (Option.some Jvm.ClassFile.FieldType.int) ∈ tblG := wdG (i := 1189) (by decide +kernel) rfl
theorem wk_1190 : Cond.constant "RopeTreatyModel" (275 : Nat) (-1000000006 : Int32) ∈ tblG := wdG (i := 1190) (by decide +kernel) rfl
theorem wk_1192 : Cond.instanceMethod ⟨"RopeTreatyModel", "body", "(I)I"⟩ ∈ tblG := wdG (i := 1192) (by decide +kernel) rfl
theorem wk_1193 : Cond.selects "RopeTreatyModel" ⟨"RopeTreatyModel", "body", "(I)I"⟩ ⟨"RopeTreatyModel", "body", "(I)I"⟩ ∈ tblG := wdG (i := 1193) (by decide +kernel) rfl
theorem wk_1194 : Cond.code ⟨"RopeTreatyModel", "body", "(I)I"⟩ prog_9_method_88_code (2 : Nat) (Option.some Jvm.ClassFile.FieldType.int) ∈ tblG := wdG (i := 1194) (by decide +kernel) rfl
theorem wk_1196 : Cond.instanceMethod ⟨"RopeTreatyModel", "sheet", "(III)I"⟩ ∈ tblG := wdG (i := 1196) (by decide +kernel) rfl
theorem wk_1197 : Cond.selects "RopeTreatyModel" ⟨"RopeTreatyModel", "sheet", "(III)I"⟩ ⟨"RopeTreatyModel", "sheet", "(III)I"⟩ ∈ tblG := wdG (i := 1197) (by decide +kernel) rfl
theorem wk_1198 : Cond.code ⟨"RopeTreatyModel", "sheet", "(III)I"⟩ prog_9_method_90_code (5 : Nat) (Option.some Jvm.ClassFile.FieldType.int) ∈ tblG := wdG (i := 1198) (by decide +kernel) rfl
theorem wk_1200 : Cond.instanceMethod ⟨"RopeTreatyModel", "put", "(III)I"⟩ ∈ tblG := wdG (i := 1200) (by decide +kernel) rfl
theorem wk_1201 : Cond.selects "RopeTreatyModel" ⟨"RopeTreatyModel", "put", "(III)I"⟩ ⟨"RopeTreatyModel", "put", "(III)I"⟩ ∈ tblG := wdG (i := 1201) (by decide +kernel) rfl
theorem wk_1202 : Cond.code ⟨"RopeTreatyModel", "put", "(III)I"⟩ prog_9_method_92_code (5 : Nat) (Option.some Jvm.ClassFile.FieldType.int) ∈ tblG := wdG (i := 1202) (by decide +kernel) rfl
theorem wk_1204 : Cond.instanceMethod ⟨"RopeTreatyModel", "move", "(IIIII)I"⟩ ∈ tblG := wdG (i := 1204) (by decide +kernel) rfl
theorem wk_1205 : Cond.selects "RopeTreatyModel" ⟨"RopeTreatyModel", "move", "(IIIII)I"⟩ ⟨"RopeTreatyModel", "move", "(IIIII)I"⟩ ∈ tblG := wdG (i := 1205) (by decide +kernel) rfl
theorem wk_1206 : Cond.code ⟨"RopeTreatyModel", "move", "(IIIII)I"⟩ prog_9_method_94_code (9 : Nat) (Option.some Jvm.ClassFile.FieldType.int) ∈ tblG := wdG (i := 1206) (by decide +kernel) rfl
theorem wk_1207 : Cond.methodLink "RopeTreatyModel" (279 : Nat) ⟨"RopeTreatyModel", "notMoved", "(IIIII)I"⟩ ∈ tblG := wdG (i := 1207) (by decide +kernel) rfl
theorem wk_1209 : Cond.instanceMethod ⟨"RopeTreatyModel", "notMoved", "(IIIII)I"⟩ ∈ tblG := wdG (i := 1209) (by decide +kernel) rfl
theorem wk_1210 : Cond.code ⟨"RopeTreatyModel", "notMoved", "(IIIII)I"⟩ prog_9_method_93_code (7 : Nat) (Option.some Jvm.ClassFile.FieldType.int) ∈ tblG := wdG (i := 1210) (by decide +kernel) rfl
theorem wk_1212 : Cond.instanceMethod ⟨"RopeTreatyModel", "breaths", "(I)I"⟩ ∈ tblG := wdG (i := 1212) (by decide +kernel) rfl
theorem wk_1213 : Cond.selects "RopeTreatyModel" ⟨"RopeTreatyModel", "breaths", "(I)I"⟩ ⟨"RopeTreatyModel", "breaths", "(I)I"⟩ ∈ tblG := wdG (i := 1213) (by decide +kernel) rfl
theorem wk_1214 : Cond.code ⟨"RopeTreatyModel", "breaths", "(I)I"⟩ prog_9_method_95_code (4 : Nat) (Option.some Jvm.ClassFile.FieldType.int) ∈ tblG := wdG (i := 1214) (by decide +kernel) rfl
theorem wk_1216 : Cond.instanceMethod ⟨"RopeTreatyModel", "judge", "(I)I"⟩ ∈ tblG := wdG (i := 1216) (by decide +kernel) rfl
theorem wk_1217 : Cond.selects "RopeTreatyModel" ⟨"RopeTreatyModel", "judge", "(I)I"⟩ ⟨"RopeTreatyModel", "judge", "(I)I"⟩ ∈ tblG := wdG (i := 1217) (by decide +kernel) rfl
theorem wk_1218 : Cond.code ⟨"RopeTreatyModel", "judge", "(I)I"⟩ prog_9_method_96_code (4 : Nat) (Option.some Jvm.ClassFile.FieldType.int) ∈ tblG := wdG (i := 1218) (by decide +kernel) rfl
theorem wk_1220 : Cond.instanceMethod ⟨"RopeTreatyModel", "image", "()I"⟩ ∈ tblG := wdG (i := 1220) (by decide +kernel) rfl
theorem wk_1221 : Cond.selects "RopeTreatyModel" ⟨"RopeTreatyModel", "image", "()I"⟩ ⟨"RopeTreatyModel", "image", "()I"⟩ ∈ tblG := wdG (i := 1221) (by decide +kernel) rfl
theorem wk_1222 : Cond.code ⟨"RopeTreatyModel", "image", "()I"⟩ prog_9_method_97_code (1 : Nat) (Option.some Jvm.ClassFile.FieldType.int) ∈ tblG := wdG (i := 1222) (by decide +kernel) rfl
theorem wk_1224 : Cond.instanceMethod ⟨"RopeTreatyModel", "restore", "()I"⟩ ∈ tblG := wdG (i := 1224) (by decide +kernel) rfl
theorem wk_1225 : Cond.selects "RopeTreatyModel" ⟨"RopeTreatyModel", "restore", "()I"⟩ ⟨"RopeTreatyModel", "restore", "()I"⟩ ∈ tblG := wdG (i := 1225) (by decide +kernel) rfl
theorem wk_1226 : Cond.code ⟨"RopeTreatyModel", "restore", "()I"⟩ prog_9_method_98_code (1 : Nat) (Option.some Jvm.ClassFile.FieldType.int) ∈ tblG := wdG (i := 1226) (by decide +kernel) rfl
theorem wk_1228 : Cond.instanceMethod ⟨"RopeTreatyModel", "tell", "(I)I"⟩ ∈ tblG := wdG (i := 1228) (by decide +kernel) rfl
theorem wk_1229 : Cond.selects "RopeTreatyModel" ⟨"RopeTreatyModel", "tell", "(I)I"⟩ ⟨"RopeTreatyModel", "tell", "(I)I"⟩ ∈ tblG := wdG (i := 1229) (by decide +kernel) rfl
theorem wk_1230 : Cond.code ⟨"RopeTreatyModel", "tell", "(I)I"⟩ prog_9_method_99_code (2 : Nat) (Option.some Jvm.ClassFile.FieldType.int) ∈ tblG := wdG (i := 1230) (by decide +kernel) rfl
theorem wk_1232 : Cond.instanceMethod ⟨"RopeTreatyModel", "check", "()I"⟩ ∈ tblG := wdG (i := 1232) (by decide +kernel) rfl
theorem wk_1233 : Cond.selects "RopeTreatyModel" ⟨"RopeTreatyModel", "check", "()I"⟩ ⟨"RopeTreatyModel", "check", "()I"⟩ ∈ tblG := wdG (i := 1233) (by decide +kernel) rfl
theorem wk_1234 : Cond.code ⟨"RopeTreatyModel", "check", "()I"⟩ prog_9_method_100_code (3 : Nat) (Option.some Jvm.ClassFile.FieldType.int) ∈ tblG := wdG (i := 1234) (by decide +kernel) rfl
theorem wk_1236 : Cond.instanceMethod ⟨"RopeTreatyModel", "count", "(I)I"⟩ ∈ tblG := wdG (i := 1236) (by decide +kernel) rfl
theorem wk_1237 : Cond.selects "RopeTreatyModel" ⟨"RopeTreatyModel", "count", "(I)I"⟩ ⟨"RopeTreatyModel", "count", "(I)I"⟩ ∈ tblG := wdG (i := 1237) (by decide +kernel) rfl
theorem wk_1238 : Cond.code ⟨"RopeTreatyModel", "count", "(I)I"⟩ prog_9_method_101_code (2 : Nat) (Option.some Jvm.ClassFile.FieldType.int) ∈ tblG := wdG (i := 1238) (by decide +kernel) rfl
theorem wk_1240 : Cond.instanceMethod ⟨"RopeTreatyModel", "told", "(I)I"⟩ ∈ tblG := wdG (i := 1240) (by decide +kernel) rfl
theorem wk_1241 : Cond.selects "RopeTreatyModel" ⟨"RopeTreatyModel", "told", "(I)I"⟩ ⟨"RopeTreatyModel", "told", "(I)I"⟩ ∈ tblG := wdG (i := 1241) (by decide +kernel) rfl
theorem wk_1242 : Cond.code ⟨"RopeTreatyModel", "told", "(I)I"⟩ prog_9_method_102_code (2 : Nat) (Option.some Jvm.ClassFile.FieldType.int) ∈ tblG := wdG (i := 1242) (by decide +kernel) rfl
theorem fcX0 : FC 0 RX0 TX0 7 tyX0 := ⟨fun w hw => List.mem_filter.mpr ⟨(by decide +kernel : ∀ w ∈ u_ws RX0 TX0 7, w ∈ lw_tbl) w hw, (by decide +kernel : ∀ w ∈ u_ws RX0 TX0 7, goodWord w = true) w hw⟩, rfl, tyX0_ok, nmX0⟩
theorem fcX1 : FC 1 RX1 TX1 15 tyX1 := ⟨fun w hw => List.mem_filter.mpr ⟨(by decide +kernel : ∀ w ∈ u_ws RX1 TX1 15, w ∈ lw_tbl) w hw, (by decide +kernel : ∀ w ∈ u_ws RX1 TX1 15, goodWord w = true) w hw⟩, rfl, tyX1_ok, nmX1⟩
theorem fcX2 : FC 2 RX2 TX2 3 tyX2 := ⟨fun w hw => List.mem_filter.mpr ⟨(by decide +kernel : ∀ w ∈ u_ws RX2 TX2 3, w ∈ lw_tbl) w hw, (by decide +kernel : ∀ w ∈ u_ws RX2 TX2 3, goodWord w = true) w hw⟩, rfl, tyX2_ok, nmX2⟩
theorem fcX3 : FC 3 RX3 TX3 2 tyX3 := ⟨fun w hw => List.mem_filter.mpr ⟨(by decide +kernel : ∀ w ∈ u_ws RX3 TX3 2, w ∈ lw_tbl) w hw, (by decide +kernel : ∀ w ∈ u_ws RX3 TX3 2, goodWord w = true) w hw⟩, rfl, tyX3_ok, nmX3⟩
theorem fcX4 : FC 4 RX4 TX4 4 tyX4 := ⟨fun w hw => List.mem_filter.mpr ⟨(by decide +kernel : ∀ w ∈ u_ws RX4 TX4 4, w ∈ lw_tbl) w hw, (by decide +kernel : ∀ w ∈ u_ws RX4 TX4 4, goodWord w = true) w hw⟩, rfl, tyX4_ok, nmX4⟩
theorem fcX5 : FC 5 RX5 TX5 6 tyX5 := ⟨fun w hw => List.mem_filter.mpr ⟨(by decide +kernel : ∀ w ∈ u_ws RX5 TX5 6, w ∈ lw_tbl) w hw, (by decide +kernel : ∀ w ∈ u_ws RX5 TX5 6, goodWord w = true) w hw⟩, rfl, tyX5_ok, nmX5⟩
theorem fcX6 : FC 6 RX6 TX6 12 tyX6 := ⟨fun w hw => List.mem_filter.mpr ⟨(by decide +kernel : ∀ w ∈ u_ws RX6 TX6 12, w ∈ lw_tbl) w hw, (by decide +kernel : ∀ w ∈ u_ws RX6 TX6 12, goodWord w = true) w hw⟩, rfl, tyX6_ok, nmX6⟩
theorem fcX7 : FC 7 RX7 TX7 21 tyX7 := ⟨fun w hw => List.mem_filter.mpr ⟨(by decide +kernel : ∀ w ∈ u_ws RX7 TX7 21, w ∈ lw_tbl) w hw, (by decide +kernel : ∀ w ∈ u_ws RX7 TX7 21, goodWord w = true) w hw⟩, rfl, tyX7_ok, nmX7⟩
abbrev md_Rd_read : Md := (yX0_read, cX0_read, 3, (some .int))
theorem cv_Rd_read : CV md_Rd_read 2 := ⟨wk_477, wk_475, wk_476, wk_79, ⟨by decide +kernel, by decide +kernel, by decide +kernel⟩, by decide⟩
abbrev md_Rd_readOr : Md := (yX0_readOr, cX0_readOr, 3, none)
theorem cv_Rd_readOr : CV md_Rd_readOr 1 := ⟨wk_484, wk_483, wk_2, wk_79, ⟨by decide +kernel, by decide +kernel, by decide +kernel⟩, by decide⟩
abbrev md_Rd_readAnd : Md := (yX0_readAnd, cX0_readAnd, 3, none)
theorem cv_Rd_readAnd : CV md_Rd_readAnd 1 := ⟨wk_488, wk_487, wk_3, wk_79, ⟨by decide +kernel, by decide +kernel, by decide +kernel⟩, by decide⟩
abbrev md_Rd_readLikeness : Md := (yX0_readLikeness, cX0_readLikeness, 3, none)
theorem cv_Rd_readLikeness : CV md_Rd_readLikeness 1 := ⟨wk_492, wk_491, wk_4, wk_79, ⟨by decide +kernel, by decide +kernel, by decide +kernel⟩, by decide⟩
abbrev md_Rd_readSum : Md := (yX0_readSum, cX0_readSum, 4, none)
theorem cv_Rd_readSum : CV md_Rd_readSum 1 := ⟨wk_496, wk_495, wk_5, wk_79, ⟨by decide +kernel, by decide +kernel, by decide +kernel⟩, by decide⟩
abbrev md_Rd_readProduct : Md := (yX0_readProduct, cX0_readProduct, 4, none)
theorem cv_Rd_readProduct : CV md_Rd_readProduct 1 := ⟨wk_500, wk_499, wk_6, wk_79, ⟨by decide +kernel, by decide +kernel, by decide +kernel⟩, by decide⟩
abbrev md_Rd_readPart : Md := (yX0_readPart, cX0_readPart, 3, none)
theorem cv_Rd_readPart : CV md_Rd_readPart 1 := ⟨wk_504, wk_503, wk_7, wk_79, ⟨by decide +kernel, by decide +kernel, by decide +kernel⟩, by decide⟩
abbrev md_Rd_readNumber : Md := (yX0_readNumber, cX0_readNumber, 3, none)
theorem cv_Rd_readNumber : CV md_Rd_readNumber 0 := ⟨wk_526, wk_525, wk_12, wk_79, ⟨by decide +kernel, by decide +kernel, by decide +kernel⟩, by decide⟩
abbrev md_Rd_close : Md := (yX0_close, cX0_close, 1, none)
theorem cv_Rd_close : CV md_Rd_close 0 := ⟨wk_530, wk_529, wk_13, wk_79, ⟨by decide +kernel, by decide +kernel, by decide +kernel⟩, by decide⟩
abbrev md_Rd_nextName : Md := (yX0_nextName, cX0_nextName, 3, (some .int))
theorem cv_Rd_nextName : CV md_Rd_nextName 0 := ⟨wk_508, wk_507, wk_8, wk_79, ⟨by decide +kernel, by decide +kernel, by decide +kernel⟩, by decide⟩
abbrev md_Rd_isDigit : Md := (yX0_isDigit, cX0_isDigit, 1, (some .boolean))
theorem cv_Rd_isDigit : CV md_Rd_isDigit 0 := ⟨wk_522, wk_521, wk_11, wk_79, ⟨by decide +kernel, by decide +kernel, by decide +kernel⟩, by decide⟩
abbrev md_Rd_isNext : Md := (yX0_isNext, cX0_isNext, 2, (some .boolean))
theorem cv_Rd_isNext : CV md_Rd_isNext 1 := ⟨wk_514, wk_513, wk_9, wk_79, ⟨by decide +kernel, by decide +kernel, by decide +kernel⟩, by decide⟩
abbrev md_Rd_write : Md := (yX0_write, cX0_write, 2, none)
theorem cv_Rd_write : CV md_Rd_write 1 := ⟨wk_518, wk_517, wk_10, wk_79, ⟨by decide +kernel, by decide +kernel, by decide +kernel⟩, by decide⟩
abbrev md_Rp_copy : Md := (yX1_copy, cX1_copy, 2, none)
theorem cv_Rp_copy : CV md_Rp_copy 1 := ⟨wk_589, wk_587, wk_588, wk_76, ⟨by decide +kernel, by decide +kernel, by decide +kernel⟩, by decide⟩
abbrev md_Rp_has : Md := (yX1_has, cX1_has, 2, (some .boolean))
theorem cv_Rp_has : CV md_Rp_has 1 := ⟨wk_345, wk_343, wk_344, wk_76, ⟨by decide +kernel, by decide +kernel, by decide +kernel⟩, by decide⟩
abbrev md_Rp_add : Md := (yX1_add, cX1_add, 5, (some .int))
theorem cv_Rp_add : CV md_Rp_add 3 := ⟨wk_333, wk_331, wk_332, wk_76, ⟨by decide +kernel, by decide +kernel, by decide +kernel⟩, by decide⟩
abbrev md_Rp_setKindAndMark : Md := (yX1_setKindAndMark, cX1_setKindAndMark, 3, none)
theorem cv_Rp_setKindAndMark : CV md_Rp_setKindAndMark 2 := ⟨wk_337, wk_335, wk_336, wk_76, ⟨by decide +kernel, by decide +kernel, by decide +kernel⟩, by decide⟩
abbrev md_Rp_word : Md := (yX1_word, cX1_word, 1, (some .int))
theorem cv_Rp_word : CV md_Rp_word 0 := ⟨wk_357, wk_355, wk_356, wk_76, ⟨by decide +kernel, by decide +kernel, by decide +kernel⟩, by decide⟩
abbrev md_Rp_turns : Md := (yX1_turns, cX1_turns, 1, (some .boolean))
theorem cv_Rp_turns : CV md_Rp_turns 0 := ⟨wk_417, wk_415, wk_416, wk_76, ⟨by decide +kernel, by decide +kernel, by decide +kernel⟩, by decide⟩
abbrev md_Rp_mayTalk : Md := (yX1_mayTalk, cX1_mayTalk, 1, (some .boolean))
theorem cv_Rp_mayTalk : CV md_Rp_mayTalk 0 := ⟨wk_452, wk_450, wk_451, wk_76, ⟨by decide +kernel, by decide +kernel, by decide +kernel⟩, by decide⟩
abbrev md_Rp_howManyIn : Md := (yX1_howManyIn, cX1_howManyIn, 1, (some .int))
theorem cv_Rp_howManyIn : CV md_Rp_howManyIn 0 := ⟨wk_361, wk_359, wk_360, wk_76, ⟨by decide +kernel, by decide +kernel, by decide +kernel⟩, by decide⟩
abbrev md_Rp_setIn : Md := (yX1_setIn, cX1_setIn, 3, (some .int))
theorem cv_Rp_setIn : CV md_Rp_setIn 0 := ⟨wk_365, wk_363, wk_364, wk_76, ⟨by decide +kernel, by decide +kernel, by decide +kernel⟩, by decide⟩
abbrev md_Rp_takes : Md := (yX1_takes, cX1_takes, 3, (some .int))
theorem cv_Rp_takes : CV md_Rp_takes 1 := ⟨wk_353, wk_351, wk_352, wk_76, ⟨by decide +kernel, by decide +kernel, by decide +kernel⟩, by decide⟩
abbrev md_Rp_leans : Md := (yX1_leans, cX1_leans, 4, (some .int))
theorem cv_Rp_leans : CV md_Rp_leans 2 := ⟨wk_444, wk_442, wk_443, wk_76, ⟨by decide +kernel, by decide +kernel, by decide +kernel⟩, by decide⟩
abbrev md_Rp_costs : Md := (yX1_costs, cX1_costs, 2, (some .int))
theorem cv_Rp_costs : CV md_Rp_costs 1 := ⟨wk_349, wk_347, wk_348, wk_76, ⟨by decide +kernel, by decide +kernel, by decide +kernel⟩, by decide⟩
abbrev md_Rp_likes : Md := (yX1_likes, cX1_likes, 3, (some .int))
theorem cv_Rp_likes : CV md_Rp_likes 2 := ⟨wk_440, wk_438, wk_439, wk_76, ⟨by decide +kernel, by decide +kernel, by decide +kernel⟩, by decide⟩
abbrev md_Rp_isTaken : Md := (yX1_isTaken, cX1_isTaken, 3, (some .boolean))
theorem cv_Rp_isTaken : CV md_Rp_isTaken 1 := ⟨wk_457, wk_455, wk_456, wk_76, ⟨by decide +kernel, by decide +kernel, by decide +kernel⟩, by decide⟩
abbrev md_Rp_leastLiking : Md := (yX1_leastLiking, cX1_leastLiking, 4, (some .int))
theorem cv_Rp_leastLiking : CV md_Rp_leastLiking 1 := ⟨wk_612, wk_610, wk_611, wk_76, ⟨by decide +kernel, by decide +kernel, by decide +kernel⟩, by decide⟩
abbrev md_Rp_whoBalks : Md := (yX1_whoBalks, cX1_whoBalks, 3, (some .int))
theorem cv_Rp_whoBalks : CV md_Rp_whoBalks 0 := ⟨wk_620, wk_618, wk_619, wk_76, ⟨by decide +kernel, by decide +kernel, by decide +kernel⟩, by decide⟩
abbrev md_Rp_onlyAgainst : Md := (yX1_onlyAgainst, cX1_onlyAgainst, 4, (some .int))
theorem cv_Rp_onlyAgainst : CV md_Rp_onlyAgainst 1 := ⟨wk_624, wk_623, wk_16, wk_76, ⟨by decide +kernel, by decide +kernel, by decide +kernel⟩, by decide⟩
abbrev md_Rp_pass : Md := (yX1_pass, cX1_pass, 3, (some .int))
theorem cv_Rp_pass : CV md_Rp_pass 0 := ⟨wk_554, wk_552, wk_553, wk_76, ⟨by decide +kernel, by decide +kernel, by decide +kernel⟩, by decide⟩
abbrev md_Rp_skip : Md := (yX1_skip, cX1_skip, 2, (some .int))
theorem cv_Rp_skip : CV md_Rp_skip 1 := ⟨wk_559, wk_558, wk_14, wk_76, ⟨by decide +kernel, by decide +kernel, by decide +kernel⟩, by decide⟩
abbrev md_Rp_passByDraws : Md := (yX1_passByDraws, cX1_passByDraws, 4, (some .int))
theorem cv_Rp_passByDraws : CV md_Rp_passByDraws 0 := ⟨wk_569, wk_567, wk_568, wk_76, ⟨by decide +kernel, by decide +kernel, by decide +kernel⟩, by decide⟩
abbrev md_Rp_draw : Md := (yX1_draw, cX1_draw, 1, (some .int))
theorem cv_Rp_draw : CV md_Rp_draw 0 := ⟨wk_573, wk_572, wk_15, wk_76, ⟨by decide +kernel, by decide +kernel, by decide +kernel⟩, by decide⟩
abbrev md_Rp_breathsRight : Md := (yX1_breathsRight, cX1_breathsRight, 3, (some .int))
theorem cv_Rp_breathsRight : CV md_Rp_breathsRight 1 := ⟨wk_655, wk_653, wk_654, wk_76, ⟨by decide +kernel, by decide +kernel, by decide +kernel⟩, by decide⟩
abbrev md_Rp_costsRight : Md := (yX1_costsRight, cX1_costsRight, 3, (some .int))
theorem cv_Rp_costsRight : CV md_Rp_costsRight 1 := ⟨wk_731, wk_729, wk_730, wk_76, ⟨by decide +kernel, by decide +kernel, by decide +kernel⟩, by decide⟩
abbrev md_Rp_takeBreaths : Md := (yX1_takeBreaths, cX1_takeBreaths, 3, (some .int))
theorem cv_Rp_takeBreaths : CV md_Rp_takeBreaths 1 := ⟨wk_722, wk_720, wk_721, wk_76, ⟨by decide +kernel, by decide +kernel, by decide +kernel⟩, by decide⟩
abbrev md_Rw_isMissing : Md := (yX2_isMissing, cX2_isMissing, 1, (some .boolean))
theorem cv_Rw_isMissing : CV md_Rw_isMissing 0 := ⟨wk_651, wk_649, wk_650, wk_80, ⟨by decide +kernel, by decide +kernel, by decide +kernel⟩, by decide⟩
abbrev md_Rw_begin : Md := (yX2_begin, cX2_begin, 4, none)
theorem cv_Rw_begin : CV md_Rw_begin 2 := ⟨wk_697, wk_695, wk_696, wk_80, ⟨by decide +kernel, by decide +kernel, by decide +kernel⟩, by decide⟩
abbrev md_Rw_lowest : Md := (yX2_lowest, cX2_lowest, 2, (some .int))
theorem cv_Rw_lowest : CV md_Rw_lowest 1 := ⟨wk_705, wk_703, wk_704, wk_80, ⟨by decide +kernel, by decide +kernel, by decide +kernel⟩, by decide⟩
abbrev md_Rw_holds : Md := (yX2_holds, cX2_holds, 3, (some .boolean))
theorem cv_Rw_holds : CV md_Rw_holds 2 := ⟨wk_713, wk_711, wk_712, wk_80, ⟨by decide +kernel, by decide +kernel, by decide +kernel⟩, by decide⟩
abbrev md_Rw_copy : Md := (yX2_copy, cX2_copy, 2, none)
theorem cv_Rw_copy : CV md_Rw_copy 1 := ⟨wk_744, wk_742, wk_743, wk_80, ⟨by decide +kernel, by decide +kernel, by decide +kernel⟩, by decide⟩
abbrev md_Tp_add : Md := (yX3_add, cX3_add, 5, none)
theorem cv_Tp_add : CV md_Tp_add 2 := ⟨wk_466, wk_464, wk_465, wk_78, ⟨by decide +kernel, by decide +kernel, by decide +kernel⟩, by decide⟩
abbrev md_Tp_copy : Md := (yX3_copy, cX3_copy, 2, none)
theorem cv_Tp_copy : CV md_Tp_copy 1 := ⟨wk_739, wk_737, wk_738, wk_78, ⟨by decide +kernel, by decide +kernel, by decide +kernel⟩, by decide⟩
abbrev md_Tx_isTold : Md := (yX4_isTold, cX4_isTold, 1, (some .boolean))
theorem cv_Tx_isTold : CV md_Tx_isTold 0 := ⟨wk_379, wk_377, wk_378, wk_77, ⟨by decide +kernel, by decide +kernel, by decide +kernel⟩, by decide⟩
abbrev md_Tx_learn : Md := (yX4_learn, cX4_learn, 3, none)
theorem cv_Tx_learn : CV md_Tx_learn 2 := ⟨wk_534, wk_532, wk_533, wk_77, ⟨by decide +kernel, by decide +kernel, by decide +kernel⟩, by decide⟩
abbrev md_Tx_copy : Md := (yX4_copy, cX4_copy, 2, none)
theorem cv_Tx_copy : CV md_Tx_copy 1 := ⟨wk_593, wk_591, wk_592, wk_77, ⟨by decide +kernel, by decide +kernel, by decide +kernel⟩, by decide⟩
abbrev md_Tx_gives : Md := (yX4_gives, cX4_gives, 5, (some .int))
theorem cv_Tx_gives : CV md_Tx_gives 3 := ⟨wk_375, wk_373, wk_374, wk_77, ⟨by decide +kernel, by decide +kernel, by decide +kernel⟩, by decide⟩
abbrev md_Tx_work : Md := (yX4_work, cX4_work, 7, (some .int))
theorem cv_Tx_work : CV md_Tx_work 3 := ⟨wk_383, wk_382, wk_1, wk_77, ⟨by decide +kernel, by decide +kernel, by decide +kernel⟩, by decide⟩
abbrev md_Tx_meaning : Md := (yX4_meaning, cX4_meaning, 4, (some .int))
theorem cs_Tx_meaning : CS md_Tx_meaning 4 := ⟨wk_389, wk_388, wk_77, ⟨by decide +kernel, by decide +kernel, by decide +kernel⟩, by decide⟩
abbrev md_Tx_join : Md := (yX4_join, cX4_join, 3, (some .int))
theorem cs_Tx_join : CS md_Tx_join 3 := ⟨wk_386, wk_385, wk_77, ⟨by decide +kernel, by decide +kernel, by decide +kernel⟩, by decide⟩
abbrev md_Th_speak : Md := (yX5_speak, cX5_speak, 6, (some .int))
theorem cv_Th_speak : CV md_Th_speak 5 := ⟨wk_663, wk_661, wk_662, wk_81, ⟨by decide +kernel, by decide +kernel, by decide +kernel⟩, by decide⟩
abbrev md_Th_say : Md := (yX5_say, cX5_say, 6, (some .int))
theorem cv_Th_say : CV md_Th_say 4 := ⟨wk_667, wk_666, wk_17, wk_81, ⟨by decide +kernel, by decide +kernel, by decide +kernel⟩, by decide⟩
abbrev md_Th_bodyOf : Md := (yX5_bodyOf, cX5_bodyOf, 4, (some .int))
theorem cs_Th_bodyOf : CS md_Th_bodyOf 2 := ⟨wk_670, wk_669, wk_81, ⟨by decide +kernel, by decide +kernel, by decide +kernel⟩, by decide⟩
abbrev md_Th_work : Md := (yX5_work, cX5_work, 4, (some .int))
theorem cv_Th_work : CV md_Th_work 3 := ⟨wk_678, wk_677, wk_18, wk_81, ⟨by decide +kernel, by decide +kernel, by decide +kernel⟩, by decide⟩
abbrev md_Th_part : Md := (yX5_part, cX5_part, 3, (some .int))
theorem cv_Th_part : CV md_Th_part 1 := ⟨wk_682, wk_681, wk_19, wk_81, ⟨by decide +kernel, by decide +kernel, by decide +kernel⟩, by decide⟩
abbrev md_Mn_jumper : Md := (yX6_jumper, cX6_jumper, 4, (some .int))
theorem cv_Mn_jumper : CV md_Mn_jumper 3 := ⟨wk_318, wk_316, wk_317, wk_75, ⟨by decide +kernel, by decide +kernel, by decide +kernel⟩, by decide⟩
abbrev md_Mn_jumperIs : Md := (yX6_jumperIs, cX6_jumperIs, 3, (some .int))
theorem cv_Mn_jumperIs : CV md_Mn_jumperIs 2 := ⟨wk_341, wk_339, wk_340, wk_75, ⟨by decide +kernel, by decide +kernel, by decide +kernel⟩, by decide⟩
abbrev md_Mn_become : Md := (yX6_become, cX6_become, 4, (some .int))
theorem cv_Mn_become : CV md_Mn_become 2 := ⟨wk_399, wk_397, wk_398, wk_75, ⟨by decide +kernel, by decide +kernel, by decide +kernel⟩, by decide⟩
abbrev md_Mn_as : Md := (yX6_as, cX6_as, 3, (some .int))
theorem cv_Mn_as : CV md_Mn_as 2 := ⟨wk_404, wk_402, wk_403, wk_75, ⟨by decide +kernel, by decide +kernel, by decide +kernel⟩, by decide⟩
abbrev md_Mn_jump : Md := (yX6_jump, cX6_jump, 4, (some .int))
theorem cv_Mn_jump : CV md_Mn_jump 2 := ⟨wk_413, wk_411, wk_412, wk_75, ⟨by decide +kernel, by decide +kernel, by decide +kernel⟩, by decide⟩
abbrev md_Mn_rest : Md := (yX6_rest, cX6_rest, 4, (some .int))
theorem cv_Mn_rest : CV md_Mn_rest 2 := ⟨wk_421, wk_419, wk_420, wk_75, ⟨by decide +kernel, by decide +kernel, by decide +kernel⟩, by decide⟩
abbrev md_Mn_spell : Md := (yX6_spell, cX6_spell, 4, (some .int))
theorem cv_Mn_spell : CV md_Mn_spell 2 := ⟨wk_425, wk_423, wk_424, wk_75, ⟨by decide +kernel, by decide +kernel, by decide +kernel⟩, by decide⟩
abbrev md_Mn_bar : Md := (yX6_bar, cX6_bar, 3, (some .int))
theorem cv_Mn_bar : CV md_Mn_bar 1 := ⟨wk_429, wk_427, wk_428, wk_75, ⟨by decide +kernel, by decide +kernel, by decide +kernel⟩, by decide⟩
abbrev md_Mn_liking : Md := (yX6_liking, cX6_liking, 3, (some .int))
theorem cv_Mn_liking : CV md_Mn_liking 2 := ⟨wk_433, wk_431, wk_432, wk_75, ⟨by decide +kernel, by decide +kernel, by decide +kernel⟩, by decide⟩
abbrev md_Mn_talk : Md := (yX6_talk, cX6_talk, 3, (some .int))
theorem cv_Mn_talk : CV md_Mn_talk 2 := ⟨wk_448, wk_446, wk_447, wk_75, ⟨by decide +kernel, by decide +kernel, by decide +kernel⟩, by decide⟩
abbrev md_Mn_feed : Md := (yX6_feed, cX6_feed, 4, (some .int))
theorem cv_Mn_feed : CV md_Mn_feed 2 := ⟨wk_462, wk_460, wk_461, wk_75, ⟨by decide +kernel, by decide +kernel, by decide +kernel⟩, by decide⟩
abbrev md_Mn_text : Md := (yX6_text, cX6_text, 3, (some .int))
theorem cv_Mn_text : CV md_Mn_text 1 := ⟨wk_470, wk_468, wk_469, wk_75, ⟨by decide +kernel, by decide +kernel, by decide +kernel⟩, by decide⟩
abbrev md_Mn_untell : Md := (yX6_untell, cX6_untell, 3, (some .int))
theorem cv_Mn_untell : CV md_Mn_untell 1 := ⟨wk_539, wk_537, wk_538, wk_75, ⟨by decide +kernel, by decide +kernel, by decide +kernel⟩, by decide⟩
abbrev md_Mn_law : Md := (yX6_law, cX6_law, 5, (some .int))
theorem cv_Mn_law : CV md_Mn_law 4 := ⟨wk_544, wk_542, wk_543, wk_75, ⟨by decide +kernel, by decide +kernel, by decide +kernel⟩, by decide⟩
abbrev md_Mn_beats : Md := (yX6_beats, cX6_beats, 4, (some .int))
theorem cv_Mn_beats : CV md_Mn_beats 1 := ⟨wk_549, wk_547, wk_548, wk_75, ⟨by decide +kernel, by decide +kernel, by decide +kernel⟩, by decide⟩
abbrev md_Mn_loose : Md := (yX6_loose, cX6_loose, 4, (some .int))
theorem cv_Mn_loose : CV md_Mn_loose 1 := ⟨wk_565, wk_563, wk_564, wk_75, ⟨by decide +kernel, by decide +kernel, by decide +kernel⟩, by decide⟩
abbrev md_Mn_seed : Md := (yX6_seed, cX6_seed, 3, (some .int))
theorem cv_Mn_seed : CV md_Mn_seed 1 := ⟨wk_581, wk_579, wk_580, wk_75, ⟨by decide +kernel, by decide +kernel, by decide +kernel⟩, by decide⟩
abbrev md_Mn_then : Md := (yX6_then, cX6_then, 5, (some .int))
theorem cv_Mn_then : CV md_Mn_then 3 := ⟨wk_585, wk_583, wk_584, wk_75, ⟨by decide +kernel, by decide +kernel, by decide +kernel⟩, by decide⟩
abbrev md_Mn_lasts : Md := (yX6_lasts, cX6_lasts, 3, (some .int))
theorem cv_Mn_lasts : CV md_Mn_lasts 1 := ⟨wk_599, wk_597, wk_598, wk_75, ⟨by decide +kernel, by decide +kernel, by decide +kernel⟩, by decide⟩
abbrev md_Mn_agree : Md := (yX6_agree, cX6_agree, 4, (some .int))
theorem cv_Mn_agree : CV md_Mn_agree 1 := ⟨wk_603, wk_601, wk_602, wk_75, ⟨by decide +kernel, by decide +kernel, by decide +kernel⟩, by decide⟩
abbrev md_Mn_fairest : Md := (yX6_fairest, cX6_fairest, 6, (some .int))
theorem cv_Mn_fairest : CV md_Mn_fairest 1 := ⟨wk_607, wk_605, wk_606, wk_75, ⟨by decide +kernel, by decide +kernel, by decide +kernel⟩, by decide⟩
abbrev md_Mn_balks : Md := (yX6_balks, cX6_balks, 3, (some .int))
theorem cv_Mn_balks : CV md_Mn_balks 1 := ⟨wk_616, wk_614, wk_615, wk_75, ⟨by decide +kernel, by decide +kernel, by decide +kernel⟩, by decide⟩
abbrev md_Mn_soon : Md := (yX6_soon, cX6_soon, 3, (some .int))
theorem cv_Mn_soon : CV md_Mn_soon 1 := ⟨wk_629, wk_627, wk_628, wk_75, ⟨by decide +kernel, by decide +kernel, by decide +kernel⟩, by decide⟩
abbrev md_Mn_meets : Md := (yX6_meets, cX6_meets, 7, (some .int))
theorem cv_Mn_meets : CV md_Mn_meets 4 := ⟨wk_633, wk_631, wk_632, wk_75, ⟨by decide +kernel, by decide +kernel, by decide +kernel⟩, by decide⟩
abbrev md_Mn_odds : Md := (yX6_odds, cX6_odds, 5, (some .int))
theorem cv_Mn_odds : CV md_Mn_odds 2 := ⟨wk_640, wk_638, wk_639, wk_75, ⟨by decide +kernel, by decide +kernel, by decide +kernel⟩, by decide⟩
abbrev md_Mn_fits : Md := (yX6_fits, cX6_fits, 3, (some .int))
theorem cv_Mn_fits : CV md_Mn_fits 1 := ⟨wk_644, wk_642, wk_643, wk_75, ⟨by decide +kernel, by decide +kernel, by decide +kernel⟩, by decide⟩
abbrev md_Mn_voice : Md := (yX6_voice, cX6_voice, 5, (some .int))
theorem cv_Mn_voice : CV md_Mn_voice 3 := ⟨wk_659, wk_657, wk_658, wk_75, ⟨by decide +kernel, by decide +kernel, by decide +kernel⟩, by decide⟩
abbrev md_Mn_body : Md := (yX6_body, cX6_body, 2, (some .int))
theorem cv_Mn_body : CV md_Mn_body 1 := ⟨wk_686, wk_684, wk_685, wk_75, ⟨by decide +kernel, by decide +kernel, by decide +kernel⟩, by decide⟩
abbrev md_Mn_sheet : Md := (yX6_sheet, cX6_sheet, 4, (some .int))
theorem cv_Mn_sheet : CV md_Mn_sheet 3 := ⟨wk_690, wk_688, wk_689, wk_75, ⟨by decide +kernel, by decide +kernel, by decide +kernel⟩, by decide⟩
abbrev md_Mn_put : Md := (yX6_put, cX6_put, 4, (some .int))
theorem cv_Mn_put : CV md_Mn_put 3 := ⟨wk_701, wk_699, wk_700, wk_75, ⟨by decide +kernel, by decide +kernel, by decide +kernel⟩, by decide⟩
abbrev md_Mn_move : Md := (yX6_move, cX6_move, 8, (some .int))
theorem cv_Mn_move : CV md_Mn_move 5 := ⟨wk_709, wk_707, wk_708, wk_75, ⟨by decide +kernel, by decide +kernel, by decide +kernel⟩, by decide⟩
abbrev md_Mn_breaths : Md := (yX6_breaths, cX6_breaths, 2, (some .int))
theorem cv_Mn_breaths : CV md_Mn_breaths 1 := ⟨wk_718, wk_716, wk_717, wk_75, ⟨by decide +kernel, by decide +kernel, by decide +kernel⟩, by decide⟩
abbrev md_Mn_judge : Md := (yX6_judge, cX6_judge, 2, (some .int))
theorem cv_Mn_judge : CV md_Mn_judge 1 := ⟨wk_727, wk_725, wk_726, wk_75, ⟨by decide +kernel, by decide +kernel, by decide +kernel⟩, by decide⟩
abbrev md_Mn_image : Md := (yX6_image, cX6_image, 1, (some .int))
theorem cv_Mn_image : CV md_Mn_image 0 := ⟨wk_735, wk_733, wk_734, wk_75, ⟨by decide +kernel, by decide +kernel, by decide +kernel⟩, by decide⟩
abbrev md_Mn_restore : Md := (yX6_restore, cX6_restore, 1, (some .int))
theorem cv_Mn_restore : CV md_Mn_restore 0 := ⟨wk_749, wk_747, wk_748, wk_75, ⟨by decide +kernel, by decide +kernel, by decide +kernel⟩, by decide⟩
abbrev md_Mn_tell : Md := (yX6_tell, cX6_tell, 2, (some .int))
theorem cv_Mn_tell : CV md_Mn_tell 1 := ⟨wk_753, wk_751, wk_752, wk_75, ⟨by decide +kernel, by decide +kernel, by decide +kernel⟩, by decide⟩
abbrev md_Mn_check : Md := (yX6_check, cX6_check, 3, (some .int))
theorem cv_Mn_check : CV md_Mn_check 0 := ⟨wk_757, wk_755, wk_756, wk_75, ⟨by decide +kernel, by decide +kernel, by decide +kernel⟩, by decide⟩
abbrev md_Mn_count : Md := (yX6_count, cX6_count, 2, (some .int))
theorem cv_Mn_count : CV md_Mn_count 1 := ⟨wk_761, wk_759, wk_760, wk_75, ⟨by decide +kernel, by decide +kernel, by decide +kernel⟩, by decide⟩
abbrev md_Mn_told : Md := (yX6_told, cX6_told, 2, (some .int))
theorem cv_Mn_told : CV md_Mn_told 1 := ⟨wk_766, wk_764, wk_765, wk_75, ⟨by decide +kernel, by decide +kernel, by decide +kernel⟩, by decide⟩
abbrev md_Mn_error : Md := (yX6_error, cX6_error, 2, (some .int))
theorem cv_Mn_error : CV md_Mn_error 1 := ⟨wk_328, wk_327, wk_0, wk_75, ⟨by decide +kernel, by decide +kernel, by decide +kernel⟩, by decide⟩
abbrev md_Mn_isWithin : Md := (yX6_isWithin, cX6_isWithin, 2, (some .boolean))
theorem cs_Mn_isWithin : CS md_Mn_isWithin 2 := ⟨wk_324, wk_323, wk_75, ⟨by decide +kernel, by decide +kernel, by decide +kernel⟩, by decide⟩
abbrev md_Mn_isKindAndMark : Md := (yX6_isKindAndMark, cX6_isKindAndMark, 1, (some .boolean))
theorem cs_Mn_isKindAndMark : CS md_Mn_isKindAndMark 1 := ⟨wk_321, wk_320, wk_75, ⟨by decide +kernel, by decide +kernel, by decide +kernel⟩, by decide⟩
abbrev md_Mn_isTreaty : Md := (yX6_isTreaty, cX6_isTreaty, 1, (some .boolean))
theorem cs_Mn_isTreaty : CS md_Mn_isTreaty 1 := ⟨wk_436, wk_435, wk_75, ⟨by decide +kernel, by decide +kernel, by decide +kernel⟩, by decide⟩
abbrev md_Mn_isUse : Md := (yX6_isUse, cX6_isUse, 1, (some .boolean))
theorem cs_Mn_isUse : CS md_Mn_isUse 1 := ⟨wk_473, wk_472, wk_75, ⟨by decide +kernel, by decide +kernel, by decide +kernel⟩, by decide⟩
abbrev md_Mn_isSheet : Md := (yX6_isSheet, cX6_isSheet, 1, (some .boolean))
theorem cs_Mn_isSheet : CS md_Mn_isSheet 1 := ⟨wk_647, wk_646, wk_75, ⟨by decide +kernel, by decide +kernel, by decide +kernel⟩, by decide⟩
abbrev md_Mn_isBits : Md := (yX6_isBits, cX6_isBits, 1, (some .boolean))
theorem cs_Mn_isBits : CS md_Mn_isBits 1 := ⟨wk_693, wk_692, wk_75, ⟨by decide +kernel, by decide +kernel, by decide +kernel⟩, by decide⟩
abbrev md_Mn_isRest : Md := (yX6_isRest, cX6_isRest, 2, (some .boolean))
theorem cs_Mn_isRest : CS md_Mn_isRest 2 := ⟨wk_636, wk_635, wk_75, ⟨by decide +kernel, by decide +kernel, by decide +kernel⟩, by decide⟩
abbrev md_Mn_isUnder : Md := (yX6_isUnder, cX6_isUnder, 4, (some .boolean))
theorem cs_Mn_isUnder : CS md_Mn_isUnder 2 := ⟨wk_407, wk_406, wk_75, ⟨by decide +kernel, by decide +kernel, by decide +kernel⟩, by decide⟩
abbrev md_Mo_error : Md := (yX7_error, cX7_error, 2, (some .int))
theorem cv_Mo_error : CV md_Mo_error 1 := ⟨wk_851, wk_850, wk_20, wk_82, ⟨by decide +kernel, by decide +kernel, by decide +kernel⟩, by decide⟩
abbrev md_Mo_in : Md := (yX7_in, cX7_in, 3, (some .boolean))
theorem cs_Mo_in : CS md_Mo_in 3 := ⟨wk_846, wk_845, wk_82, ⟨by decide +kernel, by decide +kernel, by decide +kernel⟩, by decide⟩
abbrev md_Mo_held : Md := (yX7_held, cX7_held, 3, (some .int))
theorem cs_Mo_held : CS md_Mo_held 3 := ⟨wk_906, wk_905, wk_82, ⟨by decide +kernel, by decide +kernel, by decide +kernel⟩, by decide⟩
abbrev md_Mo_copyAll : Md := (yX7_copyAll, cX7_copyAll, 3, none)
theorem cs_Mo_copyAll : CS md_Mo_copyAll 2 := ⟨wk_1077, wk_1076, wk_82, ⟨by decide +kernel, by decide +kernel, by decide +kernel⟩, by decide⟩
abbrev md_Mo_thinks : Md := (yX7_thinks, cX7_thinks, 1, none)
theorem cv_Mo_thinks : CV md_Mo_thinks 0 := ⟨wk_1074, wk_1073, wk_54, wk_82, ⟨by decide +kernel, by decide +kernel, by decide +kernel⟩, by decide⟩
abbrev md_Mo_putsBack : Md := (yX7_putsBack, cX7_putsBack, 1, none)
theorem cv_Mo_putsBack : CV md_Mo_putsBack 0 := ⟨wk_1085, wk_1084, wk_56, wk_82, ⟨by decide +kernel, by decide +kernel, by decide +kernel⟩, by decide⟩
abbrev md_Mo_bits : Md := (yX7_bits, cX7_bits, 3, (some .int))
theorem cs_Mo_bits : CS md_Mo_bits 1 := ⟨wk_892, wk_891, wk_82, ⟨by decide +kernel, by decide +kernel, by decide +kernel⟩, by decide⟩
abbrev md_Mo_isJumper : Md := (yX7_isJumper, cX7_isJumper, 2, (some .boolean))
theorem cv_Mo_isJumper : CV md_Mo_isJumper 1 := ⟨wk_865, wk_864, wk_22, wk_82, ⟨by decide +kernel, by decide +kernel, by decide +kernel⟩, by decide⟩
abbrev md_Mo_isTreaty : Md := (yX7_isTreaty, cX7_isTreaty, 1, (some .boolean))
theorem cs_Mo_isTreaty : CS md_Mo_isTreaty 1 := ⟨wk_947, wk_946, wk_82, ⟨by decide +kernel, by decide +kernel, by decide +kernel⟩, by decide⟩
abbrev md_Mo_becomes : Md := (yX7_becomes, cX7_becomes, 4, (some .int))
theorem cv_Mo_becomes : CV md_Mo_becomes 2 := ⟨wk_914, wk_913, wk_31, wk_82, ⟨by decide +kernel, by decide +kernel, by decide +kernel⟩, by decide⟩
abbrev md_Mo_of : Md := (yX7_of, cX7_of, 3, (some .int))
theorem cv_Mo_of : CV md_Mo_of 2 := ⟨wk_869, wk_868, wk_23, wk_82, ⟨by decide +kernel, by decide +kernel, by decide +kernel⟩, by decide⟩
abbrev md_Mo_lets : Md := (yX7_lets, cX7_lets, 4, none)
theorem cv_Mo_lets : CV md_Mo_lets 3 := ⟨wk_857, wk_856, wk_21, wk_82, ⟨by decide +kernel, by decide +kernel, by decide +kernel⟩, by decide⟩
abbrev md_Mo_isIn : Md := (yX7_isIn, cX7_isIn, 2, (some .boolean))
theorem cv_Mo_isIn : CV md_Mo_isIn 1 := ⟨wk_889, wk_888, wk_28, wk_82, ⟨by decide +kernel, by decide +kernel, by decide +kernel⟩, by decide⟩
abbrev md_Mo_allIn : Md := (yX7_allIn, cX7_allIn, 3, (some .int))
theorem cv_Mo_allIn : CV md_Mo_allIn 0 := ⟨wk_885, wk_884, wk_27, wk_82, ⟨by decide +kernel, by decide +kernel, by decide +kernel⟩, by decide⟩
abbrev md_Mo_word : Md := (yX7_word, cX7_word, 1, (some .int))
theorem cv_Mo_word : CV md_Mo_word 0 := ⟨wk_881, wk_880, wk_26, wk_82, ⟨by decide +kernel, by decide +kernel, by decide +kernel⟩, by decide⟩
abbrev md_Mo_doesTurn : Md := (yX7_doesTurn, cX7_doesTurn, 1, (some .boolean))
theorem cv_Mo_doesTurn : CV md_Mo_doesTurn 0 := ⟨wk_927, wk_926, wk_32, wk_82, ⟨by decide +kernel, by decide +kernel, by decide +kernel⟩, by decide⟩
abbrev md_Mo_takesOf : Md := (yX7_takesOf, cX7_takesOf, 3, (some .int))
theorem cv_Mo_takesOf : CV md_Mo_takesOf 1 := ⟨wk_877, wk_876, wk_25, wk_82, ⟨by decide +kernel, by decide +kernel, by decide +kernel⟩, by decide⟩
abbrev md_Mo_costsOf : Md := (yX7_costsOf, cX7_costsOf, 2, (some .int))
theorem cv_Mo_costsOf : CV md_Mo_costsOf 1 := ⟨wk_873, wk_872, wk_24, wk_82, ⟨by decide +kernel, by decide +kernel, by decide +kernel⟩, by decide⟩
abbrev md_Mo_leansOf : Md := (yX7_leansOf, cX7_leansOf, 6, (some .int))
theorem cv_Mo_leansOf : CV md_Mo_leansOf 2 := ⟨wk_955, wk_954, wk_34, wk_82, ⟨by decide +kernel, by decide +kernel, by decide +kernel⟩, by decide⟩
abbrev md_Mo_likesOf : Md := (yX7_likesOf, cX7_likesOf, 3, (some .int))
theorem cv_Mo_likesOf : CV md_Mo_likesOf 2 := ⟨wk_951, wk_950, wk_33, wk_82, ⟨by decide +kernel, by decide +kernel, by decide +kernel⟩, by decide⟩
abbrev md_Mo_doesTake : Md := (yX7_doesTake, cX7_doesTake, 3, (some .boolean))
theorem cv_Mo_doesTake : CV md_Mo_doesTake 2 := ⟨wk_975, wk_974, wk_38, wk_82, ⟨by decide +kernel, by decide +kernel, by decide +kernel⟩, by decide⟩
abbrev md_Mo_isTaken : Md := (yX7_isTaken, cX7_isTaken, 4, (some .boolean))
theorem cv_Mo_isTaken : CV md_Mo_isTaken 1 := ⟨wk_971, wk_970, wk_37, wk_82, ⟨by decide +kernel, by decide +kernel, by decide +kernel⟩, by decide⟩
abbrev md_Mo_isKm : Md := (yX7_isKm, cX7_isKm, 1, (some .boolean))
theorem cs_Mo_isKm : CS md_Mo_isKm 1 := ⟨wk_843, wk_842, wk_82, ⟨by decide +kernel, by decide +kernel, by decide +kernel⟩, by decide⟩
abbrev md_Mo_jumper : Md := (yX7_jumper, cX7_jumper, 5, (some .int))
theorem cv_Mo_jumper : CV md_Mo_jumper 3 := ⟨wk_840, wk_838, wk_839, wk_82, ⟨by decide +kernel, by decide +kernel, by decide +kernel⟩, by decide⟩
abbrev md_Mo_jumperIs : Md := (yX7_jumperIs, cX7_jumperIs, 3, (some .int))
theorem cv_Mo_jumperIs : CV md_Mo_jumperIs 2 := ⟨wk_861, wk_859, wk_860, wk_82, ⟨by decide +kernel, by decide +kernel, by decide +kernel⟩, by decide⟩
abbrev md_Mo_become : Md := (yX7_become, cX7_become, 3, (some .int))
theorem cv_Mo_become : CV md_Mo_become 2 := ⟨wk_910, wk_908, wk_909, wk_82, ⟨by decide +kernel, by decide +kernel, by decide +kernel⟩, by decide⟩
abbrev md_Mo_as : Md := (yX7_as, cX7_as, 5, (some .int))
theorem cv_Mo_as : CV md_Mo_as 2 := ⟨wk_918, wk_916, wk_917, wk_82, ⟨by decide +kernel, by decide +kernel, by decide +kernel⟩, by decide⟩
abbrev md_Mo_jump : Md := (yX7_jump, cX7_jump, 3, (some .int))
theorem cv_Mo_jump : CV md_Mo_jump 2 := ⟨wk_923, wk_921, wk_922, wk_82, ⟨by decide +kernel, by decide +kernel, by decide +kernel⟩, by decide⟩
abbrev md_Mo_rest : Md := (yX7_rest, cX7_rest, 3, (some .int))
theorem cv_Mo_rest : CV md_Mo_rest 2 := ⟨wk_932, wk_930, wk_931, wk_82, ⟨by decide +kernel, by decide +kernel, by decide +kernel⟩, by decide⟩
abbrev md_Mo_spell : Md := (yX7_spell, cX7_spell, 3, (some .int))
theorem cv_Mo_spell : CV md_Mo_spell 2 := ⟨wk_936, wk_934, wk_935, wk_82, ⟨by decide +kernel, by decide +kernel, by decide +kernel⟩, by decide⟩
abbrev md_Mo_bar : Md := (yX7_bar, cX7_bar, 2, (some .int))
theorem cv_Mo_bar : CV md_Mo_bar 1 := ⟨wk_940, wk_938, wk_939, wk_82, ⟨by decide +kernel, by decide +kernel, by decide +kernel⟩, by decide⟩
abbrev md_Mo_liking : Md := (yX7_liking, cX7_liking, 3, (some .int))
theorem cv_Mo_liking : CV md_Mo_liking 2 := ⟨wk_944, wk_942, wk_943, wk_82, ⟨by decide +kernel, by decide +kernel, by decide +kernel⟩, by decide⟩
abbrev md_Mo_mayTalk : Md := (yX7_mayTalk, cX7_mayTalk, 2, (some .boolean))
theorem cv_Mo_mayTalk : CV md_Mo_mayTalk 1 := ⟨wk_963, wk_962, wk_35, wk_82, ⟨by decide +kernel, by decide +kernel, by decide +kernel⟩, by decide⟩
abbrev md_Mo_talks : Md := (yX7_talks, cX7_talks, 3, (some .boolean))
theorem cv_Mo_talks : CV md_Mo_talks 1 := ⟨wk_967, wk_966, wk_36, wk_82, ⟨by decide +kernel, by decide +kernel, by decide +kernel⟩, by decide⟩
abbrev md_Mo_talk : Md := (yX7_talk, cX7_talk, 3, (some .int))
theorem cv_Mo_talk : CV md_Mo_talk 2 := ⟨wk_959, wk_957, wk_958, wk_82, ⟨by decide +kernel, by decide +kernel, by decide +kernel⟩, by decide⟩
abbrev md_Mo_feed : Md := (yX7_feed, cX7_feed, 5, (some .int))
theorem cv_Mo_feed : CV md_Mo_feed 2 := ⟨wk_979, wk_977, wk_978, wk_82, ⟨by decide +kernel, by decide +kernel, by decide +kernel⟩, by decide⟩
abbrev md_Mo_look : Md := (yX7_look, cX7_look, 1, (some .int))
theorem cv_Mo_look : CV md_Mo_look 0 := ⟨wk_1012, wk_1011, wk_45, wk_82, ⟨by decide +kernel, by decide +kernel, by decide +kernel⟩, by decide⟩
abbrev md_Mo_lays : Md := (yX7_lays, cX7_lays, 3, none)
theorem cv_Mo_lays : CV md_Mo_lays 2 := ⟨wk_1020, wk_1019, wk_47, wk_82, ⟨by decide +kernel, by decide +kernel, by decide +kernel⟩, by decide⟩
abbrev md_Mo_nameOf : Md := (yX7_nameOf, cX7_nameOf, 2, (some .int))
theorem cv_Mo_nameOf : CV md_Mo_nameOf 1 := ⟨wk_1016, wk_1015, wk_46, wk_82, ⟨by decide +kernel, by decide +kernel, by decide +kernel⟩, by decide⟩
abbrev md_Mo_number : Md := (yX7_number, cX7_number, 3, none)
theorem cv_Mo_number : CV md_Mo_number 0 := ⟨wk_1028, wk_1027, wk_49, wk_82, ⟨by decide +kernel, by decide +kernel, by decide +kernel⟩, by decide⟩
abbrev md_Mo_opens : Md := (yX7_opens, cX7_opens, 2, none)
theorem cv_Mo_opens : CV md_Mo_opens 1 := ⟨wk_1024, wk_1023, wk_48, wk_82, ⟨by decide +kernel, by decide +kernel, by decide +kernel⟩, by decide⟩
abbrev md_Mo_one : Md := (yX7_one, cX7_one, 3, none)
theorem cv_Mo_one : CV md_Mo_one 0 := ⟨wk_1008, wk_1007, wk_44, wk_82, ⟨by decide +kernel, by decide +kernel, by decide +kernel⟩, by decide⟩
abbrev md_Mo_times : Md := (yX7_times, cX7_times, 2, none)
theorem cv_Mo_times : CV md_Mo_times 0 := ⟨wk_1004, wk_1003, wk_43, wk_82, ⟨by decide +kernel, by decide +kernel, by decide +kernel⟩, by decide⟩
abbrev md_Mo_sum : Md := (yX7_sum, cX7_sum, 2, none)
theorem cv_Mo_sum : CV md_Mo_sum 0 := ⟨wk_1000, wk_999, wk_42, wk_82, ⟨by decide +kernel, by decide +kernel, by decide +kernel⟩, by decide⟩
abbrev md_Mo_compares : Md := (yX7_compares, cX7_compares, 2, none)
theorem cv_Mo_compares : CV md_Mo_compares 0 := ⟨wk_996, wk_995, wk_41, wk_82, ⟨by decide +kernel, by decide +kernel, by decide +kernel⟩, by decide⟩
abbrev md_Mo_all : Md := (yX7_all, cX7_all, 1, none)
theorem cv_Mo_all : CV md_Mo_all 0 := ⟨wk_992, wk_991, wk_40, wk_82, ⟨by decide +kernel, by decide +kernel, by decide +kernel⟩, by decide⟩
abbrev md_Mo_any : Md := (yX7_any, cX7_any, 1, none)
theorem cv_Mo_any : CV md_Mo_any 0 := ⟨wk_988, wk_987, wk_39, wk_82, ⟨by decide +kernel, by decide +kernel, by decide +kernel⟩, by decide⟩
abbrev md_Mo_text : Md := (yX7_text, cX7_text, 4, (some .int))
theorem cv_Mo_text : CV md_Mo_text 1 := ⟨wk_984, wk_982, wk_983, wk_82, ⟨by decide +kernel, by decide +kernel, by decide +kernel⟩, by decide⟩
abbrev md_Mo_untell : Md := (yX7_untell, cX7_untell, 2, (some .int))
theorem cv_Mo_untell : CV md_Mo_untell 1 := ⟨wk_1032, wk_1030, wk_1031, wk_82, ⟨by decide +kernel, by decide +kernel, by decide +kernel⟩, by decide⟩
abbrev md_Mo_twoOf : Md := (yX7_twoOf, cX7_twoOf, 3, (some .int))
theorem cs_Mo_twoOf : CS md_Mo_twoOf 3 := ⟨wk_903, wk_902, wk_82, ⟨by decide +kernel, by decide +kernel, by decide +kernel⟩, by decide⟩
abbrev md_Mo_works : Md := (yX7_works, cX7_works, 5, (some .int))
theorem cv_Mo_works : CV md_Mo_works 1 := ⟨wk_900, wk_899, wk_30, wk_82, ⟨by decide +kernel, by decide +kernel, by decide +kernel⟩, by decide⟩
abbrev md_Mo_gives : Md := (yX7_gives, cX7_gives, 7, (some .int))
theorem cv_Mo_gives : CV md_Mo_gives 4 := ⟨wk_896, wk_895, wk_29, wk_82, ⟨by decide +kernel, by decide +kernel, by decide +kernel⟩, by decide⟩
abbrev md_Mo_law : Md := (yX7_law, cX7_law, 5, (some .int))
theorem cv_Mo_law : CV md_Mo_law 4 := ⟨wk_1036, wk_1034, wk_1035, wk_82, ⟨by decide +kernel, by decide +kernel, by decide +kernel⟩, by decide⟩
abbrev md_Mo_misses : Md := (yX7_misses, cX7_misses, 4, (some .boolean))
theorem cv_Mo_misses : CV md_Mo_misses 1 := ⟨wk_1049, wk_1048, wk_51, wk_82, ⟨by decide +kernel, by decide +kernel, by decide +kernel⟩, by decide⟩
abbrev md_Mo_goes : Md := (yX7_goes, cX7_goes, 3, (some .int))
theorem cv_Mo_goes : CV md_Mo_goes 0 := ⟨wk_1045, wk_1044, wk_50, wk_82, ⟨by decide +kernel, by decide +kernel, by decide +kernel⟩, by decide⟩
abbrev md_Mo_beats : Md := (yX7_beats, cX7_beats, 4, (some .int))
theorem cv_Mo_beats : CV md_Mo_beats 1 := ⟨wk_1040, wk_1038, wk_1039, wk_82, ⟨by decide +kernel, by decide +kernel, by decide +kernel⟩, by decide⟩
abbrev md_Mo_draw : Md := (yX7_draw, cX7_draw, 1, (some .int))
theorem cv_Mo_draw : CV md_Mo_draw 0 := ⟨wk_1061, wk_1060, wk_53, wk_82, ⟨by decide +kernel, by decide +kernel, by decide +kernel⟩, by decide⟩
abbrev md_Mo_drawn : Md := (yX7_drawn, cX7_drawn, 4, (some .boolean))
theorem cv_Mo_drawn : CV md_Mo_drawn 0 := ⟨wk_1057, wk_1056, wk_52, wk_82, ⟨by decide +kernel, by decide +kernel, by decide +kernel⟩, by decide⟩
abbrev md_Mo_loose : Md := (yX7_loose, cX7_loose, 4, (some .int))
theorem cv_Mo_loose : CV md_Mo_loose 1 := ⟨wk_1053, wk_1051, wk_1052, wk_82, ⟨by decide +kernel, by decide +kernel, by decide +kernel⟩, by decide⟩
abbrev md_Mo_seed : Md := (yX7_seed, cX7_seed, 2, (some .int))
theorem cv_Mo_seed : CV md_Mo_seed 1 := ⟨wk_1066, wk_1064, wk_1065, wk_82, ⟨by decide +kernel, by decide +kernel, by decide +kernel⟩, by decide⟩
abbrev md_Mo_goesFor : Md := (yX7_goesFor, cX7_goesFor, 4, none)
theorem cv_Mo_goesFor : CV md_Mo_goesFor 1 := ⟨wk_1081, wk_1080, wk_55, wk_82, ⟨by decide +kernel, by decide +kernel, by decide +kernel⟩, by decide⟩
abbrev md_Mo_then : Md := (yX7_then, cX7_then, 5, (some .int))
theorem cv_Mo_then : CV md_Mo_then 3 := ⟨wk_1070, wk_1068, wk_1069, wk_82, ⟨by decide +kernel, by decide +kernel, by decide +kernel⟩, by decide⟩
abbrev md_Mo_lasts : Md := (yX7_lasts, cX7_lasts, 3, (some .int))
theorem cv_Mo_lasts : CV md_Mo_lasts 1 := ⟨wk_1089, wk_1087, wk_1088, wk_82, ⟨by decide +kernel, by decide +kernel, by decide +kernel⟩, by decide⟩
abbrev md_Mo_agree : Md := (yX7_agree, cX7_agree, 6, (some .int))
theorem cv_Mo_agree : CV md_Mo_agree 1 := ⟨wk_1094, wk_1092, wk_1093, wk_82, ⟨by decide +kernel, by decide +kernel, by decide +kernel⟩, by decide⟩
abbrev md_Mo_leastLiking : Md := (yX7_leastLiking, cX7_leastLiking, 5, (some .int))
theorem cv_Mo_leastLiking : CV md_Mo_leastLiking 1 := ⟨wk_1102, wk_1101, wk_57, wk_82, ⟨by decide +kernel, by decide +kernel, by decide +kernel⟩, by decide⟩
abbrev md_Mo_fairest : Md := (yX7_fairest, cX7_fairest, 6, (some .int))
theorem cv_Mo_fairest : CV md_Mo_fairest 1 := ⟨wk_1098, wk_1096, wk_1097, wk_82, ⟨by decide +kernel, by decide +kernel, by decide +kernel⟩, by decide⟩
abbrev md_Mo_whoAlone : Md := (yX7_whoAlone, cX7_whoAlone, 6, (some .int))
theorem cv_Mo_whoAlone : CV md_Mo_whoAlone 1 := ⟨wk_1114, wk_1113, wk_59, wk_82, ⟨by decide +kernel, by decide +kernel, by decide +kernel⟩, by decide⟩
abbrev md_Mo_balksOf : Md := (yX7_balksOf, cX7_balksOf, 4, (some .int))
theorem cv_Mo_balksOf : CV md_Mo_balksOf 1 := ⟨wk_1110, wk_1109, wk_58, wk_82, ⟨by decide +kernel, by decide +kernel, by decide +kernel⟩, by decide⟩
abbrev md_Mo_balks : Md := (yX7_balks, cX7_balks, 6, (some .int))
theorem cv_Mo_balks : CV md_Mo_balks 1 := ⟨wk_1106, wk_1104, wk_1105, wk_82, ⟨by decide +kernel, by decide +kernel, by decide +kernel⟩, by decide⟩
abbrev md_Mo_soon : Md := (yX7_soon, cX7_soon, 3, (some .int))
theorem cv_Mo_soon : CV md_Mo_soon 1 := ⟨wk_1118, wk_1116, wk_1117, wk_82, ⟨by decide +kernel, by decide +kernel, by decide +kernel⟩, by decide⟩
abbrev md_Mo_meets : Md := (yX7_meets, cX7_meets, 6, (some .int))
theorem cv_Mo_meets : CV md_Mo_meets 4 := ⟨wk_1122, wk_1120, wk_1121, wk_82, ⟨by decide +kernel, by decide +kernel, by decide +kernel⟩, by decide⟩
abbrev md_Mo_odds : Md := (yX7_odds, cX7_odds, 6, (some .int))
theorem cv_Mo_odds : CV md_Mo_odds 2 := ⟨wk_1126, wk_1124, wk_1125, wk_82, ⟨by decide +kernel, by decide +kernel, by decide +kernel⟩, by decide⟩
abbrev md_Mo_isSo : Md := (yX7_isSo, cX7_isSo, 4, (some .boolean))
theorem cv_Mo_isSo : CV md_Mo_isSo 1 := ⟨wk_1141, wk_1140, wk_61, wk_82, ⟨by decide +kernel, by decide +kernel, by decide +kernel⟩, by decide⟩
abbrev md_Mo_fits : Md := (yX7_fits, cX7_fits, 4, (some .int))
theorem cv_Mo_fits : CV md_Mo_fits 1 := ⟨wk_1130, wk_1128, wk_1129, wk_82, ⟨by decide +kernel, by decide +kernel, by decide +kernel⟩, by decide⟩
abbrev md_Mo_begins : Md := (yX7_begins, cX7_begins, 2, none)
theorem cv_Mo_begins : CV md_Mo_begins 1 := ⟨wk_1157, wk_1156, wk_64, wk_82, ⟨by decide +kernel, by decide +kernel, by decide +kernel⟩, by decide⟩
abbrev md_Mo_plainSings : Md := (yX7_plainSings, cX7_plainSings, 3, (some .int))
theorem cv_Mo_plainSings : CV md_Mo_plainSings 2 := ⟨wk_1161, wk_1160, wk_65, wk_82, ⟨by decide +kernel, by decide +kernel, by decide +kernel⟩, by decide⟩
abbrev md_Mo_masterSings : Md := (yX7_masterSings, cX7_masterSings, 3, (some .int))
theorem cv_Mo_masterSings : CV md_Mo_masterSings 2 := ⟨wk_1153, wk_1152, wk_63, wk_82, ⟨by decide +kernel, by decide +kernel, by decide +kernel⟩, by decide⟩
abbrev md_Mo_sings : Md := (yX7_sings, cX7_sings, 3, (some .int))
theorem cv_Mo_sings : CV md_Mo_sings 2 := ⟨wk_1149, wk_1148, wk_62, wk_82, ⟨by decide +kernel, by decide +kernel, by decide +kernel⟩, by decide⟩
abbrev md_Mo_plainJumps : Md := (yX7_plainJumps, cX7_plainJumps, 3, (some .int))
theorem cv_Mo_plainJumps : CV md_Mo_plainJumps 2 := ⟨wk_1173, wk_1172, wk_68, wk_82, ⟨by decide +kernel, by decide +kernel, by decide +kernel⟩, by decide⟩
abbrev md_Mo_conJumps : Md := (yX7_conJumps, cX7_conJumps, 3, (some .int))
theorem cv_Mo_conJumps : CV md_Mo_conJumps 2 := ⟨wk_1169, wk_1168, wk_67, wk_82, ⟨by decide +kernel, by decide +kernel, by decide +kernel⟩, by decide⟩
abbrev md_Mo_jumps : Md := (yX7_jumps, cX7_jumps, 3, (some .int))
theorem cv_Mo_jumps : CV md_Mo_jumps 2 := ⟨wk_1165, wk_1164, wk_66, wk_82, ⟨by decide +kernel, by decide +kernel, by decide +kernel⟩, by decide⟩
abbrev md_Mo_plainClaps : Md := (yX7_plainClaps, cX7_plainClaps, 3, (some .int))
theorem cv_Mo_plainClaps : CV md_Mo_plainClaps 2 := ⟨wk_1181, wk_1180, wk_70, wk_82, ⟨by decide +kernel, by decide +kernel, by decide +kernel⟩, by decide⟩
abbrev md_Mo_claps : Md := (yX7_claps, cX7_claps, 3, (some .int))
theorem cv_Mo_claps : CV md_Mo_claps 2 := ⟨wk_1177, wk_1176, wk_69, wk_82, ⟨by decide +kernel, by decide +kernel, by decide +kernel⟩, by decide⟩
abbrev md_Mo_plainParts : Md := (yX7_plainParts, cX7_plainParts, 4, (some .int))
theorem cv_Mo_plainParts : CV md_Mo_plainParts 2 := ⟨wk_1189, wk_1188, wk_72, wk_82, ⟨by decide +kernel, by decide +kernel, by decide +kernel⟩, by decide⟩
abbrev md_Mo_partsBy : Md := (yX7_partsBy, cX7_partsBy, 4, (some .int))
theorem cv_Mo_partsBy : CV md_Mo_partsBy 2 := ⟨wk_1185, wk_1184, wk_71, wk_82, ⟨by decide +kernel, by decide +kernel, by decide +kernel⟩, by decide⟩
abbrev md_Mo_voice : Md := (yX7_voice, cX7_voice, 5, (some .int))
theorem cv_Mo_voice : CV md_Mo_voice 3 := ⟨wk_1145, wk_1143, wk_1144, wk_82, ⟨by decide +kernel, by decide +kernel, by decide +kernel⟩, by decide⟩
abbrev md_Mo_body : Md := (yX7_body, cX7_body, 2, (some .int))
theorem cv_Mo_body : CV md_Mo_body 1 := ⟨wk_1194, wk_1192, wk_1193, wk_82, ⟨by decide +kernel, by decide +kernel, by decide +kernel⟩, by decide⟩
abbrev md_Mo_isSheet : Md := (yX7_isSheet, cX7_isSheet, 1, (some .boolean))
theorem cs_Mo_isSheet : CS md_Mo_isSheet 1 := ⟨wk_1137, wk_1136, wk_82, ⟨by decide +kernel, by decide +kernel, by decide +kernel⟩, by decide⟩
abbrev md_Mo_sheet : Md := (yX7_sheet, cX7_sheet, 5, (some .int))
theorem cv_Mo_sheet : CV md_Mo_sheet 3 := ⟨wk_1198, wk_1196, wk_1197, wk_82, ⟨by decide +kernel, by decide +kernel, by decide +kernel⟩, by decide⟩
abbrev md_Mo_notThere : Md := (yX7_notThere, cX7_notThere, 2, (some .int))
theorem cv_Mo_notThere : CV md_Mo_notThere 1 := ⟨wk_1134, wk_1133, wk_60, wk_82, ⟨by decide +kernel, by decide +kernel, by decide +kernel⟩, by decide⟩
abbrev md_Mo_put : Md := (yX7_put, cX7_put, 5, (some .int))
theorem cv_Mo_put : CV md_Mo_put 3 := ⟨wk_1202, wk_1200, wk_1201, wk_82, ⟨by decide +kernel, by decide +kernel, by decide +kernel⟩, by decide⟩
abbrev md_Mo_notMoved : Md := (yX7_notMoved, cX7_notMoved, 7, (some .int))
theorem cv_Mo_notMoved : CV md_Mo_notMoved 5 := ⟨wk_1210, wk_1209, wk_73, wk_82, ⟨by decide +kernel, by decide +kernel, by decide +kernel⟩, by decide⟩
abbrev md_Mo_move : Md := (yX7_move, cX7_move, 9, (some .int))
theorem cv_Mo_move : CV md_Mo_move 5 := ⟨wk_1206, wk_1204, wk_1205, wk_82, ⟨by decide +kernel, by decide +kernel, by decide +kernel⟩, by decide⟩
abbrev md_Mo_breaths : Md := (yX7_breaths, cX7_breaths, 4, (some .int))
theorem cv_Mo_breaths : CV md_Mo_breaths 1 := ⟨wk_1214, wk_1212, wk_1213, wk_82, ⟨by decide +kernel, by decide +kernel, by decide +kernel⟩, by decide⟩
abbrev md_Mo_judge : Md := (yX7_judge, cX7_judge, 4, (some .int))
theorem cv_Mo_judge : CV md_Mo_judge 1 := ⟨wk_1218, wk_1216, wk_1217, wk_82, ⟨by decide +kernel, by decide +kernel, by decide +kernel⟩, by decide⟩
abbrev md_Mo_image : Md := (yX7_image, cX7_image, 1, (some .int))
theorem cv_Mo_image : CV md_Mo_image 0 := ⟨wk_1222, wk_1220, wk_1221, wk_82, ⟨by decide +kernel, by decide +kernel, by decide +kernel⟩, by decide⟩
abbrev md_Mo_restore : Md := (yX7_restore, cX7_restore, 1, (some .int))
theorem cv_Mo_restore : CV md_Mo_restore 0 := ⟨wk_1226, wk_1224, wk_1225, wk_82, ⟨by decide +kernel, by decide +kernel, by decide +kernel⟩, by decide⟩
abbrev md_Mo_tell : Md := (yX7_tell, cX7_tell, 2, (some .int))
theorem cv_Mo_tell : CV md_Mo_tell 1 := ⟨wk_1230, wk_1228, wk_1229, wk_82, ⟨by decide +kernel, by decide +kernel, by decide +kernel⟩, by decide⟩
abbrev md_Mo_check : Md := (yX7_check, cX7_check, 3, (some .int))
theorem cv_Mo_check : CV md_Mo_check 0 := ⟨wk_1234, wk_1232, wk_1233, wk_82, ⟨by decide +kernel, by decide +kernel, by decide +kernel⟩, by decide⟩
abbrev md_Mo_count : Md := (yX7_count, cX7_count, 2, (some .int))
theorem cv_Mo_count : CV md_Mo_count 1 := ⟨wk_1238, wk_1236, wk_1237, wk_82, ⟨by decide +kernel, by decide +kernel, by decide +kernel⟩, by decide⟩
abbrev md_Mo_told : Md := (yX7_told, cX7_told, 2, (some .int))
theorem cv_Mo_told : CV md_Mo_told 1 := ⟨wk_1242, wk_1240, wk_1241, wk_82, ⟨by decide +kernel, by decide +kernel, by decide +kernel⟩, by decide⟩
abbrev md_In_bitCount : Md := (yXI_bitCount, cXI_bitCount, 1, (some .int))
theorem cs_In_bitCount : CS md_In_bitCount 1 := ⟨wk_368, wk_367, wk_83, ⟨by decide +kernel, by decide +kernel, by decide +kernel⟩, by decide⟩
