theorem dX8_init_0 : decode cX8_init 0 = .ok (.aload_n 0, 1) := by decide +kernel
theorem dX8_init_1 : decode cX8_init 1 = .ok (.invokespecial 1, 3) := by decide +kernel
theorem dX8_init_4 : decode cX8_init 4 = .ok (.aload_n 0, 1) := by decide +kernel
theorem dX8_init_5 : decode cX8_init 5 = .ok (.sipush 633, 3) := by decide +kernel
theorem dX8_init_8 : decode cX8_init 8 = .ok (.newarray .int, 2) := by decide +kernel
theorem dX8_init_10 : decode cX8_init 10 = .ok (.putfield 7, 3) := by decide +kernel
theorem dX8_init_13 : decode cX8_init 13 = .ok (.aload_n 0, 1) := by decide +kernel
theorem dX8_init_14 : decode cX8_init 14 = .ok (.sipush 633, 3) := by decide +kernel
theorem dX8_init_17 : decode cX8_init 17 = .ok (.newarray .int, 2) := by decide +kernel
theorem dX8_init_19 : decode cX8_init 19 = .ok (.putfield 13, 3) := by decide +kernel
theorem dX8_init_22 : decode cX8_init 22 = .ok (.aload_n 0, 1) := by decide +kernel
theorem dX8_init_23 : decode cX8_init 23 = .ok (.sipush 633, 3) := by decide +kernel
theorem dX8_init_26 : decode cX8_init 26 = .ok (.newarray .int, 2) := by decide +kernel
theorem dX8_init_28 : decode cX8_init 28 = .ok (.putfield 16, 3) := by decide +kernel
theorem dX8_init_31 : decode cX8_init 31 = .ok (.aload_n 0, 1) := by decide +kernel
theorem dX8_init_32 : decode cX8_init 32 = .ok (.sipush 633, 3) := by decide +kernel
theorem dX8_init_35 : decode cX8_init 35 = .ok (.newarray .int, 2) := by decide +kernel
theorem dX8_init_37 : decode cX8_init 37 = .ok (.putfield 19, 3) := by decide +kernel
theorem dX8_init_40 : decode cX8_init 40 = .ok (.aload_n 0, 1) := by decide +kernel
theorem dX8_init_41 : decode cX8_init 41 = .ok (.bipush 7, 2) := by decide +kernel
theorem dX8_init_43 : decode cX8_init 43 = .ok (.newarray .int, 2) := by decide +kernel
theorem dX8_init_45 : decode cX8_init 45 = .ok (.putfield 22, 3) := by decide +kernel
theorem dX8_init_48 : decode cX8_init 48 = .ok (.aload_n 0, 1) := by decide +kernel
theorem dX8_init_49 : decode cX8_init 49 = .ok (.bipush 48, 2) := by decide +kernel
theorem dX8_init_51 : decode cX8_init 51 = .ok (.newarray .int, 2) := by decide +kernel
theorem dX8_init_53 : decode cX8_init 53 = .ok (.putfield 25, 3) := by decide +kernel
theorem dX8_init_56 : decode cX8_init 56 = .ok (.aload_n 0, 1) := by decide +kernel
theorem dX8_init_57 : decode cX8_init 57 = .ok (.bipush 120, 2) := by decide +kernel
theorem dX8_init_59 : decode cX8_init 59 = .ok (.newarray .int, 2) := by decide +kernel
theorem dX8_init_61 : decode cX8_init 61 = .ok (.putfield 28, 3) := by decide +kernel
theorem dX8_init_64 : decode cX8_init 64 = .ok (.aload_n 0, 1) := by decide +kernel
theorem dX8_init_65 : decode cX8_init 65 = .ok (.iconst 4, 1) := by decide +kernel
theorem dX8_init_66 : decode cX8_init 66 = .ok (.newarray .int, 2) := by decide +kernel
theorem dX8_init_68 : decode cX8_init 68 = .ok (.putfield 31, 3) := by decide +kernel
theorem dX8_init_71 : decode cX8_init 71 = .ok (.aload_n 0, 1) := by decide +kernel
theorem dX8_init_72 : decode cX8_init 72 = .ok (.iconst 4, 1) := by decide +kernel
theorem dX8_init_73 : decode cX8_init 73 = .ok (.newarray .int, 2) := by decide +kernel
theorem dX8_init_75 : decode cX8_init 75 = .ok (.putfield 34, 3) := by decide +kernel
theorem dX8_init_78 : decode cX8_init 78 = .ok (.aload_n 0, 1) := by decide +kernel
theorem dX8_init_79 : decode cX8_init 79 = .ok (.sipush 160, 3) := by decide +kernel
theorem dX8_init_82 : decode cX8_init 82 = .ok (.newarray .long, 2) := by decide +kernel
theorem dX8_init_84 : decode cX8_init 84 = .ok (.putfield 37, 3) := by decide +kernel
theorem dX8_init_87 : decode cX8_init 87 = .ok (.aload_n 0, 1) := by decide +kernel
theorem dX8_init_88 : decode cX8_init 88 = .ok (.bipush 40, 2) := by decide +kernel
theorem dX8_init_90 : decode cX8_init 90 = .ok (.newarray .long, 2) := by decide +kernel
theorem dX8_init_92 : decode cX8_init 92 = .ok (.putfield 41, 3) := by decide +kernel
theorem dX8_init_95 : decode cX8_init 95 = .ok (.return_, 1) := by decide +kernel
theorem dX8_in_0 : decode cX8_in 0 = .ok (.lload_n 0, 1) := by decide +kernel
theorem dX8_in_1 : decode cX8_in 1 = .ok (.lload_n 2, 1) := by decide +kernel
theorem dX8_in_2 : decode cX8_in 2 = .ok (.lcmp, 1) := by decide +kernel
theorem dX8_in_3 : decode cX8_in 3 = .ok (.ifCond .lt 14, 3) := by decide +kernel
theorem dX8_in_6 : decode cX8_in 6 = .ok (.lload_n 0, 1) := by decide +kernel
theorem dX8_in_7 : decode cX8_in 7 = .ok (.lload 4, 2) := by decide +kernel
theorem dX8_in_9 : decode cX8_in 9 = .ok (.lcmp, 1) := by decide +kernel
theorem dX8_in_10 : decode cX8_in 10 = .ok (.ifCond .gt 7, 3) := by decide +kernel
theorem dX8_in_13 : decode cX8_in 13 = .ok (.iconst 1, 1) := by decide +kernel
theorem dX8_in_14 : decode cX8_in 14 = .ok (.goto 4, 3) := by decide +kernel
theorem dX8_in_17 : decode cX8_in 17 = .ok (.iconst 0, 1) := by decide +kernel
theorem dX8_in_18 : decode cX8_in 18 = .ok (.ireturn, 1) := by decide +kernel
theorem dX8_finds_0 : decode cX8_finds 0 = .ok (.aload_n 0, 1) := by decide +kernel
theorem dX8_finds_1 : decode cX8_finds 1 = .ok (.getfield 22, 3) := by decide +kernel
theorem dX8_finds_4 : decode cX8_finds 4 = .ok (.ldc 44, 2) := by decide +kernel
theorem dX8_finds_6 : decode cX8_finds 6 = .ok (.iload_n 1, 1) := by decide +kernel
theorem dX8_finds_7 : decode cX8_finds 7 = .ok (.isub, 1) := by decide +kernel
theorem dX8_finds_8 : decode cX8_finds 8 = .ok (.dup2, 1) := by decide +kernel
theorem dX8_finds_9 : decode cX8_finds 9 = .ok (.iaload, 1) := by decide +kernel
theorem dX8_finds_10 : decode cX8_finds 10 = .ok (.iconst 1, 1) := by decide +kernel
theorem dX8_finds_11 : decode cX8_finds 11 = .ok (.iadd, 1) := by decide +kernel
theorem dX8_finds_12 : decode cX8_finds 12 = .ok (.iastore, 1) := by decide +kernel
theorem dX8_finds_13 : decode cX8_finds 13 = .ok (.iload_n 1, 1) := by decide +kernel
theorem dX8_finds_14 : decode cX8_finds 14 = .ok (.ireturn, 1) := by decide +kernel
theorem dX8_saves_0 : decode cX8_saves 0 = .ok (.iconst 0, 1) := by decide +kernel
theorem dX8_saves_1 : decode cX8_saves 1 = .ok (.istore_n 1, 1) := by decide +kernel
theorem dX8_saves_2 : decode cX8_saves 2 = .ok (.iload_n 1, 1) := by decide +kernel
theorem dX8_saves_3 : decode cX8_saves 3 = .ok (.sipush 633, 3) := by decide +kernel
theorem dX8_saves_6 : decode cX8_saves 6 = .ok (.if_icmp .ge 21, 3) := by decide +kernel
theorem dX8_saves_9 : decode cX8_saves 9 = .ok (.aload_n 0, 1) := by decide +kernel
theorem dX8_saves_10 : decode cX8_saves 10 = .ok (.getfield 16, 3) := by decide +kernel
theorem dX8_saves_13 : decode cX8_saves 13 = .ok (.iload_n 1, 1) := by decide +kernel
theorem dX8_saves_14 : decode cX8_saves 14 = .ok (.aload_n 0, 1) := by decide +kernel
theorem dX8_saves_15 : decode cX8_saves 15 = .ok (.getfield 7, 3) := by decide +kernel
theorem dX8_saves_18 : decode cX8_saves 18 = .ok (.iload_n 1, 1) := by decide +kernel
theorem dX8_saves_19 : decode cX8_saves 19 = .ok (.iaload, 1) := by decide +kernel
theorem dX8_saves_20 : decode cX8_saves 20 = .ok (.iastore, 1) := by decide +kernel
theorem dX8_saves_21 : decode cX8_saves 21 = .ok (.iinc 1 1, 3) := by decide +kernel
theorem dX8_saves_24 : decode cX8_saves 24 = .ok (.goto (-22), 3) := by decide +kernel
theorem dX8_saves_27 : decode cX8_saves 27 = .ok (.return_, 1) := by decide +kernel
theorem dX8_putsBack_0 : decode cX8_putsBack 0 = .ok (.iconst 0, 1) := by decide +kernel
theorem dX8_putsBack_1 : decode cX8_putsBack 1 = .ok (.istore_n 1, 1) := by decide +kernel
theorem dX8_putsBack_2 : decode cX8_putsBack 2 = .ok (.iload_n 1, 1) := by decide +kernel
theorem dX8_putsBack_3 : decode cX8_putsBack 3 = .ok (.sipush 633, 3) := by decide +kernel
theorem dX8_putsBack_6 : decode cX8_putsBack 6 = .ok (.if_icmp .ge 21, 3) := by decide +kernel
theorem dX8_putsBack_9 : decode cX8_putsBack 9 = .ok (.aload_n 0, 1) := by decide +kernel
theorem dX8_putsBack_10 : decode cX8_putsBack 10 = .ok (.getfield 7, 3) := by decide +kernel
theorem dX8_putsBack_13 : decode cX8_putsBack 13 = .ok (.iload_n 1, 1) := by decide +kernel
theorem dX8_putsBack_14 : decode cX8_putsBack 14 = .ok (.aload_n 0, 1) := by decide +kernel
theorem dX8_putsBack_15 : decode cX8_putsBack 15 = .ok (.getfield 16, 3) := by decide +kernel
theorem dX8_putsBack_18 : decode cX8_putsBack 18 = .ok (.iload_n 1, 1) := by decide +kernel
theorem dX8_putsBack_19 : decode cX8_putsBack 19 = .ok (.iaload, 1) := by decide +kernel
theorem dX8_putsBack_20 : decode cX8_putsBack 20 = .ok (.iastore, 1) := by decide +kernel
theorem dX8_putsBack_21 : decode cX8_putsBack 21 = .ok (.iinc 1 1, 3) := by decide +kernel
theorem dX8_putsBack_24 : decode cX8_putsBack 24 = .ok (.goto (-22), 3) := by decide +kernel
theorem dX8_putsBack_27 : decode cX8_putsBack 27 = .ok (.return_, 1) := by decide +kernel
theorem dX8_laysAside_0 : decode cX8_laysAside 0 = .ok (.iconst 0, 1) := by decide +kernel
theorem dX8_laysAside_1 : decode cX8_laysAside 1 = .ok (.istore_n 1, 1) := by decide +kernel
theorem dX8_laysAside_2 : decode cX8_laysAside 2 = .ok (.iload_n 1, 1) := by decide +kernel
theorem dX8_laysAside_3 : decode cX8_laysAside 3 = .ok (.sipush 633, 3) := by decide +kernel
theorem dX8_laysAside_6 : decode cX8_laysAside 6 = .ok (.if_icmp .ge 21, 3) := by decide +kernel
theorem dX8_laysAside_9 : decode cX8_laysAside 9 = .ok (.aload_n 0, 1) := by decide +kernel
theorem dX8_laysAside_10 : decode cX8_laysAside 10 = .ok (.getfield 19, 3) := by decide +kernel
theorem dX8_laysAside_13 : decode cX8_laysAside 13 = .ok (.iload_n 1, 1) := by decide +kernel
theorem dX8_laysAside_14 : decode cX8_laysAside 14 = .ok (.aload_n 0, 1) := by decide +kernel
theorem dX8_laysAside_15 : decode cX8_laysAside 15 = .ok (.getfield 7, 3) := by decide +kernel
theorem dX8_laysAside_18 : decode cX8_laysAside 18 = .ok (.iload_n 1, 1) := by decide +kernel
theorem dX8_laysAside_19 : decode cX8_laysAside 19 = .ok (.iaload, 1) := by decide +kernel
theorem dX8_laysAside_20 : decode cX8_laysAside 20 = .ok (.iastore, 1) := by decide +kernel
theorem dX8_laysAside_21 : decode cX8_laysAside 21 = .ok (.iinc 1 1, 3) := by decide +kernel
theorem dX8_laysAside_24 : decode cX8_laysAside 24 = .ok (.goto (-22), 3) := by decide +kernel
theorem dX8_laysAside_27 : decode cX8_laysAside 27 = .ok (.return_, 1) := by decide +kernel
theorem dX8_takesBack_0 : decode cX8_takesBack 0 = .ok (.iconst 0, 1) := by decide +kernel
theorem dX8_takesBack_1 : decode cX8_takesBack 1 = .ok (.istore_n 2, 1) := by decide +kernel
theorem dX8_takesBack_2 : decode cX8_takesBack 2 = .ok (.iload_n 2, 1) := by decide +kernel
theorem dX8_takesBack_3 : decode cX8_takesBack 3 = .ok (.sipush 633, 3) := by decide +kernel
theorem dX8_takesBack_6 : decode cX8_takesBack 6 = .ok (.if_icmp .ge 21, 3) := by decide +kernel
theorem dX8_takesBack_9 : decode cX8_takesBack 9 = .ok (.aload_n 0, 1) := by decide +kernel
theorem dX8_takesBack_10 : decode cX8_takesBack 10 = .ok (.getfield 7, 3) := by decide +kernel
theorem dX8_takesBack_13 : decode cX8_takesBack 13 = .ok (.iload_n 2, 1) := by decide +kernel
theorem dX8_takesBack_14 : decode cX8_takesBack 14 = .ok (.aload_n 0, 1) := by decide +kernel
theorem dX8_takesBack_15 : decode cX8_takesBack 15 = .ok (.getfield 19, 3) := by decide +kernel
theorem dX8_takesBack_18 : decode cX8_takesBack 18 = .ok (.iload_n 2, 1) := by decide +kernel
theorem dX8_takesBack_19 : decode cX8_takesBack 19 = .ok (.iaload, 1) := by decide +kernel
theorem dX8_takesBack_20 : decode cX8_takesBack 20 = .ok (.iastore, 1) := by decide +kernel
theorem dX8_takesBack_21 : decode cX8_takesBack 21 = .ok (.iinc 2 1, 3) := by decide +kernel
theorem dX8_takesBack_24 : decode cX8_takesBack 24 = .ok (.goto (-22), 3) := by decide +kernel
theorem dX8_takesBack_27 : decode cX8_takesBack 27 = .ok (.iload_n 1, 1) := by decide +kernel
theorem dX8_takesBack_28 : decode cX8_takesBack 28 = .ok (.ireturn, 1) := by decide +kernel
theorem dX8_becomes_0 : decode cX8_becomes 0 = .ok (.aload_n 0, 1) := by decide +kernel
theorem dX8_becomes_1 : decode cX8_becomes 1 = .ok (.getfield 7, 3) := by decide +kernel
theorem dX8_becomes_4 : decode cX8_becomes 4 = .ok (.iload_n 1, 1) := by decide +kernel
theorem dX8_becomes_5 : decode cX8_becomes 5 = .ok (.iaload, 1) := by decide +kernel
theorem dX8_becomes_6 : decode cX8_becomes 6 = .ok (.istore_n 3, 1) := by decide +kernel
theorem dX8_becomes_7 : decode cX8_becomes 7 = .ok (.aload_n 0, 1) := by decide +kernel
theorem dX8_becomes_8 : decode cX8_becomes 8 = .ok (.getfield 7, 3) := by decide +kernel
theorem dX8_becomes_11 : decode cX8_becomes 11 = .ok (.iload_n 1, 1) := by decide +kernel
theorem dX8_becomes_12 : decode cX8_becomes 12 = .ok (.iload_n 2, 1) := by decide +kernel
theorem dX8_becomes_13 : decode cX8_becomes 13 = .ok (.iastore, 1) := by decide +kernel
theorem dX8_becomes_14 : decode cX8_becomes 14 = .ok (.iload_n 3, 1) := by decide +kernel
theorem dX8_becomes_15 : decode cX8_becomes 15 = .ok (.ireturn, 1) := by decide +kernel
theorem dX8_isFlue_0 : decode cX8_isFlue 0 = .ok (.iload_n 1, 1) := by decide +kernel
theorem dX8_isFlue_1 : decode cX8_isFlue 1 = .ok (.i2l, 1) := by decide +kernel
theorem dX8_isFlue_2 : decode cX8_isFlue 2 = .ok (.lconst 0, 1) := by decide +kernel
theorem dX8_isFlue_3 : decode cX8_isFlue 3 = .ok (.aload_n 0, 1) := by decide +kernel
theorem dX8_isFlue_4 : decode cX8_isFlue 4 = .ok (.getfield 7, 3) := by decide +kernel
theorem dX8_isFlue_7 : decode cX8_isFlue 7 = .ok (.iconst 0, 1) := by decide +kernel
theorem dX8_isFlue_8 : decode cX8_isFlue 8 = .ok (.iaload, 1) := by decide +kernel
theorem dX8_isFlue_9 : decode cX8_isFlue 9 = .ok (.iconst 1, 1) := by decide +kernel
theorem dX8_isFlue_10 : decode cX8_isFlue 10 = .ok (.isub, 1) := by decide +kernel
theorem dX8_isFlue_11 : decode cX8_isFlue 11 = .ok (.i2l, 1) := by decide +kernel
theorem dX8_isFlue_12 : decode cX8_isFlue 12 = .ok (.invokestatic 45, 3) := by decide +kernel
theorem dX8_isFlue_15 : decode cX8_isFlue 15 = .ok (.ireturn, 1) := by decide +kernel
theorem dX8_isBend_0 : decode cX8_isBend 0 = .ok (.iload_n 0, 1) := by decide +kernel
theorem dX8_isBend_1 : decode cX8_isBend 1 = .ok (.i2l, 1) := by decide +kernel
theorem dX8_isBend_2 : decode cX8_isBend 2 = .ok (.lconst 0, 1) := by decide +kernel
theorem dX8_isBend_3 : decode cX8_isBend 3 = .ok (.ldc2_w 49, 3) := by decide +kernel
theorem dX8_isBend_6 : decode cX8_isBend 6 = .ok (.invokestatic 45, 3) := by decide +kernel
theorem dX8_isBend_9 : decode cX8_isBend 9 = .ok (.ireturn, 1) := by decide +kernel
theorem dX8_isKind_0 : decode cX8_isKind 0 = .ok (.iload_n 0, 1) := by decide +kernel
theorem dX8_isKind_1 : decode cX8_isKind 1 = .ok (.i2l, 1) := by decide +kernel
theorem dX8_isKind_2 : decode cX8_isKind 2 = .ok (.lconst 0, 1) := by decide +kernel
theorem dX8_isKind_3 : decode cX8_isKind 3 = .ok (.ldc2_w 51, 3) := by decide +kernel
theorem dX8_isKind_6 : decode cX8_isKind 6 = .ok (.invokestatic 45, 3) := by decide +kernel
theorem dX8_isKind_9 : decode cX8_isKind 9 = .ok (.ireturn, 1) := by decide +kernel
theorem dX8_isWord_0 : decode cX8_isWord 0 = .ok (.iload_n 0, 1) := by decide +kernel
theorem dX8_isWord_1 : decode cX8_isWord 1 = .ok (.i2l, 1) := by decide +kernel
theorem dX8_isWord_2 : decode cX8_isWord 2 = .ok (.lconst 0, 1) := by decide +kernel
theorem dX8_isWord_3 : decode cX8_isWord 3 = .ok (.ldc2_w 53, 3) := by decide +kernel
theorem dX8_isWord_6 : decode cX8_isWord 6 = .ok (.invokestatic 45, 3) := by decide +kernel
theorem dX8_isWord_9 : decode cX8_isWord 9 = .ok (.ireturn, 1) := by decide +kernel
theorem dX8_areWords_0 : decode cX8_areWords 0 = .ok (.iload_n 0, 1) := by decide +kernel
theorem dX8_areWords_1 : decode cX8_areWords 1 = .ok (.i2l, 1) := by decide +kernel
theorem dX8_areWords_2 : decode cX8_areWords 2 = .ok (.lconst 0, 1) := by decide +kernel
theorem dX8_areWords_3 : decode cX8_areWords 3 = .ok (.ldc2_w 55, 3) := by decide +kernel
theorem dX8_areWords_6 : decode cX8_areWords 6 = .ok (.invokestatic 45, 3) := by decide +kernel
theorem dX8_areWords_9 : decode cX8_areWords 9 = .ok (.ireturn, 1) := by decide +kernel
theorem dX8_isVoice_0 : decode cX8_isVoice 0 = .ok (.iload_n 0, 1) := by decide +kernel
theorem dX8_isVoice_1 : decode cX8_isVoice 1 = .ok (.i2l, 1) := by decide +kernel
theorem dX8_isVoice_2 : decode cX8_isVoice 2 = .ok (.lconst 0, 1) := by decide +kernel
theorem dX8_isVoice_3 : decode cX8_isVoice 3 = .ok (.ldc2_w 57, 3) := by decide +kernel
theorem dX8_isVoice_6 : decode cX8_isVoice 6 = .ok (.invokestatic 45, 3) := by decide +kernel
theorem dX8_isVoice_9 : decode cX8_isVoice 9 = .ok (.ireturn, 1) := by decide +kernel
theorem dX8_isStrength_0 : decode cX8_isStrength 0 = .ok (.iload_n 0, 1) := by decide +kernel
theorem dX8_isStrength_1 : decode cX8_isStrength 1 = .ok (.i2l, 1) := by decide +kernel
theorem dX8_isStrength_2 : decode cX8_isStrength 2 = .ok (.lconst 1, 1) := by decide +kernel
theorem dX8_isStrength_3 : decode cX8_isStrength 3 = .ok (.ldc2_w 57, 3) := by decide +kernel
theorem dX8_isStrength_6 : decode cX8_isStrength 6 = .ok (.invokestatic 45, 3) := by decide +kernel
theorem dX8_isStrength_9 : decode cX8_isStrength 9 = .ok (.ireturn, 1) := by decide +kernel
theorem dX8_kindOf_0 : decode cX8_kindOf 0 = .ok (.aload_n 0, 1) := by decide +kernel
theorem dX8_kindOf_1 : decode cX8_kindOf 1 = .ok (.getfield 7, 3) := by decide +kernel
theorem dX8_kindOf_4 : decode cX8_kindOf 4 = .ok (.iconst 3, 1) := by decide +kernel
theorem dX8_kindOf_5 : decode cX8_kindOf 5 = .ok (.iload_n 1, 1) := by decide +kernel
theorem dX8_kindOf_6 : decode cX8_kindOf 6 = .ok (.iadd, 1) := by decide +kernel
theorem dX8_kindOf_7 : decode cX8_kindOf 7 = .ok (.iaload, 1) := by decide +kernel
theorem dX8_kindOf_8 : decode cX8_kindOf 8 = .ok (.ireturn, 1) := by decide +kernel
theorem dX8_place_0 : decode cX8_place 0 = .ok (.bipush 8, 2) := by decide +kernel
theorem dX8_place_2 : decode cX8_place 2 = .ok (.iload_n 0, 1) := by decide +kernel
theorem dX8_place_3 : decode cX8_place 3 = .ok (.imul, 1) := by decide +kernel
theorem dX8_place_4 : decode cX8_place 4 = .ok (.iload_n 1, 1) := by decide +kernel
theorem dX8_place_5 : decode cX8_place 5 = .ok (.iadd, 1) := by decide +kernel
theorem dX8_place_6 : decode cX8_place 6 = .ok (.ireturn, 1) := by decide +kernel
theorem dX8_layers_0 : decode cX8_layers 0 = .ok (.aload_n 0, 1) := by decide +kernel
theorem dX8_layers_1 : decode cX8_layers 1 = .ok (.getfield 7, 3) := by decide +kernel
theorem dX8_layers_4 : decode cX8_layers 4 = .ok (.bipush 9, 2) := by decide +kernel
theorem dX8_layers_6 : decode cX8_layers 6 = .ok (.iload_n 1, 1) := by decide +kernel
theorem dX8_layers_7 : decode cX8_layers 7 = .ok (.iload_n 2, 1) := by decide +kernel
theorem dX8_layers_8 : decode cX8_layers 8 = .ok (.invokestatic 59, 3) := by decide +kernel
theorem dX8_layers_11 : decode cX8_layers 11 = .ok (.iadd, 1) := by decide +kernel
theorem dX8_layers_12 : decode cX8_layers 12 = .ok (.iaload, 1) := by decide +kernel
theorem dX8_layers_13 : decode cX8_layers 13 = .ok (.ireturn, 1) := by decide +kernel
theorem dX8_spot_0 : decode cX8_spot 0 = .ok (.bipush 6, 2) := by decide +kernel
theorem dX8_spot_2 : decode cX8_spot 2 = .ok (.iload_n 0, 1) := by decide +kernel
theorem dX8_spot_3 : decode cX8_spot 3 = .ok (.iload_n 1, 1) := by decide +kernel
theorem dX8_spot_4 : decode cX8_spot 4 = .ok (.invokestatic 59, 3) := by decide +kernel
theorem dX8_spot_7 : decode cX8_spot 7 = .ok (.imul, 1) := by decide +kernel
theorem dX8_spot_8 : decode cX8_spot 8 = .ok (.iload_n 2, 1) := by decide +kernel
theorem dX8_spot_9 : decode cX8_spot 9 = .ok (.iadd, 1) := by decide +kernel
theorem dX8_spot_10 : decode cX8_spot 10 = .ok (.ireturn, 1) := by decide +kernel
theorem dX8_adds_0 : decode cX8_adds 0 = .ok (.aload_n 0, 1) := by decide +kernel
theorem dX8_adds_1 : decode cX8_adds 1 = .ok (.getfield 7, 3) := by decide +kernel
theorem dX8_adds_4 : decode cX8_adds 4 = .ok (.iconst 0, 1) := by decide +kernel
theorem dX8_adds_5 : decode cX8_adds 5 = .ok (.iaload, 1) := by decide +kernel
theorem dX8_adds_6 : decode cX8_adds 6 = .ok (.istore_n 2, 1) := by decide +kernel
theorem dX8_adds_7 : decode cX8_adds 7 = .ok (.aload_n 0, 1) := by decide +kernel
theorem dX8_adds_8 : decode cX8_adds 8 = .ok (.getfield 7, 3) := by decide +kernel
theorem dX8_adds_11 : decode cX8_adds 11 = .ok (.iconst 3, 1) := by decide +kernel
theorem dX8_adds_12 : decode cX8_adds 12 = .ok (.iload_n 2, 1) := by decide +kernel
theorem dX8_adds_13 : decode cX8_adds 13 = .ok (.iadd, 1) := by decide +kernel
theorem dX8_adds_14 : decode cX8_adds 14 = .ok (.iload_n 1, 1) := by decide +kernel
theorem dX8_adds_15 : decode cX8_adds 15 = .ok (.iastore, 1) := by decide +kernel
theorem dX8_adds_16 : decode cX8_adds 16 = .ok (.iconst 0, 1) := by decide +kernel
theorem dX8_adds_17 : decode cX8_adds 17 = .ok (.istore_n 3, 1) := by decide +kernel
theorem dX8_adds_18 : decode cX8_adds 18 = .ok (.iload_n 3, 1) := by decide +kernel
theorem dX8_adds_19 : decode cX8_adds 19 = .ok (.bipush 8, 2) := by decide +kernel
theorem dX8_adds_21 : decode cX8_adds 21 = .ok (.if_icmp .ge 23, 3) := by decide +kernel
theorem dX8_adds_24 : decode cX8_adds 24 = .ok (.aload_n 0, 1) := by decide +kernel
theorem dX8_adds_25 : decode cX8_adds 25 = .ok (.getfield 7, 3) := by decide +kernel
theorem dX8_adds_28 : decode cX8_adds 28 = .ok (.bipush 9, 2) := by decide +kernel
theorem dX8_adds_30 : decode cX8_adds 30 = .ok (.iload_n 2, 1) := by decide +kernel
theorem dX8_adds_31 : decode cX8_adds 31 = .ok (.iload_n 3, 1) := by decide +kernel
theorem dX8_adds_32 : decode cX8_adds 32 = .ok (.invokestatic 59, 3) := by decide +kernel
theorem dX8_adds_35 : decode cX8_adds 35 = .ok (.iadd, 1) := by decide +kernel
theorem dX8_adds_36 : decode cX8_adds 36 = .ok (.iconst 0, 1) := by decide +kernel
theorem dX8_adds_37 : decode cX8_adds 37 = .ok (.iastore, 1) := by decide +kernel
theorem dX8_adds_38 : decode cX8_adds 38 = .ok (.iinc 3 1, 3) := by decide +kernel
theorem dX8_adds_41 : decode cX8_adds 41 = .ok (.goto (-23), 3) := by decide +kernel
theorem dX8_adds_44 : decode cX8_adds 44 = .ok (.aload_n 0, 1) := by decide +kernel
theorem dX8_adds_45 : decode cX8_adds 45 = .ok (.getfield 7, 3) := by decide +kernel
theorem dX8_adds_48 : decode cX8_adds 48 = .ok (.iconst 0, 1) := by decide +kernel
theorem dX8_adds_49 : decode cX8_adds 49 = .ok (.dup2, 1) := by decide +kernel
theorem dX8_adds_50 : decode cX8_adds 50 = .ok (.iaload, 1) := by decide +kernel
theorem dX8_adds_51 : decode cX8_adds 51 = .ok (.iconst 1, 1) := by decide +kernel
theorem dX8_adds_52 : decode cX8_adds 52 = .ok (.iadd, 1) := by decide +kernel
theorem dX8_adds_53 : decode cX8_adds 53 = .ok (.iastore, 1) := by decide +kernel
theorem dX8_adds_54 : decode cX8_adds 54 = .ok (.iload_n 2, 1) := by decide +kernel
theorem dX8_adds_55 : decode cX8_adds 55 = .ok (.ireturn, 1) := by decide +kernel
theorem dX8_flue_0 : decode cX8_flue 0 = .ok (.iload_n 1, 1) := by decide +kernel
theorem dX8_flue_1 : decode cX8_flue 1 = .ok (.invokestatic 63, 3) := by decide +kernel
theorem dX8_flue_4 : decode cX8_flue 4 = .ok (.ifCond .ne 10, 3) := by decide +kernel
theorem dX8_flue_7 : decode cX8_flue 7 = .ok (.aload_n 0, 1) := by decide +kernel
theorem dX8_flue_8 : decode cX8_flue 8 = .ok (.ldc 44, 2) := by decide +kernel
theorem dX8_flue_10 : decode cX8_flue 10 = .ok (.invokevirtual 67, 3) := by decide +kernel
theorem dX8_flue_13 : decode cX8_flue 13 = .ok (.ireturn, 1) := by decide +kernel
theorem dX8_flue_14 : decode cX8_flue 14 = .ok (.aload_n 0, 1) := by decide +kernel
theorem dX8_flue_15 : decode cX8_flue 15 = .ok (.getfield 7, 3) := by decide +kernel
theorem dX8_flue_18 : decode cX8_flue 18 = .ok (.iconst 0, 1) := by decide +kernel
theorem dX8_flue_19 : decode cX8_flue 19 = .ok (.iaload, 1) := by decide +kernel
theorem dX8_flue_20 : decode cX8_flue 20 = .ok (.bipush 6, 2) := by decide +kernel
theorem dX8_flue_22 : decode cX8_flue 22 = .ok (.if_icmp .ne 12, 3) := by decide +kernel
theorem dX8_flue_25 : decode cX8_flue 25 = .ok (.aload_n 0, 1) := by decide +kernel
theorem dX8_flue_26 : decode cX8_flue 26 = .ok (.ldc 71, 2) := by decide +kernel
theorem dX8_flue_28 : decode cX8_flue 28 = .ok (.invokevirtual 67, 3) := by decide +kernel
theorem dX8_flue_31 : decode cX8_flue 31 = .ok (.goto 8, 3) := by decide +kernel
theorem dX8_flue_34 : decode cX8_flue 34 = .ok (.aload_n 0, 1) := by decide +kernel
theorem dX8_flue_35 : decode cX8_flue 35 = .ok (.iload_n 1, 1) := by decide +kernel
theorem dX8_flue_36 : decode cX8_flue 36 = .ok (.invokevirtual 72, 3) := by decide +kernel
theorem dX8_flue_39 : decode cX8_flue 39 = .ok (.ireturn, 1) := by decide +kernel
theorem dX8_holds_0 : decode cX8_holds 0 = .ok (.aload_n 0, 1) := by decide +kernel
theorem dX8_holds_1 : decode cX8_holds 1 = .ok (.iload_n 1, 1) := by decide +kernel
theorem dX8_holds_2 : decode cX8_holds 2 = .ok (.invokevirtual 75, 3) := by decide +kernel
theorem dX8_holds_5 : decode cX8_holds 5 = .ok (.tableswitch 77 1 5 #[35, 49, 77, 51, 65], 35) := by decide +kernel
theorem dX8_holds_40 : decode cX8_holds 40 = .ok (.iload_n 2, 1) := by decide +kernel
theorem dX8_holds_41 : decode cX8_holds 41 = .ok (.iconst 2, 1) := by decide +kernel
theorem dX8_holds_42 : decode cX8_holds 42 = .ok (.irem, 1) := by decide +kernel
theorem dX8_holds_43 : decode cX8_holds 43 = .ok (.iconst 1, 1) := by decide +kernel
theorem dX8_holds_44 : decode cX8_holds 44 = .ok (.if_icmp .ne 7, 3) := by decide +kernel
theorem dX8_holds_47 : decode cX8_holds 47 = .ok (.iconst 4, 1) := by decide +kernel
theorem dX8_holds_48 : decode cX8_holds 48 = .ok (.goto 5, 3) := by decide +kernel
theorem dX8_holds_51 : decode cX8_holds 51 = .ok (.bipush 6, 2) := by decide +kernel
theorem dX8_holds_53 : decode cX8_holds 53 = .ok (.ireturn, 1) := by decide +kernel
theorem dX8_holds_54 : decode cX8_holds 54 = .ok (.iconst 3, 1) := by decide +kernel
theorem dX8_holds_55 : decode cX8_holds 55 = .ok (.ireturn, 1) := by decide +kernel
theorem dX8_holds_56 : decode cX8_holds 56 = .ok (.iload_n 2, 1) := by decide +kernel
theorem dX8_holds_57 : decode cX8_holds 57 = .ok (.iconst 2, 1) := by decide +kernel
theorem dX8_holds_58 : decode cX8_holds 58 = .ok (.irem, 1) := by decide +kernel
theorem dX8_holds_59 : decode cX8_holds 59 = .ok (.iconst 1, 1) := by decide +kernel
theorem dX8_holds_60 : decode cX8_holds 60 = .ok (.if_icmp .ne 7, 3) := by decide +kernel
theorem dX8_holds_63 : decode cX8_holds 63 = .ok (.iconst 5, 1) := by decide +kernel
theorem dX8_holds_64 : decode cX8_holds 64 = .ok (.goto 5, 3) := by decide +kernel
theorem dX8_holds_67 : decode cX8_holds 67 = .ok (.bipush 6, 2) := by decide +kernel
theorem dX8_holds_69 : decode cX8_holds 69 = .ok (.ireturn, 1) := by decide +kernel
theorem dX8_holds_70 : decode cX8_holds 70 = .ok (.iload_n 2, 1) := by decide +kernel
theorem dX8_holds_71 : decode cX8_holds 71 = .ok (.bipush 7, 2) := by decide +kernel
theorem dX8_holds_73 : decode cX8_holds 73 = .ok (.if_icmp .ne 7, 3) := by decide +kernel
theorem dX8_holds_76 : decode cX8_holds 76 = .ok (.iconst 5, 1) := by decide +kernel
theorem dX8_holds_77 : decode cX8_holds 77 = .ok (.goto 4, 3) := by decide +kernel
theorem dX8_holds_80 : decode cX8_holds 80 = .ok (.iconst 3, 1) := by decide +kernel
theorem dX8_holds_81 : decode cX8_holds 81 = .ok (.ireturn, 1) := by decide +kernel
theorem dX8_holds_82 : decode cX8_holds 82 = .ok (.bipush 6, 2) := by decide +kernel
theorem dX8_holds_84 : decode cX8_holds 84 = .ok (.ireturn, 1) := by decide +kernel
theorem dX8_isFull_0 : decode cX8_isFull 0 = .ok (.aload_n 0, 1) := by decide +kernel
theorem dX8_isFull_1 : decode cX8_isFull 1 = .ok (.iload_n 1, 1) := by decide +kernel
theorem dX8_isFull_2 : decode cX8_isFull 2 = .ok (.iload_n 2, 1) := by decide +kernel
theorem dX8_isFull_3 : decode cX8_isFull 3 = .ok (.invokevirtual 78, 3) := by decide +kernel
theorem dX8_isFull_6 : decode cX8_isFull 6 = .ok (.aload_n 0, 1) := by decide +kernel
theorem dX8_isFull_7 : decode cX8_isFull 7 = .ok (.iload_n 1, 1) := by decide +kernel
theorem dX8_isFull_8 : decode cX8_isFull 8 = .ok (.iload_n 2, 1) := by decide +kernel
theorem dX8_isFull_9 : decode cX8_isFull 9 = .ok (.invokevirtual 81, 3) := by decide +kernel
theorem dX8_isFull_12 : decode cX8_isFull 12 = .ok (.if_icmp .lt 7, 3) := by decide +kernel
theorem dX8_isFull_15 : decode cX8_isFull 15 = .ok (.iconst 1, 1) := by decide +kernel
theorem dX8_isFull_16 : decode cX8_isFull 16 = .ok (.goto 4, 3) := by decide +kernel
theorem dX8_isFull_19 : decode cX8_isFull 19 = .ok (.iconst 0, 1) := by decide +kernel
theorem dX8_isFull_20 : decode cX8_isFull 20 = .ok (.ireturn, 1) := by decide +kernel
theorem dX8_cakes_0 : decode cX8_cakes 0 = .ok (.aload_n 0, 1) := by decide +kernel
theorem dX8_cakes_1 : decode cX8_cakes 1 = .ok (.getfield 7, 3) := by decide +kernel
theorem dX8_cakes_4 : decode cX8_cakes 4 = .ok (.iconst 2, 1) := by decide +kernel
theorem dX8_cakes_5 : decode cX8_cakes 5 = .ok (.iaload, 1) := by decide +kernel
theorem dX8_cakes_6 : decode cX8_cakes 6 = .ok (.iconst 3, 1) := by decide +kernel
theorem dX8_cakes_7 : decode cX8_cakes 7 = .ok (.idiv, 1) := by decide +kernel
theorem dX8_cakes_8 : decode cX8_cakes 8 = .ok (.istore_n 2, 1) := by decide +kernel
theorem dX8_cakes_9 : decode cX8_cakes 9 = .ok (.aload_n 0, 1) := by decide +kernel
theorem dX8_cakes_10 : decode cX8_cakes 10 = .ok (.iload_n 1, 1) := by decide +kernel
theorem dX8_cakes_11 : decode cX8_cakes 11 = .ok (.invokevirtual 75, 3) := by decide +kernel
theorem dX8_cakes_14 : decode cX8_cakes 14 = .ok (.tableswitch 68 1 5 #[34, 68, 52, 34, 56], 34) := by decide +kernel
theorem dX8_cakes_48 : decode cX8_cakes 48 = .ok (.aload_n 0, 1) := by decide +kernel
theorem dX8_cakes_49 : decode cX8_cakes 49 = .ok (.getfield 7, 3) := by decide +kernel
theorem dX8_cakes_52 : decode cX8_cakes 52 = .ok (.iconst 2, 1) := by decide +kernel
theorem dX8_cakes_53 : decode cX8_cakes 53 = .ok (.iaload, 1) := by decide +kernel
theorem dX8_cakes_54 : decode cX8_cakes 54 = .ok (.iconst 5, 1) := by decide +kernel
theorem dX8_cakes_55 : decode cX8_cakes 55 = .ok (.if_icmp .le 9, 3) := by decide +kernel
theorem dX8_cakes_58 : decode cX8_cakes 58 = .ok (.iload_n 2, 1) := by decide +kernel
theorem dX8_cakes_59 : decode cX8_cakes 59 = .ok (.iconst 1, 1) := by decide +kernel
theorem dX8_cakes_60 : decode cX8_cakes 60 = .ok (.iadd, 1) := by decide +kernel
theorem dX8_cakes_61 : decode cX8_cakes 61 = .ok (.goto 4, 3) := by decide +kernel
theorem dX8_cakes_64 : decode cX8_cakes 64 = .ok (.iload_n 2, 1) := by decide +kernel
theorem dX8_cakes_65 : decode cX8_cakes 65 = .ok (.ireturn, 1) := by decide +kernel
theorem dX8_cakes_66 : decode cX8_cakes 66 = .ok (.iconst 2, 1) := by decide +kernel
theorem dX8_cakes_67 : decode cX8_cakes 67 = .ok (.iload_n 2, 1) := by decide +kernel
theorem dX8_cakes_68 : decode cX8_cakes 68 = .ok (.imul, 1) := by decide +kernel
theorem dX8_cakes_69 : decode cX8_cakes 69 = .ok (.ireturn, 1) := by decide +kernel
theorem dX8_cakes_70 : decode cX8_cakes 70 = .ok (.iload_n 2, 1) := by decide +kernel
theorem dX8_cakes_71 : decode cX8_cakes 71 = .ok (.ifCond .le 9, 3) := by decide +kernel
theorem dX8_cakes_74 : decode cX8_cakes 74 = .ok (.iload_n 2, 1) := by decide +kernel
theorem dX8_cakes_75 : decode cX8_cakes 75 = .ok (.iconst 1, 1) := by decide +kernel
theorem dX8_cakes_76 : decode cX8_cakes 76 = .ok (.isub, 1) := by decide +kernel
theorem dX8_cakes_77 : decode cX8_cakes 77 = .ok (.goto 4, 3) := by decide +kernel
theorem dX8_cakes_80 : decode cX8_cakes 80 = .ok (.iconst 0, 1) := by decide +kernel
theorem dX8_cakes_81 : decode cX8_cakes 81 = .ok (.ireturn, 1) := by decide +kernel
theorem dX8_cakes_82 : decode cX8_cakes 82 = .ok (.iload_n 2, 1) := by decide +kernel
theorem dX8_cakes_83 : decode cX8_cakes 83 = .ok (.ireturn, 1) := by decide +kernel
theorem dX8_layersOf_0 : decode cX8_layersOf 0 = .ok (.iconst 0, 1) := by decide +kernel
theorem dX8_layersOf_1 : decode cX8_layersOf 1 = .ok (.istore_n 2, 1) := by decide +kernel
theorem dX8_layersOf_2 : decode cX8_layersOf 2 = .ok (.iconst 0, 1) := by decide +kernel
theorem dX8_layersOf_3 : decode cX8_layersOf 3 = .ok (.istore_n 3, 1) := by decide +kernel
theorem dX8_layersOf_4 : decode cX8_layersOf 4 = .ok (.iload_n 3, 1) := by decide +kernel
theorem dX8_layersOf_5 : decode cX8_layersOf 5 = .ok (.bipush 8, 2) := by decide +kernel
theorem dX8_layersOf_7 : decode cX8_layersOf 7 = .ok (.if_icmp .ge 18, 3) := by decide +kernel
theorem dX8_layersOf_10 : decode cX8_layersOf 10 = .ok (.iload_n 2, 1) := by decide +kernel
theorem dX8_layersOf_11 : decode cX8_layersOf 11 = .ok (.aload_n 0, 1) := by decide +kernel
theorem dX8_layersOf_12 : decode cX8_layersOf 12 = .ok (.iload_n 1, 1) := by decide +kernel
theorem dX8_layersOf_13 : decode cX8_layersOf 13 = .ok (.iload_n 3, 1) := by decide +kernel
theorem dX8_layersOf_14 : decode cX8_layersOf 14 = .ok (.invokevirtual 78, 3) := by decide +kernel
theorem dX8_layersOf_17 : decode cX8_layersOf 17 = .ok (.iadd, 1) := by decide +kernel
theorem dX8_layersOf_18 : decode cX8_layersOf 18 = .ok (.istore_n 2, 1) := by decide +kernel
theorem dX8_layersOf_19 : decode cX8_layersOf 19 = .ok (.iinc 3 1, 3) := by decide +kernel
theorem dX8_layersOf_22 : decode cX8_layersOf 22 = .ok (.goto (-18), 3) := by decide +kernel
theorem dX8_layersOf_25 : decode cX8_layersOf 25 = .ok (.iload_n 2, 1) := by decide +kernel
theorem dX8_layersOf_26 : decode cX8_layersOf 26 = .ok (.ireturn, 1) := by decide +kernel
theorem dX8_wordsAt_0 : decode cX8_wordsAt 0 = .ok (.iconst 0, 1) := by decide +kernel
theorem dX8_wordsAt_1 : decode cX8_wordsAt 1 = .ok (.istore_n 3, 1) := by decide +kernel
theorem dX8_wordsAt_2 : decode cX8_wordsAt 2 = .ok (.iconst 0, 1) := by decide +kernel
theorem dX8_wordsAt_3 : decode cX8_wordsAt 3 = .ok (.istore 4, 2) := by decide +kernel
theorem dX8_wordsAt_5 : decode cX8_wordsAt 5 = .ok (.iload 4, 2) := by decide +kernel
theorem dX8_wordsAt_7 : decode cX8_wordsAt 7 = .ok (.aload_n 0, 1) := by decide +kernel
theorem dX8_wordsAt_8 : decode cX8_wordsAt 8 = .ok (.iload_n 1, 1) := by decide +kernel
theorem dX8_wordsAt_9 : decode cX8_wordsAt 9 = .ok (.iload_n 2, 1) := by decide +kernel
theorem dX8_wordsAt_10 : decode cX8_wordsAt 10 = .ok (.invokevirtual 78, 3) := by decide +kernel
theorem dX8_wordsAt_13 : decode cX8_wordsAt 13 = .ok (.if_icmp .ge 29, 3) := by decide +kernel
theorem dX8_wordsAt_16 : decode cX8_wordsAt 16 = .ok (.iload_n 3, 1) := by decide +kernel
theorem dX8_wordsAt_17 : decode cX8_wordsAt 17 = .ok (.iconst 1, 1) := by decide +kernel
theorem dX8_wordsAt_18 : decode cX8_wordsAt 18 = .ok (.aload_n 0, 1) := by decide +kernel
theorem dX8_wordsAt_19 : decode cX8_wordsAt 19 = .ok (.getfield 7, 3) := by decide +kernel
theorem dX8_wordsAt_22 : decode cX8_wordsAt 22 = .ok (.bipush 57, 2) := by decide +kernel
theorem dX8_wordsAt_24 : decode cX8_wordsAt 24 = .ok (.iload_n 1, 1) := by decide +kernel
theorem dX8_wordsAt_25 : decode cX8_wordsAt 25 = .ok (.iload_n 2, 1) := by decide +kernel
theorem dX8_wordsAt_26 : decode cX8_wordsAt 26 = .ok (.iload 4, 2) := by decide +kernel
theorem dX8_wordsAt_28 : decode cX8_wordsAt 28 = .ok (.invokestatic 84, 3) := by decide +kernel
theorem dX8_wordsAt_31 : decode cX8_wordsAt 31 = .ok (.iadd, 1) := by decide +kernel
theorem dX8_wordsAt_32 : decode cX8_wordsAt 32 = .ok (.iaload, 1) := by decide +kernel
theorem dX8_wordsAt_33 : decode cX8_wordsAt 33 = .ok (.ishl, 1) := by decide +kernel
theorem dX8_wordsAt_34 : decode cX8_wordsAt 34 = .ok (.ior, 1) := by decide +kernel
theorem dX8_wordsAt_35 : decode cX8_wordsAt 35 = .ok (.istore_n 3, 1) := by decide +kernel
theorem dX8_wordsAt_36 : decode cX8_wordsAt 36 = .ok (.iinc 4 1, 3) := by decide +kernel
theorem dX8_wordsAt_39 : decode cX8_wordsAt 39 = .ok (.goto (-34), 3) := by decide +kernel
theorem dX8_wordsAt_42 : decode cX8_wordsAt 42 = .ok (.iload_n 3, 1) := by decide +kernel
theorem dX8_wordsAt_43 : decode cX8_wordsAt 43 = .ok (.ireturn, 1) := by decide +kernel
theorem dX8_wordsOf_0 : decode cX8_wordsOf 0 = .ok (.iconst 0, 1) := by decide +kernel
theorem dX8_wordsOf_1 : decode cX8_wordsOf 1 = .ok (.istore_n 2, 1) := by decide +kernel
theorem dX8_wordsOf_2 : decode cX8_wordsOf 2 = .ok (.iconst 0, 1) := by decide +kernel
theorem dX8_wordsOf_3 : decode cX8_wordsOf 3 = .ok (.istore_n 3, 1) := by decide +kernel
theorem dX8_wordsOf_4 : decode cX8_wordsOf 4 = .ok (.iload_n 3, 1) := by decide +kernel
theorem dX8_wordsOf_5 : decode cX8_wordsOf 5 = .ok (.bipush 8, 2) := by decide +kernel
theorem dX8_wordsOf_7 : decode cX8_wordsOf 7 = .ok (.if_icmp .ge 18, 3) := by decide +kernel
theorem dX8_wordsOf_10 : decode cX8_wordsOf 10 = .ok (.iload_n 2, 1) := by decide +kernel
theorem dX8_wordsOf_11 : decode cX8_wordsOf 11 = .ok (.aload_n 0, 1) := by decide +kernel
theorem dX8_wordsOf_12 : decode cX8_wordsOf 12 = .ok (.iload_n 1, 1) := by decide +kernel
theorem dX8_wordsOf_13 : decode cX8_wordsOf 13 = .ok (.iload_n 3, 1) := by decide +kernel
theorem dX8_wordsOf_14 : decode cX8_wordsOf 14 = .ok (.invokevirtual 88, 3) := by decide +kernel
theorem dX8_wordsOf_17 : decode cX8_wordsOf 17 = .ok (.ior, 1) := by decide +kernel
theorem dX8_wordsOf_18 : decode cX8_wordsOf 18 = .ok (.istore_n 2, 1) := by decide +kernel
theorem dX8_wordsOf_19 : decode cX8_wordsOf 19 = .ok (.iinc 3 1, 3) := by decide +kernel
theorem dX8_wordsOf_22 : decode cX8_wordsOf 22 = .ok (.goto (-18), 3) := by decide +kernel
theorem dX8_wordsOf_25 : decode cX8_wordsOf 25 = .ok (.iload_n 2, 1) := by decide +kernel
theorem dX8_wordsOf_26 : decode cX8_wordsOf 26 = .ok (.ireturn, 1) := by decide +kernel
theorem dX8_emptyBends_0 : decode cX8_emptyBends 0 = .ok (.iconst 0, 1) := by decide +kernel
theorem dX8_emptyBends_1 : decode cX8_emptyBends 1 = .ok (.istore_n 2, 1) := by decide +kernel
theorem dX8_emptyBends_2 : decode cX8_emptyBends 2 = .ok (.iconst 0, 1) := by decide +kernel
theorem dX8_emptyBends_3 : decode cX8_emptyBends 3 = .ok (.istore_n 3, 1) := by decide +kernel
theorem dX8_emptyBends_4 : decode cX8_emptyBends 4 = .ok (.iload_n 3, 1) := by decide +kernel
theorem dX8_emptyBends_5 : decode cX8_emptyBends 5 = .ok (.bipush 8, 2) := by decide +kernel
theorem dX8_emptyBends_7 : decode cX8_emptyBends 7 = .ok (.if_icmp .ge 28, 3) := by decide +kernel
theorem dX8_emptyBends_10 : decode cX8_emptyBends 10 = .ok (.iload_n 2, 1) := by decide +kernel
theorem dX8_emptyBends_11 : decode cX8_emptyBends 11 = .ok (.aload_n 0, 1) := by decide +kernel
theorem dX8_emptyBends_12 : decode cX8_emptyBends 12 = .ok (.iload_n 1, 1) := by decide +kernel
theorem dX8_emptyBends_13 : decode cX8_emptyBends 13 = .ok (.iload_n 3, 1) := by decide +kernel
theorem dX8_emptyBends_14 : decode cX8_emptyBends 14 = .ok (.invokevirtual 78, 3) := by decide +kernel
theorem dX8_emptyBends_17 : decode cX8_emptyBends 17 = .ok (.ifCond .ne 9, 3) := by decide +kernel
theorem dX8_emptyBends_20 : decode cX8_emptyBends 20 = .ok (.iconst 1, 1) := by decide +kernel
theorem dX8_emptyBends_21 : decode cX8_emptyBends 21 = .ok (.iload_n 3, 1) := by decide +kernel
theorem dX8_emptyBends_22 : decode cX8_emptyBends 22 = .ok (.ishl, 1) := by decide +kernel
theorem dX8_emptyBends_23 : decode cX8_emptyBends 23 = .ok (.goto 4, 3) := by decide +kernel
theorem dX8_emptyBends_26 : decode cX8_emptyBends 26 = .ok (.iconst 0, 1) := by decide +kernel
theorem dX8_emptyBends_27 : decode cX8_emptyBends 27 = .ok (.ior, 1) := by decide +kernel
theorem dX8_emptyBends_28 : decode cX8_emptyBends 28 = .ok (.istore_n 2, 1) := by decide +kernel
theorem dX8_emptyBends_29 : decode cX8_emptyBends 29 = .ok (.iinc 3 1, 3) := by decide +kernel
theorem dX8_emptyBends_32 : decode cX8_emptyBends 32 = .ok (.goto (-28), 3) := by decide +kernel
theorem dX8_emptyBends_35 : decode cX8_emptyBends 35 = .ok (.iload_n 2, 1) := by decide +kernel
theorem dX8_emptyBends_36 : decode cX8_emptyBends 36 = .ok (.ireturn, 1) := by decide +kernel
theorem dX8_of_0 : decode cX8_of 0 = .ok (.aload_n 0, 1) := by decide +kernel
theorem dX8_of_1 : decode cX8_of 1 = .ok (.iload_n 1, 1) := by decide +kernel
theorem dX8_of_2 : decode cX8_of 2 = .ok (.invokevirtual 91, 3) := by decide +kernel
theorem dX8_of_5 : decode cX8_of 5 = .ok (.ifCond .eq 15, 3) := by decide +kernel
theorem dX8_of_8 : decode cX8_of 8 = .ok (.iload_n 2, 1) := by decide +kernel
theorem dX8_of_9 : decode cX8_of 9 = .ok (.i2l, 1) := by decide +kernel
theorem dX8_of_10 : decode cX8_of 10 = .ok (.lconst 0, 1) := by decide +kernel
theorem dX8_of_11 : decode cX8_of 11 = .ok (.ldc2_w 94, 3) := by decide +kernel
theorem dX8_of_14 : decode cX8_of 14 = .ok (.invokestatic 45, 3) := by decide +kernel
theorem dX8_of_17 : decode cX8_of 17 = .ok (.ifCond .ne 10, 3) := by decide +kernel
theorem dX8_of_20 : decode cX8_of 20 = .ok (.aload_n 0, 1) := by decide +kernel
theorem dX8_of_21 : decode cX8_of 21 = .ok (.ldc 44, 2) := by decide +kernel
theorem dX8_of_23 : decode cX8_of 23 = .ok (.invokevirtual 67, 3) := by decide +kernel
theorem dX8_of_26 : decode cX8_of 26 = .ok (.ireturn, 1) := by decide +kernel
theorem dX8_of_27 : decode cX8_of 27 = .ok (.iload_n 2, 1) := by decide +kernel
theorem dX8_of_28 : decode cX8_of 28 = .ok (.tableswitch 56 0 3 #[32, 38, 44, 50], 32) := by decide +kernel
theorem dX8_of_60 : decode cX8_of 60 = .ok (.aload_n 0, 1) := by decide +kernel
theorem dX8_of_61 : decode cX8_of 61 = .ok (.iload_n 1, 1) := by decide +kernel
theorem dX8_of_62 : decode cX8_of 62 = .ok (.invokevirtual 75, 3) := by decide +kernel
theorem dX8_of_65 : decode cX8_of 65 = .ok (.ireturn, 1) := by decide +kernel
theorem dX8_of_66 : decode cX8_of 66 = .ok (.aload_n 0, 1) := by decide +kernel
theorem dX8_of_67 : decode cX8_of 67 = .ok (.iload_n 1, 1) := by decide +kernel
theorem dX8_of_68 : decode cX8_of 68 = .ok (.invokevirtual 96, 3) := by decide +kernel
theorem dX8_of_71 : decode cX8_of 71 = .ok (.ireturn, 1) := by decide +kernel
theorem dX8_of_72 : decode cX8_of 72 = .ok (.aload_n 0, 1) := by decide +kernel
theorem dX8_of_73 : decode cX8_of 73 = .ok (.iload_n 1, 1) := by decide +kernel
theorem dX8_of_74 : decode cX8_of 74 = .ok (.invokevirtual 99, 3) := by decide +kernel
theorem dX8_of_77 : decode cX8_of 77 = .ok (.ireturn, 1) := by decide +kernel
theorem dX8_of_78 : decode cX8_of 78 = .ok (.aload_n 0, 1) := by decide +kernel
theorem dX8_of_79 : decode cX8_of 79 = .ok (.iload_n 1, 1) := by decide +kernel
theorem dX8_of_80 : decode cX8_of 80 = .ok (.invokevirtual 102, 3) := by decide +kernel
theorem dX8_of_83 : decode cX8_of 83 = .ok (.ireturn, 1) := by decide +kernel
theorem dX8_of_84 : decode cX8_of 84 = .ok (.aload_n 0, 1) := by decide +kernel
theorem dX8_of_85 : decode cX8_of 85 = .ok (.iload_n 1, 1) := by decide +kernel
theorem dX8_of_86 : decode cX8_of 86 = .ok (.invokevirtual 105, 3) := by decide +kernel
theorem dX8_of_89 : decode cX8_of 89 = .ok (.ireturn, 1) := by decide +kernel
theorem dX8_bend_0 : decode cX8_bend 0 = .ok (.aload_n 0, 1) := by decide +kernel
theorem dX8_bend_1 : decode cX8_bend 1 = .ok (.iload_n 1, 1) := by decide +kernel
theorem dX8_bend_2 : decode cX8_bend 2 = .ok (.invokevirtual 91, 3) := by decide +kernel
theorem dX8_bend_5 : decode cX8_bend 5 = .ok (.ifCond .eq 22, 3) := by decide +kernel
theorem dX8_bend_8 : decode cX8_bend 8 = .ok (.iload_n 2, 1) := by decide +kernel
theorem dX8_bend_9 : decode cX8_bend 9 = .ok (.invokestatic 108, 3) := by decide +kernel
theorem dX8_bend_12 : decode cX8_bend 12 = .ok (.ifCond .eq 15, 3) := by decide +kernel
theorem dX8_bend_15 : decode cX8_bend 15 = .ok (.iload_n 3, 1) := by decide +kernel
theorem dX8_bend_16 : decode cX8_bend 16 = .ok (.i2l, 1) := by decide +kernel
theorem dX8_bend_17 : decode cX8_bend 17 = .ok (.lconst 0, 1) := by decide +kernel
theorem dX8_bend_18 : decode cX8_bend 18 = .ok (.ldc2_w 111, 3) := by decide +kernel
theorem dX8_bend_21 : decode cX8_bend 21 = .ok (.invokestatic 45, 3) := by decide +kernel
theorem dX8_bend_24 : decode cX8_bend 24 = .ok (.ifCond .ne 10, 3) := by decide +kernel
theorem dX8_bend_27 : decode cX8_bend 27 = .ok (.aload_n 0, 1) := by decide +kernel
theorem dX8_bend_28 : decode cX8_bend 28 = .ok (.ldc 44, 2) := by decide +kernel
theorem dX8_bend_30 : decode cX8_bend 30 = .ok (.invokevirtual 67, 3) := by decide +kernel
theorem dX8_bend_33 : decode cX8_bend 33 = .ok (.ireturn, 1) := by decide +kernel
theorem dX8_bend_34 : decode cX8_bend 34 = .ok (.iload_n 3, 1) := by decide +kernel
theorem dX8_bend_35 : decode cX8_bend 35 = .ok (.ifCond .ne 12, 3) := by decide +kernel
theorem dX8_bend_38 : decode cX8_bend 38 = .ok (.aload_n 0, 1) := by decide +kernel
theorem dX8_bend_39 : decode cX8_bend 39 = .ok (.iload_n 1, 1) := by decide +kernel
theorem dX8_bend_40 : decode cX8_bend 40 = .ok (.iload_n 2, 1) := by decide +kernel
theorem dX8_bend_41 : decode cX8_bend 41 = .ok (.invokevirtual 78, 3) := by decide +kernel
theorem dX8_bend_44 : decode cX8_bend 44 = .ok (.goto 23, 3) := by decide +kernel
theorem dX8_bend_47 : decode cX8_bend 47 = .ok (.iload_n 3, 1) := by decide +kernel
theorem dX8_bend_48 : decode cX8_bend 48 = .ok (.iconst 1, 1) := by decide +kernel
theorem dX8_bend_49 : decode cX8_bend 49 = .ok (.if_icmp .ne 12, 3) := by decide +kernel
theorem dX8_bend_52 : decode cX8_bend 52 = .ok (.aload_n 0, 1) := by decide +kernel
theorem dX8_bend_53 : decode cX8_bend 53 = .ok (.iload_n 1, 1) := by decide +kernel
theorem dX8_bend_54 : decode cX8_bend 54 = .ok (.iload_n 2, 1) := by decide +kernel
theorem dX8_bend_55 : decode cX8_bend 55 = .ok (.invokevirtual 81, 3) := by decide +kernel
theorem dX8_bend_58 : decode cX8_bend 58 = .ok (.goto 9, 3) := by decide +kernel
theorem dX8_bend_61 : decode cX8_bend 61 = .ok (.aload_n 0, 1) := by decide +kernel
theorem dX8_bend_62 : decode cX8_bend 62 = .ok (.iload_n 1, 1) := by decide +kernel
theorem dX8_bend_63 : decode cX8_bend 63 = .ok (.iload_n 2, 1) := by decide +kernel
theorem dX8_bend_64 : decode cX8_bend 64 = .ok (.invokevirtual 88, 3) := by decide +kernel
theorem dX8_bend_67 : decode cX8_bend 67 = .ok (.ireturn, 1) := by decide +kernel
theorem dX8_layer_0 : decode cX8_layer 0 = .ok (.aload_n 0, 1) := by decide +kernel
theorem dX8_layer_1 : decode cX8_layer 1 = .ok (.iload_n 1, 1) := by decide +kernel
theorem dX8_layer_2 : decode cX8_layer 2 = .ok (.invokevirtual 91, 3) := by decide +kernel
theorem dX8_layer_5 : decode cX8_layer 5 = .ok (.ifCond .eq 21, 3) := by decide +kernel
theorem dX8_layer_8 : decode cX8_layer 8 = .ok (.iload_n 2, 1) := by decide +kernel
theorem dX8_layer_9 : decode cX8_layer 9 = .ok (.invokestatic 108, 3) := by decide +kernel
theorem dX8_layer_12 : decode cX8_layer 12 = .ok (.ifCond .eq 14, 3) := by decide +kernel
theorem dX8_layer_15 : decode cX8_layer 15 = .ok (.iload 4, 2) := by decide +kernel
theorem dX8_layer_17 : decode cX8_layer 17 = .ok (.i2l, 1) := by decide +kernel
theorem dX8_layer_18 : decode cX8_layer 18 = .ok (.lconst 0, 1) := by decide +kernel
theorem dX8_layer_19 : decode cX8_layer 19 = .ok (.lconst 1, 1) := by decide +kernel
theorem dX8_layer_20 : decode cX8_layer 20 = .ok (.invokestatic 45, 3) := by decide +kernel
theorem dX8_layer_23 : decode cX8_layer 23 = .ok (.ifCond .ne 10, 3) := by decide +kernel
theorem dX8_layer_26 : decode cX8_layer 26 = .ok (.aload_n 0, 1) := by decide +kernel
theorem dX8_layer_27 : decode cX8_layer 27 = .ok (.ldc 44, 2) := by decide +kernel
theorem dX8_layer_29 : decode cX8_layer 29 = .ok (.invokevirtual 67, 3) := by decide +kernel
theorem dX8_layer_32 : decode cX8_layer 32 = .ok (.ireturn, 1) := by decide +kernel
theorem dX8_layer_33 : decode cX8_layer 33 = .ok (.iload_n 3, 1) := by decide +kernel
theorem dX8_layer_34 : decode cX8_layer 34 = .ok (.i2l, 1) := by decide +kernel
theorem dX8_layer_35 : decode cX8_layer 35 = .ok (.lconst 0, 1) := by decide +kernel
theorem dX8_layer_36 : decode cX8_layer 36 = .ok (.aload_n 0, 1) := by decide +kernel
theorem dX8_layer_37 : decode cX8_layer 37 = .ok (.iload_n 1, 1) := by decide +kernel
theorem dX8_layer_38 : decode cX8_layer 38 = .ok (.iload_n 2, 1) := by decide +kernel
theorem dX8_layer_39 : decode cX8_layer 39 = .ok (.invokevirtual 78, 3) := by decide +kernel
theorem dX8_layer_42 : decode cX8_layer 42 = .ok (.iconst 1, 1) := by decide +kernel
theorem dX8_layer_43 : decode cX8_layer 43 = .ok (.isub, 1) := by decide +kernel
theorem dX8_layer_44 : decode cX8_layer 44 = .ok (.i2l, 1) := by decide +kernel
theorem dX8_layer_45 : decode cX8_layer 45 = .ok (.invokestatic 45, 3) := by decide +kernel
theorem dX8_layer_48 : decode cX8_layer 48 = .ok (.ifCond .ne 10, 3) := by decide +kernel
theorem dX8_layer_51 : decode cX8_layer 51 = .ok (.aload_n 0, 1) := by decide +kernel
theorem dX8_layer_52 : decode cX8_layer 52 = .ok (.ldc 113, 2) := by decide +kernel
theorem dX8_layer_54 : decode cX8_layer 54 = .ok (.invokevirtual 67, 3) := by decide +kernel
theorem dX8_layer_57 : decode cX8_layer 57 = .ok (.ireturn, 1) := by decide +kernel
theorem dX8_layer_58 : decode cX8_layer 58 = .ok (.aload_n 0, 1) := by decide +kernel
theorem dX8_layer_59 : decode cX8_layer 59 = .ok (.getfield 7, 3) := by decide +kernel
theorem dX8_layer_62 : decode cX8_layer 62 = .ok (.iload 4, 2) := by decide +kernel
theorem dX8_layer_64 : decode cX8_layer 64 = .ok (.ifCond .ne 8, 3) := by decide +kernel
theorem dX8_layer_67 : decode cX8_layer 67 = .ok (.bipush 57, 2) := by decide +kernel
theorem dX8_layer_69 : decode cX8_layer 69 = .ok (.goto 6, 3) := by decide +kernel
theorem dX8_layer_72 : decode cX8_layer 72 = .ok (.sipush 345, 3) := by decide +kernel
theorem dX8_layer_75 : decode cX8_layer 75 = .ok (.iload_n 1, 1) := by decide +kernel
theorem dX8_layer_76 : decode cX8_layer 76 = .ok (.iload_n 2, 1) := by decide +kernel
theorem dX8_layer_77 : decode cX8_layer 77 = .ok (.aload_n 0, 1) := by decide +kernel
theorem dX8_layer_78 : decode cX8_layer 78 = .ok (.iload_n 1, 1) := by decide +kernel
theorem dX8_layer_79 : decode cX8_layer 79 = .ok (.iload_n 2, 1) := by decide +kernel
theorem dX8_layer_80 : decode cX8_layer 80 = .ok (.invokevirtual 78, 3) := by decide +kernel
theorem dX8_layer_83 : decode cX8_layer 83 = .ok (.iconst 1, 1) := by decide +kernel
theorem dX8_layer_84 : decode cX8_layer 84 = .ok (.isub, 1) := by decide +kernel
theorem dX8_layer_85 : decode cX8_layer 85 = .ok (.iload_n 3, 1) := by decide +kernel
theorem dX8_layer_86 : decode cX8_layer 86 = .ok (.isub, 1) := by decide +kernel
theorem dX8_layer_87 : decode cX8_layer 87 = .ok (.invokestatic 84, 3) := by decide +kernel
theorem dX8_layer_90 : decode cX8_layer 90 = .ok (.iadd, 1) := by decide +kernel
theorem dX8_layer_91 : decode cX8_layer 91 = .ok (.iaload, 1) := by decide +kernel
theorem dX8_layer_92 : decode cX8_layer 92 = .ok (.ireturn, 1) := by decide +kernel
theorem dX8_turn_0 : decode cX8_turn 0 = .ok (.aload_n 0, 1) := by decide +kernel
theorem dX8_turn_1 : decode cX8_turn 1 = .ok (.iload_n 1, 1) := by decide +kernel
theorem dX8_turn_2 : decode cX8_turn 2 = .ok (.invokevirtual 91, 3) := by decide +kernel
theorem dX8_turn_5 : decode cX8_turn 5 = .ok (.ifCond .eq 21, 3) := by decide +kernel
theorem dX8_turn_8 : decode cX8_turn 8 = .ok (.iload_n 2, 1) := by decide +kernel
theorem dX8_turn_9 : decode cX8_turn 9 = .ok (.invokestatic 63, 3) := by decide +kernel
theorem dX8_turn_12 : decode cX8_turn 12 = .ok (.ifCond .eq 14, 3) := by decide +kernel
theorem dX8_turn_15 : decode cX8_turn 15 = .ok (.aload_n 0, 1) := by decide +kernel
theorem dX8_turn_16 : decode cX8_turn 16 = .ok (.iconst 3, 1) := by decide +kernel
theorem dX8_turn_17 : decode cX8_turn 17 = .ok (.iload_n 1, 1) := by decide +kernel
theorem dX8_turn_18 : decode cX8_turn 18 = .ok (.iadd, 1) := by decide +kernel
theorem dX8_turn_19 : decode cX8_turn 19 = .ok (.iload_n 2, 1) := by decide +kernel
theorem dX8_turn_20 : decode cX8_turn 20 = .ok (.invokevirtual 114, 3) := by decide +kernel
theorem dX8_turn_23 : decode cX8_turn 23 = .ok (.goto 9, 3) := by decide +kernel
theorem dX8_turn_26 : decode cX8_turn 26 = .ok (.aload_n 0, 1) := by decide +kernel
theorem dX8_turn_27 : decode cX8_turn 27 = .ok (.ldc 44, 2) := by decide +kernel
theorem dX8_turn_29 : decode cX8_turn 29 = .ok (.invokevirtual 67, 3) := by decide +kernel
theorem dX8_turn_32 : decode cX8_turn 32 = .ok (.ireturn, 1) := by decide +kernel
theorem dX8_isUnder_0 : decode cX8_isUnder 0 = .ok (.iload_n 1, 1) := by decide +kernel
theorem dX8_isUnder_1 : decode cX8_isUnder 1 = .ok (.ifCond .eq 20, 3) := by decide +kernel
theorem dX8_isUnder_4 : decode cX8_isUnder 4 = .ok (.iload_n 0, 1) := by decide +kernel
theorem dX8_isUnder_5 : decode cX8_isUnder 5 = .ok (.iload_n 1, 1) := by decide +kernel
theorem dX8_isUnder_6 : decode cX8_isUnder 6 = .ok (.if_icmp .eq 15, 3) := by decide +kernel
theorem dX8_isUnder_9 : decode cX8_isUnder 9 = .ok (.iload_n 0, 1) := by decide +kernel
theorem dX8_isUnder_10 : decode cX8_isUnder 10 = .ok (.iconst 3, 1) := by decide +kernel
theorem dX8_isUnder_11 : decode cX8_isUnder 11 = .ok (.if_icmp .le 14, 3) := by decide +kernel
theorem dX8_isUnder_14 : decode cX8_isUnder 14 = .ok (.iload_n 0, 1) := by decide +kernel
theorem dX8_isUnder_15 : decode cX8_isUnder 15 = .ok (.iconst 3, 1) := by decide +kernel
theorem dX8_isUnder_16 : decode cX8_isUnder 16 = .ok (.isub, 1) := by decide +kernel
theorem dX8_isUnder_17 : decode cX8_isUnder 17 = .ok (.iload_n 1, 1) := by decide +kernel
theorem dX8_isUnder_18 : decode cX8_isUnder 18 = .ok (.if_icmp .ne 7, 3) := by decide +kernel
theorem dX8_isUnder_21 : decode cX8_isUnder 21 = .ok (.iconst 1, 1) := by decide +kernel
theorem dX8_isUnder_22 : decode cX8_isUnder 22 = .ok (.goto 4, 3) := by decide +kernel
theorem dX8_isUnder_25 : decode cX8_isUnder 25 = .ok (.iconst 0, 1) := by decide +kernel
theorem dX8_isUnder_26 : decode cX8_isUnder 26 = .ok (.ireturn, 1) := by decide +kernel
theorem dX8_as_0 : decode cX8_as 0 = .ok (.aload_n 0, 1) := by decide +kernel
theorem dX8_as_1 : decode cX8_as 1 = .ok (.iload_n 1, 1) := by decide +kernel
theorem dX8_as_2 : decode cX8_as 2 = .ok (.invokevirtual 91, 3) := by decide +kernel
theorem dX8_as_5 : decode cX8_as 5 = .ok (.ifCond .eq 10, 3) := by decide +kernel
theorem dX8_as_8 : decode cX8_as 8 = .ok (.iload_n 2, 1) := by decide +kernel
theorem dX8_as_9 : decode cX8_as 9 = .ok (.invokestatic 63, 3) := by decide +kernel
theorem dX8_as_12 : decode cX8_as 12 = .ok (.ifCond .ne 10, 3) := by decide +kernel
theorem dX8_as_15 : decode cX8_as 15 = .ok (.aload_n 0, 1) := by decide +kernel
theorem dX8_as_16 : decode cX8_as 16 = .ok (.ldc 44, 2) := by decide +kernel
theorem dX8_as_18 : decode cX8_as 18 = .ok (.invokevirtual 67, 3) := by decide +kernel
theorem dX8_as_21 : decode cX8_as 21 = .ok (.ireturn, 1) := by decide +kernel
theorem dX8_as_22 : decode cX8_as 22 = .ok (.aload_n 0, 1) := by decide +kernel
theorem dX8_as_23 : decode cX8_as 23 = .ok (.iload_n 1, 1) := by decide +kernel
theorem dX8_as_24 : decode cX8_as 24 = .ok (.invokevirtual 75, 3) := by decide +kernel
theorem dX8_as_27 : decode cX8_as 27 = .ok (.iload_n 2, 1) := by decide +kernel
theorem dX8_as_28 : decode cX8_as 28 = .ok (.invokestatic 117, 3) := by decide +kernel
theorem dX8_as_31 : decode cX8_as 31 = .ok (.ifCond .eq 11, 3) := by decide +kernel
theorem dX8_as_34 : decode cX8_as 34 = .ok (.aload_n 0, 1) := by decide +kernel
theorem dX8_as_35 : decode cX8_as 35 = .ok (.iload_n 1, 1) := by decide +kernel
theorem dX8_as_36 : decode cX8_as 36 = .ok (.invokevirtual 96, 3) := by decide +kernel
theorem dX8_as_39 : decode cX8_as 39 = .ok (.goto 9, 3) := by decide +kernel
theorem dX8_as_42 : decode cX8_as 42 = .ok (.aload_n 0, 1) := by decide +kernel
theorem dX8_as_43 : decode cX8_as 43 = .ok (.ldc 121, 2) := by decide +kernel
theorem dX8_as_45 : decode cX8_as 45 = .ok (.invokevirtual 67, 3) := by decide +kernel
theorem dX8_as_48 : decode cX8_as 48 = .ok (.ireturn, 1) := by decide +kernel
theorem dX8_damp_0 : decode cX8_damp 0 = .ok (.iload_n 1, 1) := by decide +kernel
theorem dX8_damp_1 : decode cX8_damp 1 = .ok (.i2l, 1) := by decide +kernel
theorem dX8_damp_2 : decode cX8_damp 2 = .ok (.lconst 0, 1) := by decide +kernel
theorem dX8_damp_3 : decode cX8_damp 3 = .ok (.ldc2_w 57, 3) := by decide +kernel
theorem dX8_damp_6 : decode cX8_damp 6 = .ok (.invokestatic 45, 3) := by decide +kernel
theorem dX8_damp_9 : decode cX8_damp 9 = .ok (.ifCond .eq 12, 3) := by decide +kernel
theorem dX8_damp_12 : decode cX8_damp 12 = .ok (.aload_n 0, 1) := by decide +kernel
theorem dX8_damp_13 : decode cX8_damp 13 = .ok (.iconst 2, 1) := by decide +kernel
theorem dX8_damp_14 : decode cX8_damp 14 = .ok (.iload_n 1, 1) := by decide +kernel
theorem dX8_damp_15 : decode cX8_damp 15 = .ok (.invokevirtual 114, 3) := by decide +kernel
theorem dX8_damp_18 : decode cX8_damp 18 = .ok (.goto 9, 3) := by decide +kernel
theorem dX8_damp_21 : decode cX8_damp 21 = .ok (.aload_n 0, 1) := by decide +kernel
theorem dX8_damp_22 : decode cX8_damp 22 = .ok (.ldc 44, 2) := by decide +kernel
theorem dX8_damp_24 : decode cX8_damp 24 = .ok (.invokevirtual 67, 3) := by decide +kernel
theorem dX8_damp_27 : decode cX8_damp 27 = .ok (.ireturn, 1) := by decide +kernel
theorem dX8_rise_0 : decode cX8_rise 0 = .ok (.iload_n 3, 1) := by decide +kernel
theorem dX8_rise_1 : decode cX8_rise 1 = .ok (.bipush 7, 2) := by decide +kernel
theorem dX8_rise_3 : decode cX8_rise 3 = .ok (.if_icmp .ge 10, 3) := by decide +kernel
theorem dX8_rise_6 : decode cX8_rise 6 = .ok (.bipush 7, 2) := by decide +kernel
theorem dX8_rise_8 : decode cX8_rise 8 = .ok (.iload_n 3, 1) := by decide +kernel
theorem dX8_rise_9 : decode cX8_rise 9 = .ok (.isub, 1) := by decide +kernel
theorem dX8_rise_10 : decode cX8_rise 10 = .ok (.goto 4, 3) := by decide +kernel
theorem dX8_rise_13 : decode cX8_rise 13 = .ok (.iconst 0, 1) := by decide +kernel
theorem dX8_rise_14 : decode cX8_rise 14 = .ok (.istore 4, 2) := by decide +kernel
theorem dX8_rise_16 : decode cX8_rise 16 = .ok (.iload 4, 2) := by decide +kernel
theorem dX8_rise_18 : decode cX8_rise 18 = .ok (.iload_n 2, 1) := by decide +kernel
theorem dX8_rise_19 : decode cX8_rise 19 = .ok (.bipush 8, 2) := by decide +kernel
theorem dX8_rise_21 : decode cX8_rise 21 = .ok (.irem, 1) := by decide +kernel
theorem dX8_rise_22 : decode cX8_rise 22 = .ok (.if_icmp .ge 8, 3) := by decide +kernel
theorem dX8_rise_25 : decode cX8_rise 25 = .ok (.iload 4, 2) := by decide +kernel
theorem dX8_rise_27 : decode cX8_rise 27 = .ok (.goto 7, 3) := by decide +kernel
theorem dX8_rise_30 : decode cX8_rise 30 = .ok (.iload_n 2, 1) := by decide +kernel
theorem dX8_rise_31 : decode cX8_rise 31 = .ok (.bipush 8, 2) := by decide +kernel
theorem dX8_rise_33 : decode cX8_rise 33 = .ok (.irem, 1) := by decide +kernel
theorem dX8_rise_34 : decode cX8_rise 34 = .ok (.istore 5, 2) := by decide +kernel
theorem dX8_rise_36 : decode cX8_rise 36 = .ok (.iload 4, 2) := by decide +kernel
theorem dX8_rise_38 : decode cX8_rise 38 = .ok (.iconst 2, 1) := by decide +kernel
theorem dX8_rise_39 : decode cX8_rise 39 = .ok (.if_icmp .le 10, 3) := by decide +kernel
theorem dX8_rise_42 : decode cX8_rise 42 = .ok (.iload 4, 2) := by decide +kernel
theorem dX8_rise_44 : decode cX8_rise 44 = .ok (.iconst 2, 1) := by decide +kernel
theorem dX8_rise_45 : decode cX8_rise 45 = .ok (.isub, 1) := by decide +kernel
theorem dX8_rise_46 : decode cX8_rise 46 = .ok (.goto 4, 3) := by decide +kernel
theorem dX8_rise_49 : decode cX8_rise 49 = .ok (.iconst 0, 1) := by decide +kernel
theorem dX8_rise_50 : decode cX8_rise 50 = .ok (.istore 6, 2) := by decide +kernel
theorem dX8_rise_52 : decode cX8_rise 52 = .ok (.aload_n 0, 1) := by decide +kernel
theorem dX8_rise_53 : decode cX8_rise 53 = .ok (.iload_n 1, 1) := by decide +kernel
theorem dX8_rise_54 : decode cX8_rise 54 = .ok (.invokevirtual 75, 3) := by decide +kernel
theorem dX8_rise_57 : decode cX8_rise 57 = .ok (.tableswitch 76 1 5 #[35, 38, 41, 43, 57], 35) := by decide +kernel
theorem dX8_rise_92 : decode cX8_rise 92 = .ok (.iload 5, 2) := by decide +kernel
theorem dX8_rise_94 : decode cX8_rise 94 = .ok (.ireturn, 1) := by decide +kernel
theorem dX8_rise_95 : decode cX8_rise 95 = .ok (.iload 6, 2) := by decide +kernel
theorem dX8_rise_97 : decode cX8_rise 97 = .ok (.ireturn, 1) := by decide +kernel
theorem dX8_rise_98 : decode cX8_rise 98 = .ok (.iconst 0, 1) := by decide +kernel
theorem dX8_rise_99 : decode cX8_rise 99 = .ok (.ireturn, 1) := by decide +kernel
theorem dX8_rise_100 : decode cX8_rise 100 = .ok (.iload_n 2, 1) := by decide +kernel
theorem dX8_rise_101 : decode cX8_rise 101 = .ok (.bipush 15, 2) := by decide +kernel
theorem dX8_rise_103 : decode cX8_rise 103 = .ok (.if_icmp .ne 8, 3) := by decide +kernel
theorem dX8_rise_106 : decode cX8_rise 106 = .ok (.bipush 7, 2) := by decide +kernel
theorem dX8_rise_108 : decode cX8_rise 108 = .ok (.goto 5, 3) := by decide +kernel
theorem dX8_rise_111 : decode cX8_rise 111 = .ok (.iload 5, 2) := by decide +kernel
theorem dX8_rise_113 : decode cX8_rise 113 = .ok (.ireturn, 1) := by decide +kernel
theorem dX8_rise_114 : decode cX8_rise 114 = .ok (.aload_n 0, 1) := by decide +kernel
theorem dX8_rise_115 : decode cX8_rise 115 = .ok (.getfield 7, 3) := by decide +kernel
theorem dX8_rise_118 : decode cX8_rise 118 = .ok (.iconst 1, 1) := by decide +kernel
theorem dX8_rise_119 : decode cX8_rise 119 = .ok (.iaload, 1) := by decide +kernel
theorem dX8_rise_120 : decode cX8_rise 120 = .ok (.iconst 4, 1) := by decide +kernel
theorem dX8_rise_121 : decode cX8_rise 121 = .ok (.irem, 1) := by decide +kernel
theorem dX8_rise_122 : decode cX8_rise 122 = .ok (.iconst 2, 1) := by decide +kernel
theorem dX8_rise_123 : decode cX8_rise 123 = .ok (.if_icmp .ne 7, 3) := by decide +kernel
theorem dX8_rise_126 : decode cX8_rise 126 = .ok (.iconst (-1), 1) := by decide +kernel
theorem dX8_rise_127 : decode cX8_rise 127 = .ok (.goto 5, 3) := by decide +kernel
theorem dX8_rise_130 : decode cX8_rise 130 = .ok (.iload 6, 2) := by decide +kernel
theorem dX8_rise_132 : decode cX8_rise 132 = .ok (.ireturn, 1) := by decide +kernel
theorem dX8_rise_133 : decode cX8_rise 133 = .ok (.iload 4, 2) := by decide +kernel
theorem dX8_rise_135 : decode cX8_rise 135 = .ok (.ireturn, 1) := by decide +kernel
theorem dX8_rises_0 : decode cX8_rises 0 = .ok (.aload_n 0, 1) := by decide +kernel
theorem dX8_rises_1 : decode cX8_rises 1 = .ok (.iload_n 1, 1) := by decide +kernel
theorem dX8_rises_2 : decode cX8_rises 2 = .ok (.invokevirtual 91, 3) := by decide +kernel
theorem dX8_rises_5 : decode cX8_rises 5 = .ok (.ifCond .eq 17, 3) := by decide +kernel
theorem dX8_rises_8 : decode cX8_rises 8 = .ok (.iload_n 2, 1) := by decide +kernel
theorem dX8_rises_9 : decode cX8_rises 9 = .ok (.invokestatic 122, 3) := by decide +kernel
theorem dX8_rises_12 : decode cX8_rises 12 = .ok (.ifCond .eq 10, 3) := by decide +kernel
theorem dX8_rises_15 : decode cX8_rises 15 = .ok (.iload_n 3, 1) := by decide +kernel
theorem dX8_rises_16 : decode cX8_rises 16 = .ok (.invokestatic 125, 3) := by decide +kernel
theorem dX8_rises_19 : decode cX8_rises 19 = .ok (.ifCond .ne 10, 3) := by decide +kernel
theorem dX8_rises_22 : decode cX8_rises 22 = .ok (.aload_n 0, 1) := by decide +kernel
theorem dX8_rises_23 : decode cX8_rises 23 = .ok (.ldc 44, 2) := by decide +kernel
theorem dX8_rises_25 : decode cX8_rises 25 = .ok (.invokevirtual 67, 3) := by decide +kernel
theorem dX8_rises_28 : decode cX8_rises 28 = .ok (.ireturn, 1) := by decide +kernel
theorem dX8_rises_29 : decode cX8_rises 29 = .ok (.aload_n 0, 1) := by decide +kernel
theorem dX8_rises_30 : decode cX8_rises 30 = .ok (.iload_n 1, 1) := by decide +kernel
theorem dX8_rises_31 : decode cX8_rises 31 = .ok (.iload_n 2, 1) := by decide +kernel
theorem dX8_rises_32 : decode cX8_rises 32 = .ok (.iload_n 3, 1) := by decide +kernel
theorem dX8_rises_33 : decode cX8_rises 33 = .ok (.invokevirtual 128, 3) := by decide +kernel
theorem dX8_rises_36 : decode cX8_rises 36 = .ok (.istore 4, 2) := by decide +kernel
theorem dX8_rises_38 : decode cX8_rises 38 = .ok (.iload 4, 2) := by decide +kernel
theorem dX8_rises_40 : decode cX8_rises 40 = .ok (.ifCond .ge 12, 3) := by decide +kernel
theorem dX8_rises_43 : decode cX8_rises 43 = .ok (.aload_n 0, 1) := by decide +kernel
theorem dX8_rises_44 : decode cX8_rises 44 = .ok (.ldc 113, 2) := by decide +kernel
theorem dX8_rises_46 : decode cX8_rises 46 = .ok (.invokevirtual 67, 3) := by decide +kernel
theorem dX8_rises_49 : decode cX8_rises 49 = .ok (.goto 5, 3) := by decide +kernel
theorem dX8_rises_52 : decode cX8_rises 52 = .ok (.iload 4, 2) := by decide +kernel
theorem dX8_rises_54 : decode cX8_rises 54 = .ok (.ireturn, 1) := by decide +kernel
theorem dX8_lands_0 : decode cX8_lands 0 = .ok (.aload_n 0, 1) := by decide +kernel
theorem dX8_lands_1 : decode cX8_lands 1 = .ok (.iload_n 1, 1) := by decide +kernel
theorem dX8_lands_2 : decode cX8_lands 2 = .ok (.iload_n 2, 1) := by decide +kernel
theorem dX8_lands_3 : decode cX8_lands 3 = .ok (.iload_n 3, 1) := by decide +kernel
theorem dX8_lands_4 : decode cX8_lands 4 = .ok (.invokevirtual 128, 3) := by decide +kernel
theorem dX8_lands_7 : decode cX8_lands 7 = .ok (.istore 4, 2) := by decide +kernel
theorem dX8_lands_9 : decode cX8_lands 9 = .ok (.iload 4, 2) := by decide +kernel
theorem dX8_lands_11 : decode cX8_lands 11 = .ok (.ifCond .lt 19, 3) := by decide +kernel
theorem dX8_lands_14 : decode cX8_lands 14 = .ok (.aload_n 0, 1) := by decide +kernel
theorem dX8_lands_15 : decode cX8_lands 15 = .ok (.iload_n 1, 1) := by decide +kernel
theorem dX8_lands_16 : decode cX8_lands 16 = .ok (.iload 4, 2) := by decide +kernel
theorem dX8_lands_18 : decode cX8_lands 18 = .ok (.invokevirtual 131, 3) := by decide +kernel
theorem dX8_lands_21 : decode cX8_lands 21 = .ok (.ifCond .eq 9, 3) := by decide +kernel
theorem dX8_lands_24 : decode cX8_lands 24 = .ok (.iinc 4 (-1), 3) := by decide +kernel
theorem dX8_lands_27 : decode cX8_lands 27 = .ok (.goto (-18), 3) := by decide +kernel
theorem dX8_lands_30 : decode cX8_lands 30 = .ok (.iload 4, 2) := by decide +kernel
theorem dX8_lands_32 : decode cX8_lands 32 = .ok (.ireturn, 1) := by decide +kernel
theorem dX8_lies_0 : decode cX8_lies 0 = .ok (.iload_n 1, 1) := by decide +kernel
theorem dX8_lies_1 : decode cX8_lies 1 = .ok (.iload_n 2, 1) := by decide +kernel
theorem dX8_lies_2 : decode cX8_lies 2 = .ok (.aload_n 0, 1) := by decide +kernel
theorem dX8_lies_3 : decode cX8_lies 3 = .ok (.iload_n 1, 1) := by decide +kernel
theorem dX8_lies_4 : decode cX8_lies 4 = .ok (.iload_n 2, 1) := by decide +kernel
theorem dX8_lies_5 : decode cX8_lies 5 = .ok (.invokevirtual 78, 3) := by decide +kernel
theorem dX8_lies_8 : decode cX8_lies 8 = .ok (.invokestatic 84, 3) := by decide +kernel
theorem dX8_lies_11 : decode cX8_lies 11 = .ok (.istore 5, 2) := by decide +kernel
theorem dX8_lies_13 : decode cX8_lies 13 = .ok (.aload_n 0, 1) := by decide +kernel
theorem dX8_lies_14 : decode cX8_lies 14 = .ok (.getfield 7, 3) := by decide +kernel
theorem dX8_lies_17 : decode cX8_lies 17 = .ok (.bipush 57, 2) := by decide +kernel
theorem dX8_lies_19 : decode cX8_lies 19 = .ok (.iload 5, 2) := by decide +kernel
theorem dX8_lies_21 : decode cX8_lies 21 = .ok (.iadd, 1) := by decide +kernel
theorem dX8_lies_22 : decode cX8_lies 22 = .ok (.iload_n 3, 1) := by decide +kernel
theorem dX8_lies_23 : decode cX8_lies 23 = .ok (.iastore, 1) := by decide +kernel
theorem dX8_lies_24 : decode cX8_lies 24 = .ok (.aload_n 0, 1) := by decide +kernel
theorem dX8_lies_25 : decode cX8_lies 25 = .ok (.getfield 7, 3) := by decide +kernel
theorem dX8_lies_28 : decode cX8_lies 28 = .ok (.sipush 345, 3) := by decide +kernel
theorem dX8_lies_31 : decode cX8_lies 31 = .ok (.iload 5, 2) := by decide +kernel
theorem dX8_lies_33 : decode cX8_lies 33 = .ok (.iadd, 1) := by decide +kernel
theorem dX8_lies_34 : decode cX8_lies 34 = .ok (.iload 4, 2) := by decide +kernel
theorem dX8_lies_36 : decode cX8_lies 36 = .ok (.iastore, 1) := by decide +kernel
theorem dX8_lies_37 : decode cX8_lies 37 = .ok (.aload_n 0, 1) := by decide +kernel
theorem dX8_lies_38 : decode cX8_lies 38 = .ok (.getfield 7, 3) := by decide +kernel
theorem dX8_lies_41 : decode cX8_lies 41 = .ok (.bipush 9, 2) := by decide +kernel
theorem dX8_lies_43 : decode cX8_lies 43 = .ok (.iload_n 1, 1) := by decide +kernel
theorem dX8_lies_44 : decode cX8_lies 44 = .ok (.iload_n 2, 1) := by decide +kernel
theorem dX8_lies_45 : decode cX8_lies 45 = .ok (.invokestatic 59, 3) := by decide +kernel
theorem dX8_lies_48 : decode cX8_lies 48 = .ok (.iadd, 1) := by decide +kernel
theorem dX8_lies_49 : decode cX8_lies 49 = .ok (.dup2, 1) := by decide +kernel
theorem dX8_lies_50 : decode cX8_lies 50 = .ok (.iaload, 1) := by decide +kernel
theorem dX8_lies_51 : decode cX8_lies 51 = .ok (.iconst 1, 1) := by decide +kernel
theorem dX8_lies_52 : decode cX8_lies 52 = .ok (.iadd, 1) := by decide +kernel
theorem dX8_lies_53 : decode cX8_lies 53 = .ok (.iastore, 1) := by decide +kernel
theorem dX8_lies_54 : decode cX8_lies 54 = .ok (.return_, 1) := by decide +kernel
theorem dX8_says_0 : decode cX8_says 0 = .ok (.aload_n 0, 1) := by decide +kernel
theorem dX8_says_1 : decode cX8_says 1 = .ok (.iload_n 1, 1) := by decide +kernel
theorem dX8_says_2 : decode cX8_says 2 = .ok (.iload_n 2, 1) := by decide +kernel
theorem dX8_says_3 : decode cX8_says 3 = .ok (.iload_n 3, 1) := by decide +kernel
theorem dX8_says_4 : decode cX8_says 4 = .ok (.invokevirtual 134, 3) := by decide +kernel
theorem dX8_says_7 : decode cX8_says 7 = .ok (.istore 4, 2) := by decide +kernel
theorem dX8_says_9 : decode cX8_says 9 = .ok (.iload 4, 2) := by decide +kernel
theorem dX8_says_11 : decode cX8_says 11 = .ok (.ifCond .lt 12, 3) := by decide +kernel
theorem dX8_says_14 : decode cX8_says 14 = .ok (.aload_n 0, 1) := by decide +kernel
theorem dX8_says_15 : decode cX8_says 15 = .ok (.iload_n 1, 1) := by decide +kernel
theorem dX8_says_16 : decode cX8_says 16 = .ok (.iload 4, 2) := by decide +kernel
theorem dX8_says_18 : decode cX8_says 18 = .ok (.iload_n 2, 1) := by decide +kernel
theorem dX8_says_19 : decode cX8_says 19 = .ok (.iconst 0, 1) := by decide +kernel
theorem dX8_says_20 : decode cX8_says 20 = .ok (.invokevirtual 137, 3) := by decide +kernel
theorem dX8_says_23 : decode cX8_says 23 = .ok (.iload 4, 2) := by decide +kernel
theorem dX8_says_25 : decode cX8_says 25 = .ok (.ireturn, 1) := by decide +kernel
theorem dX8_say_0 : decode cX8_say 0 = .ok (.aload_n 0, 1) := by decide +kernel
theorem dX8_say_1 : decode cX8_say 1 = .ok (.iload_n 1, 1) := by decide +kernel
theorem dX8_say_2 : decode cX8_say 2 = .ok (.invokevirtual 91, 3) := by decide +kernel
theorem dX8_say_5 : decode cX8_say 5 = .ok (.ifCond .eq 27, 3) := by decide +kernel
theorem dX8_say_8 : decode cX8_say 8 = .ok (.iload_n 2, 1) := by decide +kernel
theorem dX8_say_9 : decode cX8_say 9 = .ok (.invokestatic 122, 3) := by decide +kernel
theorem dX8_say_12 : decode cX8_say 12 = .ok (.ifCond .eq 20, 3) := by decide +kernel
theorem dX8_say_15 : decode cX8_say 15 = .ok (.iload_n 3, 1) := by decide +kernel
theorem dX8_say_16 : decode cX8_say 16 = .ok (.invokestatic 125, 3) := by decide +kernel
theorem dX8_say_19 : decode cX8_say 19 = .ok (.ifCond .eq 13, 3) := by decide +kernel
theorem dX8_say_22 : decode cX8_say 22 = .ok (.aload_n 0, 1) := by decide +kernel
theorem dX8_say_23 : decode cX8_say 23 = .ok (.iload_n 1, 1) := by decide +kernel
theorem dX8_say_24 : decode cX8_say 24 = .ok (.iload_n 2, 1) := by decide +kernel
theorem dX8_say_25 : decode cX8_say 25 = .ok (.iload_n 3, 1) := by decide +kernel
theorem dX8_say_26 : decode cX8_say 26 = .ok (.invokevirtual 141, 3) := by decide +kernel
theorem dX8_say_29 : decode cX8_say 29 = .ok (.goto 9, 3) := by decide +kernel
theorem dX8_say_32 : decode cX8_say 32 = .ok (.aload_n 0, 1) := by decide +kernel
theorem dX8_say_33 : decode cX8_say 33 = .ok (.ldc 44, 2) := by decide +kernel
theorem dX8_say_35 : decode cX8_say 35 = .ok (.invokevirtual 67, 3) := by decide +kernel
theorem dX8_say_38 : decode cX8_say 38 = .ok (.ireturn, 1) := by decide +kernel
theorem dX8_cake_0 : decode cX8_cake 0 = .ok (.aload_n 0, 1) := by decide +kernel
theorem dX8_cake_1 : decode cX8_cake 1 = .ok (.iload_n 1, 1) := by decide +kernel
theorem dX8_cake_2 : decode cX8_cake 2 = .ok (.invokevirtual 91, 3) := by decide +kernel
theorem dX8_cake_5 : decode cX8_cake 5 = .ok (.ifCond .eq 23, 3) := by decide +kernel
theorem dX8_cake_8 : decode cX8_cake 8 = .ok (.iload_n 2, 1) := by decide +kernel
theorem dX8_cake_9 : decode cX8_cake 9 = .ok (.invokestatic 108, 3) := by decide +kernel
theorem dX8_cake_12 : decode cX8_cake 12 = .ok (.ifCond .eq 16, 3) := by decide +kernel
theorem dX8_cake_15 : decode cX8_cake 15 = .ok (.iload 4, 2) := by decide +kernel
theorem dX8_cake_17 : decode cX8_cake 17 = .ok (.i2l, 1) := by decide +kernel
theorem dX8_cake_18 : decode cX8_cake 18 = .ok (.lconst 0, 1) := by decide +kernel
theorem dX8_cake_19 : decode cX8_cake 19 = .ok (.ldc2_w 57, 3) := by decide +kernel
theorem dX8_cake_22 : decode cX8_cake 22 = .ok (.invokestatic 45, 3) := by decide +kernel
theorem dX8_cake_25 : decode cX8_cake 25 = .ok (.ifCond .ne 10, 3) := by decide +kernel
theorem dX8_cake_28 : decode cX8_cake 28 = .ok (.aload_n 0, 1) := by decide +kernel
theorem dX8_cake_29 : decode cX8_cake 29 = .ok (.ldc 44, 2) := by decide +kernel
theorem dX8_cake_31 : decode cX8_cake 31 = .ok (.invokevirtual 67, 3) := by decide +kernel
theorem dX8_cake_34 : decode cX8_cake 34 = .ok (.ireturn, 1) := by decide +kernel
theorem dX8_cake_35 : decode cX8_cake 35 = .ok (.aload_n 0, 1) := by decide +kernel
theorem dX8_cake_36 : decode cX8_cake 36 = .ok (.iload_n 1, 1) := by decide +kernel
theorem dX8_cake_37 : decode cX8_cake 37 = .ok (.iload_n 2, 1) := by decide +kernel
theorem dX8_cake_38 : decode cX8_cake 38 = .ok (.invokevirtual 78, 3) := by decide +kernel
theorem dX8_cake_41 : decode cX8_cake 41 = .ok (.istore 5, 2) := by decide +kernel
theorem dX8_cake_43 : decode cX8_cake 43 = .ok (.iload_n 3, 1) := by decide +kernel
theorem dX8_cake_44 : decode cX8_cake 44 = .ok (.i2l, 1) := by decide +kernel
theorem dX8_cake_45 : decode cX8_cake 45 = .ok (.lconst 0, 1) := by decide +kernel
theorem dX8_cake_46 : decode cX8_cake 46 = .ok (.iload 5, 2) := by decide +kernel
theorem dX8_cake_48 : decode cX8_cake 48 = .ok (.iconst 1, 1) := by decide +kernel
theorem dX8_cake_49 : decode cX8_cake 49 = .ok (.isub, 1) := by decide +kernel
theorem dX8_cake_50 : decode cX8_cake 50 = .ok (.i2l, 1) := by decide +kernel
theorem dX8_cake_51 : decode cX8_cake 51 = .ok (.invokestatic 45, 3) := by decide +kernel
theorem dX8_cake_54 : decode cX8_cake 54 = .ok (.ifCond .eq 27, 3) := by decide +kernel
theorem dX8_cake_57 : decode cX8_cake 57 = .ok (.aload_n 0, 1) := by decide +kernel
theorem dX8_cake_58 : decode cX8_cake 58 = .ok (.sipush 345, 3) := by decide +kernel
theorem dX8_cake_61 : decode cX8_cake 61 = .ok (.iload_n 1, 1) := by decide +kernel
theorem dX8_cake_62 : decode cX8_cake 62 = .ok (.iload_n 2, 1) := by decide +kernel
theorem dX8_cake_63 : decode cX8_cake 63 = .ok (.iload 5, 2) := by decide +kernel
theorem dX8_cake_65 : decode cX8_cake 65 = .ok (.iconst 1, 1) := by decide +kernel
theorem dX8_cake_66 : decode cX8_cake 66 = .ok (.isub, 1) := by decide +kernel
theorem dX8_cake_67 : decode cX8_cake 67 = .ok (.iload_n 3, 1) := by decide +kernel
theorem dX8_cake_68 : decode cX8_cake 68 = .ok (.isub, 1) := by decide +kernel
theorem dX8_cake_69 : decode cX8_cake 69 = .ok (.invokestatic 84, 3) := by decide +kernel
theorem dX8_cake_72 : decode cX8_cake 72 = .ok (.iadd, 1) := by decide +kernel
theorem dX8_cake_73 : decode cX8_cake 73 = .ok (.iload 4, 2) := by decide +kernel
theorem dX8_cake_75 : decode cX8_cake 75 = .ok (.invokevirtual 114, 3) := by decide +kernel
theorem dX8_cake_78 : decode cX8_cake 78 = .ok (.goto 9, 3) := by decide +kernel
theorem dX8_cake_81 : decode cX8_cake 81 = .ok (.aload_n 0, 1) := by decide +kernel
theorem dX8_cake_82 : decode cX8_cake 82 = .ok (.ldc 113, 2) := by decide +kernel
theorem dX8_cake_84 : decode cX8_cake 84 = .ok (.invokevirtual 67, 3) := by decide +kernel
theorem dX8_cake_87 : decode cX8_cake 87 = .ok (.ireturn, 1) := by decide +kernel
theorem dX8_day_0 : decode cX8_day 0 = .ok (.iconst 0, 1) := by decide +kernel
theorem dX8_day_1 : decode cX8_day 1 = .ok (.istore_n 1, 1) := by decide +kernel
theorem dX8_day_2 : decode cX8_day 2 = .ok (.iload_n 1, 1) := by decide +kernel
theorem dX8_day_3 : decode cX8_day 3 = .ok (.bipush 8, 2) := by decide +kernel
theorem dX8_day_5 : decode cX8_day 5 = .ok (.aload_n 0, 1) := by decide +kernel
theorem dX8_day_6 : decode cX8_day 6 = .ok (.getfield 7, 3) := by decide +kernel
theorem dX8_day_9 : decode cX8_day 9 = .ok (.iconst 0, 1) := by decide +kernel
theorem dX8_day_10 : decode cX8_day 10 = .ok (.iaload, 1) := by decide +kernel
theorem dX8_day_11 : decode cX8_day 11 = .ok (.imul, 1) := by decide +kernel
theorem dX8_day_12 : decode cX8_day 12 = .ok (.if_icmp .ge 86, 3) := by decide +kernel
theorem dX8_day_15 : decode cX8_day 15 = .ok (.aload_n 0, 1) := by decide +kernel
theorem dX8_day_16 : decode cX8_day 16 = .ok (.iload_n 1, 1) := by decide +kernel
theorem dX8_day_17 : decode cX8_day 17 = .ok (.bipush 8, 2) := by decide +kernel
theorem dX8_day_19 : decode cX8_day 19 = .ok (.idiv, 1) := by decide +kernel
theorem dX8_day_20 : decode cX8_day 20 = .ok (.invokevirtual 105, 3) := by decide +kernel
theorem dX8_day_23 : decode cX8_day 23 = .ok (.istore_n 2, 1) := by decide +kernel
theorem dX8_day_24 : decode cX8_day 24 = .ok (.iconst 0, 1) := by decide +kernel
theorem dX8_day_25 : decode cX8_day 25 = .ok (.istore_n 3, 1) := by decide +kernel
theorem dX8_day_26 : decode cX8_day 26 = .ok (.iload_n 3, 1) := by decide +kernel
theorem dX8_day_27 : decode cX8_day 27 = .ok (.aload_n 0, 1) := by decide +kernel
theorem dX8_day_28 : decode cX8_day 28 = .ok (.getfield 7, 3) := by decide +kernel
theorem dX8_day_31 : decode cX8_day 31 = .ok (.bipush 9, 2) := by decide +kernel
theorem dX8_day_33 : decode cX8_day 33 = .ok (.iload_n 1, 1) := by decide +kernel
theorem dX8_day_34 : decode cX8_day 34 = .ok (.iadd, 1) := by decide +kernel
theorem dX8_day_35 : decode cX8_day 35 = .ok (.iaload, 1) := by decide +kernel
theorem dX8_day_36 : decode cX8_day 36 = .ok (.if_icmp .ge 56, 3) := by decide +kernel
theorem dX8_day_39 : decode cX8_day 39 = .ok (.sipush 345, 3) := by decide +kernel
theorem dX8_day_42 : decode cX8_day 42 = .ok (.bipush 6, 2) := by decide +kernel
theorem dX8_day_44 : decode cX8_day 44 = .ok (.iload_n 1, 1) := by decide +kernel
theorem dX8_day_45 : decode cX8_day 45 = .ok (.imul, 1) := by decide +kernel
theorem dX8_day_46 : decode cX8_day 46 = .ok (.iadd, 1) := by decide +kernel
theorem dX8_day_47 : decode cX8_day 47 = .ok (.iload_n 3, 1) := by decide +kernel
theorem dX8_day_48 : decode cX8_day 48 = .ok (.iadd, 1) := by decide +kernel
theorem dX8_day_49 : decode cX8_day 49 = .ok (.istore 4, 2) := by decide +kernel
theorem dX8_day_51 : decode cX8_day 51 = .ok (.aload_n 0, 1) := by decide +kernel
theorem dX8_day_52 : decode cX8_day 52 = .ok (.getfield 7, 3) := by decide +kernel
theorem dX8_day_55 : decode cX8_day 55 = .ok (.iload 4, 2) := by decide +kernel
theorem dX8_day_57 : decode cX8_day 57 = .ok (.aload_n 0, 1) := by decide +kernel
theorem dX8_day_58 : decode cX8_day 58 = .ok (.getfield 7, 3) := by decide +kernel
theorem dX8_day_61 : decode cX8_day 61 = .ok (.iload 4, 2) := by decide +kernel
theorem dX8_day_63 : decode cX8_day 63 = .ok (.iaload, 1) := by decide +kernel
theorem dX8_day_64 : decode cX8_day 64 = .ok (.iload_n 2, 1) := by decide +kernel
theorem dX8_day_65 : decode cX8_day 65 = .ok (.iadd, 1) := by decide +kernel
theorem dX8_day_66 : decode cX8_day 66 = .ok (.bipush 9, 2) := by decide +kernel
theorem dX8_day_68 : decode cX8_day 68 = .ok (.if_icmp .le 8, 3) := by decide +kernel
theorem dX8_day_71 : decode cX8_day 71 = .ok (.bipush 9, 2) := by decide +kernel
theorem dX8_day_73 : decode cX8_day 73 = .ok (.goto 12, 3) := by decide +kernel
theorem dX8_day_76 : decode cX8_day 76 = .ok (.aload_n 0, 1) := by decide +kernel
theorem dX8_day_77 : decode cX8_day 77 = .ok (.getfield 7, 3) := by decide +kernel
theorem dX8_day_80 : decode cX8_day 80 = .ok (.iload 4, 2) := by decide +kernel
theorem dX8_day_82 : decode cX8_day 82 = .ok (.iaload, 1) := by decide +kernel
theorem dX8_day_83 : decode cX8_day 83 = .ok (.iload_n 2, 1) := by decide +kernel
theorem dX8_day_84 : decode cX8_day 84 = .ok (.iadd, 1) := by decide +kernel
theorem dX8_day_85 : decode cX8_day 85 = .ok (.iastore, 1) := by decide +kernel
theorem dX8_day_86 : decode cX8_day 86 = .ok (.iinc 3 1, 3) := by decide +kernel
theorem dX8_day_89 : decode cX8_day 89 = .ok (.goto (-63), 3) := by decide +kernel
theorem dX8_day_92 : decode cX8_day 92 = .ok (.iinc 1 1, 3) := by decide +kernel
theorem dX8_day_95 : decode cX8_day 95 = .ok (.goto (-93), 3) := by decide +kernel
theorem dX8_day_98 : decode cX8_day 98 = .ok (.aload_n 0, 1) := by decide +kernel
theorem dX8_day_99 : decode cX8_day 99 = .ok (.getfield 7, 3) := by decide +kernel
theorem dX8_day_102 : decode cX8_day 102 = .ok (.iconst 1, 1) := by decide +kernel
theorem dX8_day_103 : decode cX8_day 103 = .ok (.dup2, 1) := by decide +kernel
theorem dX8_day_104 : decode cX8_day 104 = .ok (.iaload, 1) := by decide +kernel
theorem dX8_day_105 : decode cX8_day 105 = .ok (.iconst 1, 1) := by decide +kernel
theorem dX8_day_106 : decode cX8_day 106 = .ok (.iadd, 1) := by decide +kernel
theorem dX8_day_107 : decode cX8_day 107 = .ok (.iastore, 1) := by decide +kernel
theorem dX8_day_108 : decode cX8_day 108 = .ok (.return_, 1) := by decide +kernel
theorem dX8_goesOn_0 : decode cX8_goesOn 0 = .ok (.iconst 0, 1) := by decide +kernel
theorem dX8_goesOn_1 : decode cX8_goesOn 1 = .ok (.istore_n 2, 1) := by decide +kernel
theorem dX8_goesOn_2 : decode cX8_goesOn 2 = .ok (.iload_n 2, 1) := by decide +kernel
theorem dX8_goesOn_3 : decode cX8_goesOn 3 = .ok (.iload_n 1, 1) := by decide +kernel
theorem dX8_goesOn_4 : decode cX8_goesOn 4 = .ok (.if_icmp .ge 13, 3) := by decide +kernel
theorem dX8_goesOn_7 : decode cX8_goesOn 7 = .ok (.aload_n 0, 1) := by decide +kernel
theorem dX8_goesOn_8 : decode cX8_goesOn 8 = .ok (.invokevirtual 144, 3) := by decide +kernel
theorem dX8_goesOn_11 : decode cX8_goesOn 11 = .ok (.iinc 2 1, 3) := by decide +kernel
theorem dX8_goesOn_14 : decode cX8_goesOn 14 = .ok (.goto (-12), 3) := by decide +kernel
theorem dX8_goesOn_17 : decode cX8_goesOn 17 = .ok (.return_, 1) := by decide +kernel
theorem dX8_withCake_0 : decode cX8_withCake 0 = .ok (.iconst 0, 1) := by decide +kernel
theorem dX8_withCake_1 : decode cX8_withCake 1 = .ok (.istore_n 2, 1) := by decide +kernel
theorem dX8_withCake_2 : decode cX8_withCake 2 = .ok (.iconst 0, 1) := by decide +kernel
theorem dX8_withCake_3 : decode cX8_withCake 3 = .ok (.istore_n 3, 1) := by decide +kernel
theorem dX8_withCake_4 : decode cX8_withCake 4 = .ok (.iload_n 3, 1) := by decide +kernel
theorem dX8_withCake_5 : decode cX8_withCake 5 = .ok (.bipush 8, 2) := by decide +kernel
theorem dX8_withCake_7 : decode cX8_withCake 7 = .ok (.aload_n 0, 1) := by decide +kernel
theorem dX8_withCake_8 : decode cX8_withCake 8 = .ok (.getfield 7, 3) := by decide +kernel
theorem dX8_withCake_11 : decode cX8_withCake 11 = .ok (.iconst 0, 1) := by decide +kernel
theorem dX8_withCake_12 : decode cX8_withCake 12 = .ok (.iaload, 1) := by decide +kernel
theorem dX8_withCake_13 : decode cX8_withCake 13 = .ok (.imul, 1) := by decide +kernel
theorem dX8_withCake_14 : decode cX8_withCake 14 = .ok (.if_icmp .ge 60, 3) := by decide +kernel
theorem dX8_withCake_17 : decode cX8_withCake 17 = .ok (.iconst 0, 1) := by decide +kernel
theorem dX8_withCake_18 : decode cX8_withCake 18 = .ok (.istore 4, 2) := by decide +kernel
theorem dX8_withCake_20 : decode cX8_withCake 20 = .ok (.iload 4, 2) := by decide +kernel
theorem dX8_withCake_22 : decode cX8_withCake 22 = .ok (.aload_n 0, 1) := by decide +kernel
theorem dX8_withCake_23 : decode cX8_withCake 23 = .ok (.getfield 7, 3) := by decide +kernel
theorem dX8_withCake_26 : decode cX8_withCake 26 = .ok (.bipush 9, 2) := by decide +kernel
theorem dX8_withCake_28 : decode cX8_withCake 28 = .ok (.iload_n 3, 1) := by decide +kernel
theorem dX8_withCake_29 : decode cX8_withCake 29 = .ok (.iadd, 1) := by decide +kernel
theorem dX8_withCake_30 : decode cX8_withCake 30 = .ok (.iaload, 1) := by decide +kernel
theorem dX8_withCake_31 : decode cX8_withCake 31 = .ok (.if_icmp .ge 37, 3) := by decide +kernel
theorem dX8_withCake_34 : decode cX8_withCake 34 = .ok (.iload_n 2, 1) := by decide +kernel
theorem dX8_withCake_35 : decode cX8_withCake 35 = .ok (.aload_n 0, 1) := by decide +kernel
theorem dX8_withCake_36 : decode cX8_withCake 36 = .ok (.getfield 7, 3) := by decide +kernel
theorem dX8_withCake_39 : decode cX8_withCake 39 = .ok (.sipush 345, 3) := by decide +kernel
theorem dX8_withCake_42 : decode cX8_withCake 42 = .ok (.bipush 6, 2) := by decide +kernel
theorem dX8_withCake_44 : decode cX8_withCake 44 = .ok (.iload_n 3, 1) := by decide +kernel
theorem dX8_withCake_45 : decode cX8_withCake 45 = .ok (.imul, 1) := by decide +kernel
theorem dX8_withCake_46 : decode cX8_withCake 46 = .ok (.iadd, 1) := by decide +kernel
theorem dX8_withCake_47 : decode cX8_withCake 47 = .ok (.iload 4, 2) := by decide +kernel
theorem dX8_withCake_49 : decode cX8_withCake 49 = .ok (.iadd, 1) := by decide +kernel
theorem dX8_withCake_50 : decode cX8_withCake 50 = .ok (.iaload, 1) := by decide +kernel
theorem dX8_withCake_51 : decode cX8_withCake 51 = .ok (.iload_n 1, 1) := by decide +kernel
theorem dX8_withCake_52 : decode cX8_withCake 52 = .ok (.if_icmp .ne 7, 3) := by decide +kernel
theorem dX8_withCake_55 : decode cX8_withCake 55 = .ok (.iconst 1, 1) := by decide +kernel
theorem dX8_withCake_56 : decode cX8_withCake 56 = .ok (.goto 4, 3) := by decide +kernel
theorem dX8_withCake_59 : decode cX8_withCake 59 = .ok (.iconst 0, 1) := by decide +kernel
theorem dX8_withCake_60 : decode cX8_withCake 60 = .ok (.iadd, 1) := by decide +kernel
theorem dX8_withCake_61 : decode cX8_withCake 61 = .ok (.istore_n 2, 1) := by decide +kernel
theorem dX8_withCake_62 : decode cX8_withCake 62 = .ok (.iinc 4 1, 3) := by decide +kernel
theorem dX8_withCake_65 : decode cX8_withCake 65 = .ok (.goto (-45), 3) := by decide +kernel
theorem dX8_withCake_68 : decode cX8_withCake 68 = .ok (.iinc 3 1, 3) := by decide +kernel
theorem dX8_withCake_71 : decode cX8_withCake 71 = .ok (.goto (-67), 3) := by decide +kernel
theorem dX8_withCake_74 : decode cX8_withCake 74 = .ok (.iload_n 2, 1) := by decide +kernel
theorem dX8_withCake_75 : decode cX8_withCake 75 = .ok (.ireturn, 1) := by decide +kernel
theorem dX8_days_0 : decode cX8_days 0 = .ok (.iload_n 1, 1) := by decide +kernel
theorem dX8_days_1 : decode cX8_days 1 = .ok (.i2l, 1) := by decide +kernel
theorem dX8_days_2 : decode cX8_days 2 = .ok (.lconst 1, 1) := by decide +kernel
theorem dX8_days_3 : decode cX8_days 3 = .ok (.ldc2_w 147, 3) := by decide +kernel
theorem dX8_days_6 : decode cX8_days 6 = .ok (.invokestatic 45, 3) := by decide +kernel
theorem dX8_days_9 : decode cX8_days 9 = .ok (.ifCond .ne 10, 3) := by decide +kernel
theorem dX8_days_12 : decode cX8_days 12 = .ok (.aload_n 0, 1) := by decide +kernel
theorem dX8_days_13 : decode cX8_days 13 = .ok (.ldc 44, 2) := by decide +kernel
theorem dX8_days_15 : decode cX8_days 15 = .ok (.invokevirtual 67, 3) := by decide +kernel
theorem dX8_days_18 : decode cX8_days 18 = .ok (.ireturn, 1) := by decide +kernel
theorem dX8_days_19 : decode cX8_days 19 = .ok (.aload_n 0, 1) := by decide +kernel
theorem dX8_days_20 : decode cX8_days 20 = .ok (.getfield 7, 3) := by decide +kernel
theorem dX8_days_23 : decode cX8_days 23 = .ok (.iconst 1, 1) := by decide +kernel
theorem dX8_days_24 : decode cX8_days 24 = .ok (.iaload, 1) := by decide +kernel
theorem dX8_days_25 : decode cX8_days 25 = .ok (.iload_n 1, 1) := by decide +kernel
theorem dX8_days_26 : decode cX8_days 26 = .ok (.iadd, 1) := by decide +kernel
theorem dX8_days_27 : decode cX8_days 27 = .ok (.sipush 9999, 3) := by decide +kernel
theorem dX8_days_30 : decode cX8_days 30 = .ok (.if_icmp .le 10, 3) := by decide +kernel
theorem dX8_days_33 : decode cX8_days 33 = .ok (.aload_n 0, 1) := by decide +kernel
theorem dX8_days_34 : decode cX8_days 34 = .ok (.ldc 149, 2) := by decide +kernel
theorem dX8_days_36 : decode cX8_days 36 = .ok (.invokevirtual 67, 3) := by decide +kernel
theorem dX8_days_39 : decode cX8_days 39 = .ok (.ireturn, 1) := by decide +kernel
theorem dX8_days_40 : decode cX8_days 40 = .ok (.aload_n 0, 1) := by decide +kernel
theorem dX8_days_41 : decode cX8_days 41 = .ok (.iload_n 1, 1) := by decide +kernel
theorem dX8_days_42 : decode cX8_days 42 = .ok (.invokevirtual 150, 3) := by decide +kernel
theorem dX8_days_45 : decode cX8_days 45 = .ok (.aload_n 0, 1) := by decide +kernel
theorem dX8_days_46 : decode cX8_days 46 = .ok (.bipush 9, 2) := by decide +kernel
theorem dX8_days_48 : decode cX8_days 48 = .ok (.invokevirtual 154, 3) := by decide +kernel
theorem dX8_days_51 : decode cX8_days 51 = .ok (.ireturn, 1) := by decide +kernel
theorem dX8_layersAll_0 : decode cX8_layersAll 0 = .ok (.iconst 0, 1) := by decide +kernel
theorem dX8_layersAll_1 : decode cX8_layersAll 1 = .ok (.istore_n 1, 1) := by decide +kernel
theorem dX8_layersAll_2 : decode cX8_layersAll 2 = .ok (.iconst 0, 1) := by decide +kernel
theorem dX8_layersAll_3 : decode cX8_layersAll 3 = .ok (.istore_n 2, 1) := by decide +kernel
theorem dX8_layersAll_4 : decode cX8_layersAll 4 = .ok (.iload_n 2, 1) := by decide +kernel
theorem dX8_layersAll_5 : decode cX8_layersAll 5 = .ok (.aload_n 0, 1) := by decide +kernel
theorem dX8_layersAll_6 : decode cX8_layersAll 6 = .ok (.getfield 7, 3) := by decide +kernel
theorem dX8_layersAll_9 : decode cX8_layersAll 9 = .ok (.iconst 0, 1) := by decide +kernel
theorem dX8_layersAll_10 : decode cX8_layersAll 10 = .ok (.iaload, 1) := by decide +kernel
theorem dX8_layersAll_11 : decode cX8_layersAll 11 = .ok (.if_icmp .ge 17, 3) := by decide +kernel
theorem dX8_layersAll_14 : decode cX8_layersAll 14 = .ok (.iload_n 1, 1) := by decide +kernel
theorem dX8_layersAll_15 : decode cX8_layersAll 15 = .ok (.aload_n 0, 1) := by decide +kernel
theorem dX8_layersAll_16 : decode cX8_layersAll 16 = .ok (.iload_n 2, 1) := by decide +kernel
theorem dX8_layersAll_17 : decode cX8_layersAll 17 = .ok (.invokevirtual 96, 3) := by decide +kernel
theorem dX8_layersAll_20 : decode cX8_layersAll 20 = .ok (.iadd, 1) := by decide +kernel
theorem dX8_layersAll_21 : decode cX8_layersAll 21 = .ok (.istore_n 1, 1) := by decide +kernel
theorem dX8_layersAll_22 : decode cX8_layersAll 22 = .ok (.iinc 2 1, 3) := by decide +kernel
theorem dX8_layersAll_25 : decode cX8_layersAll 25 = .ok (.goto (-21), 3) := by decide +kernel
theorem dX8_layersAll_28 : decode cX8_layersAll 28 = .ok (.iload_n 1, 1) := by decide +kernel
theorem dX8_layersAll_29 : decode cX8_layersAll 29 = .ok (.ireturn, 1) := by decide +kernel
theorem dX8_wordsAll_0 : decode cX8_wordsAll 0 = .ok (.iconst 0, 1) := by decide +kernel
theorem dX8_wordsAll_1 : decode cX8_wordsAll 1 = .ok (.istore_n 1, 1) := by decide +kernel
theorem dX8_wordsAll_2 : decode cX8_wordsAll 2 = .ok (.iconst 0, 1) := by decide +kernel
theorem dX8_wordsAll_3 : decode cX8_wordsAll 3 = .ok (.istore_n 2, 1) := by decide +kernel
theorem dX8_wordsAll_4 : decode cX8_wordsAll 4 = .ok (.iload_n 2, 1) := by decide +kernel
theorem dX8_wordsAll_5 : decode cX8_wordsAll 5 = .ok (.aload_n 0, 1) := by decide +kernel
theorem dX8_wordsAll_6 : decode cX8_wordsAll 6 = .ok (.getfield 7, 3) := by decide +kernel
theorem dX8_wordsAll_9 : decode cX8_wordsAll 9 = .ok (.iconst 0, 1) := by decide +kernel
theorem dX8_wordsAll_10 : decode cX8_wordsAll 10 = .ok (.iaload, 1) := by decide +kernel
theorem dX8_wordsAll_11 : decode cX8_wordsAll 11 = .ok (.if_icmp .ge 17, 3) := by decide +kernel
theorem dX8_wordsAll_14 : decode cX8_wordsAll 14 = .ok (.iload_n 1, 1) := by decide +kernel
theorem dX8_wordsAll_15 : decode cX8_wordsAll 15 = .ok (.aload_n 0, 1) := by decide +kernel
theorem dX8_wordsAll_16 : decode cX8_wordsAll 16 = .ok (.iload_n 2, 1) := by decide +kernel
theorem dX8_wordsAll_17 : decode cX8_wordsAll 17 = .ok (.invokevirtual 99, 3) := by decide +kernel
theorem dX8_wordsAll_20 : decode cX8_wordsAll 20 = .ok (.ior, 1) := by decide +kernel
theorem dX8_wordsAll_21 : decode cX8_wordsAll 21 = .ok (.istore_n 1, 1) := by decide +kernel
theorem dX8_wordsAll_22 : decode cX8_wordsAll 22 = .ok (.iinc 2 1, 3) := by decide +kernel
theorem dX8_wordsAll_25 : decode cX8_wordsAll 25 = .ok (.goto (-21), 3) := by decide +kernel
theorem dX8_wordsAll_28 : decode cX8_wordsAll 28 = .ok (.iload_n 1, 1) := by decide +kernel
theorem dX8_wordsAll_29 : decode cX8_wordsAll 29 = .ok (.ireturn, 1) := by decide +kernel
theorem dX8_cakeAll_0 : decode cX8_cakeAll 0 = .ok (.iconst 0, 1) := by decide +kernel
theorem dX8_cakeAll_1 : decode cX8_cakeAll 1 = .ok (.istore_n 1, 1) := by decide +kernel
theorem dX8_cakeAll_2 : decode cX8_cakeAll 2 = .ok (.iconst 1, 1) := by decide +kernel
theorem dX8_cakeAll_3 : decode cX8_cakeAll 3 = .ok (.istore_n 2, 1) := by decide +kernel
theorem dX8_cakeAll_4 : decode cX8_cakeAll 4 = .ok (.iload_n 2, 1) := by decide +kernel
theorem dX8_cakeAll_5 : decode cX8_cakeAll 5 = .ok (.bipush 9, 2) := by decide +kernel
theorem dX8_cakeAll_7 : decode cX8_cakeAll 7 = .ok (.if_icmp .gt 19, 3) := by decide +kernel
theorem dX8_cakeAll_10 : decode cX8_cakeAll 10 = .ok (.iload_n 1, 1) := by decide +kernel
theorem dX8_cakeAll_11 : decode cX8_cakeAll 11 = .ok (.iload_n 2, 1) := by decide +kernel
theorem dX8_cakeAll_12 : decode cX8_cakeAll 12 = .ok (.aload_n 0, 1) := by decide +kernel
theorem dX8_cakeAll_13 : decode cX8_cakeAll 13 = .ok (.iload_n 2, 1) := by decide +kernel
theorem dX8_cakeAll_14 : decode cX8_cakeAll 14 = .ok (.invokevirtual 154, 3) := by decide +kernel
theorem dX8_cakeAll_17 : decode cX8_cakeAll 17 = .ok (.imul, 1) := by decide +kernel
theorem dX8_cakeAll_18 : decode cX8_cakeAll 18 = .ok (.iadd, 1) := by decide +kernel
theorem dX8_cakeAll_19 : decode cX8_cakeAll 19 = .ok (.istore_n 1, 1) := by decide +kernel
theorem dX8_cakeAll_20 : decode cX8_cakeAll 20 = .ok (.iinc 2 1, 3) := by decide +kernel
theorem dX8_cakeAll_23 : decode cX8_cakeAll 23 = .ok (.goto (-19), 3) := by decide +kernel
theorem dX8_cakeAll_26 : decode cX8_cakeAll 26 = .ok (.iload_n 1, 1) := by decide +kernel
theorem dX8_cakeAll_27 : decode cX8_cakeAll 27 = .ok (.ireturn, 1) := by decide +kernel
theorem dX8_now_0 : decode cX8_now 0 = .ok (.iload_n 1, 1) := by decide +kernel
theorem dX8_now_1 : decode cX8_now 1 = .ok (.tableswitch 64 0 4 #[35, 42, 49, 54, 59], 35) := by decide +kernel
theorem dX8_now_36 : decode cX8_now 36 = .ok (.aload_n 0, 1) := by decide +kernel
theorem dX8_now_37 : decode cX8_now 37 = .ok (.getfield 7, 3) := by decide +kernel
theorem dX8_now_40 : decode cX8_now 40 = .ok (.iconst 1, 1) := by decide +kernel
theorem dX8_now_41 : decode cX8_now 41 = .ok (.iaload, 1) := by decide +kernel
theorem dX8_now_42 : decode cX8_now 42 = .ok (.ireturn, 1) := by decide +kernel
theorem dX8_now_43 : decode cX8_now 43 = .ok (.aload_n 0, 1) := by decide +kernel
theorem dX8_now_44 : decode cX8_now 44 = .ok (.getfield 7, 3) := by decide +kernel
theorem dX8_now_47 : decode cX8_now 47 = .ok (.iconst 2, 1) := by decide +kernel
theorem dX8_now_48 : decode cX8_now 48 = .ok (.iaload, 1) := by decide +kernel
theorem dX8_now_49 : decode cX8_now 49 = .ok (.ireturn, 1) := by decide +kernel
theorem dX8_now_50 : decode cX8_now 50 = .ok (.aload_n 0, 1) := by decide +kernel
theorem dX8_now_51 : decode cX8_now 51 = .ok (.invokevirtual 157, 3) := by decide +kernel
theorem dX8_now_54 : decode cX8_now 54 = .ok (.ireturn, 1) := by decide +kernel
theorem dX8_now_55 : decode cX8_now 55 = .ok (.aload_n 0, 1) := by decide +kernel
theorem dX8_now_56 : decode cX8_now 56 = .ok (.invokevirtual 161, 3) := by decide +kernel
theorem dX8_now_59 : decode cX8_now 59 = .ok (.ireturn, 1) := by decide +kernel
theorem dX8_now_60 : decode cX8_now 60 = .ok (.aload_n 0, 1) := by decide +kernel
theorem dX8_now_61 : decode cX8_now 61 = .ok (.invokevirtual 164, 3) := by decide +kernel
theorem dX8_now_64 : decode cX8_now 64 = .ok (.ireturn, 1) := by decide +kernel
theorem dX8_now_65 : decode cX8_now 65 = .ok (.aload_n 0, 1) := by decide +kernel
theorem dX8_now_66 : decode cX8_now 66 = .ok (.ldc 44, 2) := by decide +kernel
theorem dX8_now_68 : decode cX8_now 68 = .ok (.invokevirtual 67, 3) := by decide +kernel
theorem dX8_now_71 : decode cX8_now 71 = .ok (.ireturn, 1) := by decide +kernel
theorem dX8_loose_0 : decode cX8_loose 0 = .ok (.iconst 0, 1) := by decide +kernel
theorem dX8_loose_1 : decode cX8_loose 1 = .ok (.istore 4, 2) := by decide +kernel
theorem dX8_loose_3 : decode cX8_loose 3 = .ok (.iload 4, 2) := by decide +kernel
theorem dX8_loose_5 : decode cX8_loose 5 = .ok (.aload_n 0, 1) := by decide +kernel
theorem dX8_loose_6 : decode cX8_loose 6 = .ok (.iload_n 1, 1) := by decide +kernel
theorem dX8_loose_7 : decode cX8_loose 7 = .ok (.iload_n 2, 1) := by decide +kernel
theorem dX8_loose_8 : decode cX8_loose 8 = .ok (.invokevirtual 78, 3) := by decide +kernel
theorem dX8_loose_11 : decode cX8_loose 11 = .ok (.if_icmp .ge 38, 3) := by decide +kernel
theorem dX8_loose_14 : decode cX8_loose 14 = .ok (.aload_n 0, 1) := by decide +kernel
theorem dX8_loose_15 : decode cX8_loose 15 = .ok (.getfield 7, 3) := by decide +kernel
theorem dX8_loose_18 : decode cX8_loose 18 = .ok (.sipush 345, 3) := by decide +kernel
theorem dX8_loose_21 : decode cX8_loose 21 = .ok (.iload_n 1, 1) := by decide +kernel
theorem dX8_loose_22 : decode cX8_loose 22 = .ok (.iload_n 2, 1) := by decide +kernel
theorem dX8_loose_23 : decode cX8_loose 23 = .ok (.aload_n 0, 1) := by decide +kernel
theorem dX8_loose_24 : decode cX8_loose 24 = .ok (.iload_n 1, 1) := by decide +kernel
theorem dX8_loose_25 : decode cX8_loose 25 = .ok (.iload_n 2, 1) := by decide +kernel
theorem dX8_loose_26 : decode cX8_loose 26 = .ok (.invokevirtual 78, 3) := by decide +kernel
theorem dX8_loose_29 : decode cX8_loose 29 = .ok (.iconst 1, 1) := by decide +kernel
theorem dX8_loose_30 : decode cX8_loose 30 = .ok (.isub, 1) := by decide +kernel
theorem dX8_loose_31 : decode cX8_loose 31 = .ok (.iload 4, 2) := by decide +kernel
theorem dX8_loose_33 : decode cX8_loose 33 = .ok (.isub, 1) := by decide +kernel
theorem dX8_loose_34 : decode cX8_loose 34 = .ok (.invokestatic 84, 3) := by decide +kernel
theorem dX8_loose_37 : decode cX8_loose 37 = .ok (.iadd, 1) := by decide +kernel
theorem dX8_loose_38 : decode cX8_loose 38 = .ok (.iaload, 1) := by decide +kernel
theorem dX8_loose_39 : decode cX8_loose 39 = .ok (.iload_n 3, 1) := by decide +kernel
theorem dX8_loose_40 : decode cX8_loose 40 = .ok (.if_icmp .ge 9, 3) := by decide +kernel
theorem dX8_loose_43 : decode cX8_loose 43 = .ok (.iinc 4 1, 3) := by decide +kernel
theorem dX8_loose_46 : decode cX8_loose 46 = .ok (.goto (-43), 3) := by decide +kernel
theorem dX8_loose_49 : decode cX8_loose 49 = .ok (.iload 4, 2) := by decide +kernel
theorem dX8_loose_51 : decode cX8_loose 51 = .ok (.ireturn, 1) := by decide +kernel
theorem dX8_brings_0 : decode cX8_brings 0 = .ok (.aload_n 0, 1) := by decide +kernel
theorem dX8_brings_1 : decode cX8_brings 1 = .ok (.iconst 0, 1) := by decide +kernel
theorem dX8_brings_2 : decode cX8_brings 2 = .ok (.putfield 167, 3) := by decide +kernel
theorem dX8_brings_5 : decode cX8_brings 5 = .ok (.iconst 0, 1) := by decide +kernel
theorem dX8_brings_6 : decode cX8_brings 6 = .ok (.istore 4, 2) := by decide +kernel
theorem dX8_brings_8 : decode cX8_brings 8 = .ok (.iload 4, 2) := by decide +kernel
theorem dX8_brings_10 : decode cX8_brings 10 = .ok (.iload_n 2, 1) := by decide +kernel
theorem dX8_brings_11 : decode cX8_brings 11 = .ok (.if_icmp .gt 80, 3) := by decide +kernel
theorem dX8_brings_14 : decode cX8_brings 14 = .ok (.aload_n 0, 1) := by decide +kernel
theorem dX8_brings_15 : decode cX8_brings 15 = .ok (.iload_n 1, 1) := by decide +kernel
theorem dX8_brings_16 : decode cX8_brings 16 = .ok (.iload 4, 2) := by decide +kernel
theorem dX8_brings_18 : decode cX8_brings 18 = .ok (.iload_n 3, 1) := by decide +kernel
theorem dX8_brings_19 : decode cX8_brings 19 = .ok (.invokevirtual 171, 3) := by decide +kernel
theorem dX8_brings_22 : decode cX8_brings 22 = .ok (.istore 5, 2) := by decide +kernel
theorem dX8_brings_24 : decode cX8_brings 24 = .ok (.iconst 0, 1) := by decide +kernel
theorem dX8_brings_25 : decode cX8_brings 25 = .ok (.istore 6, 2) := by decide +kernel
theorem dX8_brings_27 : decode cX8_brings 27 = .ok (.iload 6, 2) := by decide +kernel
theorem dX8_brings_29 : decode cX8_brings 29 = .ok (.iload 5, 2) := by decide +kernel
theorem dX8_brings_31 : decode cX8_brings 31 = .ok (.if_icmp .ge 54, 3) := by decide +kernel
theorem dX8_brings_34 : decode cX8_brings 34 = .ok (.aload_n 0, 1) := by decide +kernel
theorem dX8_brings_35 : decode cX8_brings 35 = .ok (.getfield 25, 3) := by decide +kernel
theorem dX8_brings_38 : decode cX8_brings 38 = .ok (.aload_n 0, 1) := by decide +kernel
theorem dX8_brings_39 : decode cX8_brings 39 = .ok (.getfield 167, 3) := by decide +kernel
theorem dX8_brings_42 : decode cX8_brings 42 = .ok (.aload_n 0, 1) := by decide +kernel
theorem dX8_brings_43 : decode cX8_brings 43 = .ok (.getfield 7, 3) := by decide +kernel
theorem dX8_brings_46 : decode cX8_brings 46 = .ok (.bipush 57, 2) := by decide +kernel
theorem dX8_brings_48 : decode cX8_brings 48 = .ok (.iload_n 1, 1) := by decide +kernel
theorem dX8_brings_49 : decode cX8_brings 49 = .ok (.iload 4, 2) := by decide +kernel
theorem dX8_brings_51 : decode cX8_brings 51 = .ok (.aload_n 0, 1) := by decide +kernel
theorem dX8_brings_52 : decode cX8_brings 52 = .ok (.iload_n 1, 1) := by decide +kernel
theorem dX8_brings_53 : decode cX8_brings 53 = .ok (.iload 4, 2) := by decide +kernel
theorem dX8_brings_55 : decode cX8_brings 55 = .ok (.invokevirtual 78, 3) := by decide +kernel
theorem dX8_brings_58 : decode cX8_brings 58 = .ok (.iconst 1, 1) := by decide +kernel
theorem dX8_brings_59 : decode cX8_brings 59 = .ok (.isub, 1) := by decide +kernel
theorem dX8_brings_60 : decode cX8_brings 60 = .ok (.iload 6, 2) := by decide +kernel
theorem dX8_brings_62 : decode cX8_brings 62 = .ok (.isub, 1) := by decide +kernel
theorem dX8_brings_63 : decode cX8_brings 63 = .ok (.invokestatic 84, 3) := by decide +kernel
theorem dX8_brings_66 : decode cX8_brings 66 = .ok (.iadd, 1) := by decide +kernel
theorem dX8_brings_67 : decode cX8_brings 67 = .ok (.iaload, 1) := by decide +kernel
theorem dX8_brings_68 : decode cX8_brings 68 = .ok (.iastore, 1) := by decide +kernel
theorem dX8_brings_69 : decode cX8_brings 69 = .ok (.aload_n 0, 1) := by decide +kernel
theorem dX8_brings_70 : decode cX8_brings 70 = .ok (.dup, 1) := by decide +kernel
theorem dX8_brings_71 : decode cX8_brings 71 = .ok (.getfield 167, 3) := by decide +kernel
theorem dX8_brings_74 : decode cX8_brings 74 = .ok (.iconst 1, 1) := by decide +kernel
theorem dX8_brings_75 : decode cX8_brings 75 = .ok (.iadd, 1) := by decide +kernel
theorem dX8_brings_76 : decode cX8_brings 76 = .ok (.putfield 167, 3) := by decide +kernel
theorem dX8_brings_79 : decode cX8_brings 79 = .ok (.iinc 6 1, 3) := by decide +kernel
theorem dX8_brings_82 : decode cX8_brings 82 = .ok (.goto (-55), 3) := by decide +kernel
theorem dX8_brings_85 : decode cX8_brings 85 = .ok (.iinc 4 1, 3) := by decide +kernel
theorem dX8_brings_88 : decode cX8_brings 88 = .ok (.goto (-80), 3) := by decide +kernel
theorem dX8_brings_91 : decode cX8_brings 91 = .ok (.return_, 1) := by decide +kernel
theorem dX8_broughtBy_0 : decode cX8_broughtBy 0 = .ok (.aload_n 0, 1) := by decide +kernel
theorem dX8_broughtBy_1 : decode cX8_broughtBy 1 = .ok (.iload_n 1, 1) := by decide +kernel
theorem dX8_broughtBy_2 : decode cX8_broughtBy 2 = .ok (.iload_n 2, 1) := by decide +kernel
theorem dX8_broughtBy_3 : decode cX8_broughtBy 3 = .ok (.iload_n 3, 1) := by decide +kernel
theorem dX8_broughtBy_4 : decode cX8_broughtBy 4 = .ok (.invokevirtual 174, 3) := by decide +kernel
theorem dX8_broughtBy_7 : decode cX8_broughtBy 7 = .ok (.iconst 0, 1) := by decide +kernel
theorem dX8_broughtBy_8 : decode cX8_broughtBy 8 = .ok (.istore 4, 2) := by decide +kernel
theorem dX8_broughtBy_10 : decode cX8_broughtBy 10 = .ok (.iconst 0, 1) := by decide +kernel
theorem dX8_broughtBy_11 : decode cX8_broughtBy 11 = .ok (.istore 5, 2) := by decide +kernel
theorem dX8_broughtBy_13 : decode cX8_broughtBy 13 = .ok (.iload 5, 2) := by decide +kernel
theorem dX8_broughtBy_15 : decode cX8_broughtBy 15 = .ok (.aload_n 0, 1) := by decide +kernel
theorem dX8_broughtBy_16 : decode cX8_broughtBy 16 = .ok (.getfield 167, 3) := by decide +kernel
theorem dX8_broughtBy_19 : decode cX8_broughtBy 19 = .ok (.if_icmp .ge 23, 3) := by decide +kernel
theorem dX8_broughtBy_22 : decode cX8_broughtBy 22 = .ok (.iload 4, 2) := by decide +kernel
theorem dX8_broughtBy_24 : decode cX8_broughtBy 24 = .ok (.iconst 1, 1) := by decide +kernel
theorem dX8_broughtBy_25 : decode cX8_broughtBy 25 = .ok (.aload_n 0, 1) := by decide +kernel
theorem dX8_broughtBy_26 : decode cX8_broughtBy 26 = .ok (.getfield 25, 3) := by decide +kernel
theorem dX8_broughtBy_29 : decode cX8_broughtBy 29 = .ok (.iload 5, 2) := by decide +kernel
theorem dX8_broughtBy_31 : decode cX8_broughtBy 31 = .ok (.iaload, 1) := by decide +kernel
theorem dX8_broughtBy_32 : decode cX8_broughtBy 32 = .ok (.ishl, 1) := by decide +kernel
theorem dX8_broughtBy_33 : decode cX8_broughtBy 33 = .ok (.ior, 1) := by decide +kernel
theorem dX8_broughtBy_34 : decode cX8_broughtBy 34 = .ok (.istore 4, 2) := by decide +kernel
theorem dX8_broughtBy_36 : decode cX8_broughtBy 36 = .ok (.iinc 5 1, 3) := by decide +kernel
theorem dX8_broughtBy_39 : decode cX8_broughtBy 39 = .ok (.goto (-26), 3) := by decide +kernel
theorem dX8_broughtBy_42 : decode cX8_broughtBy 42 = .ok (.iload 4, 2) := by decide +kernel
theorem dX8_broughtBy_44 : decode cX8_broughtBy 44 = .ok (.ireturn, 1) := by decide +kernel
theorem dX8_isBrush_0 : decode cX8_isBrush 0 = .ok (.aload_n 0, 1) := by decide +kernel
theorem dX8_isBrush_1 : decode cX8_isBrush 1 = .ok (.iload_n 1, 1) := by decide +kernel
theorem dX8_isBrush_2 : decode cX8_isBrush 2 = .ok (.invokevirtual 91, 3) := by decide +kernel
theorem dX8_isBrush_5 : decode cX8_isBrush 5 = .ok (.ifCond .eq 21, 3) := by decide +kernel
theorem dX8_isBrush_8 : decode cX8_isBrush 8 = .ok (.iload_n 2, 1) := by decide +kernel
theorem dX8_isBrush_9 : decode cX8_isBrush 9 = .ok (.invokestatic 108, 3) := by decide +kernel
theorem dX8_isBrush_12 : decode cX8_isBrush 12 = .ok (.ifCond .eq 14, 3) := by decide +kernel
theorem dX8_isBrush_15 : decode cX8_isBrush 15 = .ok (.iload_n 3, 1) := by decide +kernel
theorem dX8_isBrush_16 : decode cX8_isBrush 16 = .ok (.invokestatic 178, 3) := by decide +kernel
theorem dX8_isBrush_19 : decode cX8_isBrush 19 = .ok (.ifCond .eq 7, 3) := by decide +kernel
theorem dX8_isBrush_22 : decode cX8_isBrush 22 = .ok (.iconst 1, 1) := by decide +kernel
theorem dX8_isBrush_23 : decode cX8_isBrush 23 = .ok (.goto 4, 3) := by decide +kernel
theorem dX8_isBrush_26 : decode cX8_isBrush 26 = .ok (.iconst 0, 1) := by decide +kernel
theorem dX8_isBrush_27 : decode cX8_isBrush 27 = .ok (.ireturn, 1) := by decide +kernel
theorem dX8_sweep_0 : decode cX8_sweep 0 = .ok (.aload_n 0, 1) := by decide +kernel
theorem dX8_sweep_1 : decode cX8_sweep 1 = .ok (.iload_n 1, 1) := by decide +kernel
theorem dX8_sweep_2 : decode cX8_sweep 2 = .ok (.iload_n 2, 1) := by decide +kernel
theorem dX8_sweep_3 : decode cX8_sweep 3 = .ok (.iload_n 3, 1) := by decide +kernel
theorem dX8_sweep_4 : decode cX8_sweep 4 = .ok (.invokevirtual 181, 3) := by decide +kernel
theorem dX8_sweep_7 : decode cX8_sweep 7 = .ok (.ifCond .ne 10, 3) := by decide +kernel
theorem dX8_sweep_10 : decode cX8_sweep 10 = .ok (.aload_n 0, 1) := by decide +kernel
theorem dX8_sweep_11 : decode cX8_sweep 11 = .ok (.ldc 44, 2) := by decide +kernel
theorem dX8_sweep_13 : decode cX8_sweep 13 = .ok (.invokevirtual 67, 3) := by decide +kernel
theorem dX8_sweep_16 : decode cX8_sweep 16 = .ok (.ireturn, 1) := by decide +kernel
theorem dX8_sweep_17 : decode cX8_sweep 17 = .ok (.iconst 0, 1) := by decide +kernel
theorem dX8_sweep_18 : decode cX8_sweep 18 = .ok (.istore 4, 2) := by decide +kernel
theorem dX8_sweep_20 : decode cX8_sweep 20 = .ok (.iconst 0, 1) := by decide +kernel
theorem dX8_sweep_21 : decode cX8_sweep 21 = .ok (.istore 5, 2) := by decide +kernel
theorem dX8_sweep_23 : decode cX8_sweep 23 = .ok (.iload 5, 2) := by decide +kernel
theorem dX8_sweep_25 : decode cX8_sweep 25 = .ok (.iload_n 2, 1) := by decide +kernel
theorem dX8_sweep_26 : decode cX8_sweep 26 = .ok (.if_icmp .gt 45, 3) := by decide +kernel
theorem dX8_sweep_29 : decode cX8_sweep 29 = .ok (.aload_n 0, 1) := by decide +kernel
theorem dX8_sweep_30 : decode cX8_sweep 30 = .ok (.iload_n 1, 1) := by decide +kernel
theorem dX8_sweep_31 : decode cX8_sweep 31 = .ok (.iload 5, 2) := by decide +kernel
theorem dX8_sweep_33 : decode cX8_sweep 33 = .ok (.iload_n 3, 1) := by decide +kernel
theorem dX8_sweep_34 : decode cX8_sweep 34 = .ok (.invokevirtual 171, 3) := by decide +kernel
theorem dX8_sweep_37 : decode cX8_sweep 37 = .ok (.istore 6, 2) := by decide +kernel
theorem dX8_sweep_39 : decode cX8_sweep 39 = .ok (.aload_n 0, 1) := by decide +kernel
theorem dX8_sweep_40 : decode cX8_sweep 40 = .ok (.getfield 7, 3) := by decide +kernel
theorem dX8_sweep_43 : decode cX8_sweep 43 = .ok (.bipush 9, 2) := by decide +kernel
theorem dX8_sweep_45 : decode cX8_sweep 45 = .ok (.iload_n 1, 1) := by decide +kernel
theorem dX8_sweep_46 : decode cX8_sweep 46 = .ok (.iload 5, 2) := by decide +kernel
theorem dX8_sweep_48 : decode cX8_sweep 48 = .ok (.invokestatic 59, 3) := by decide +kernel
theorem dX8_sweep_51 : decode cX8_sweep 51 = .ok (.iadd, 1) := by decide +kernel
theorem dX8_sweep_52 : decode cX8_sweep 52 = .ok (.dup2, 1) := by decide +kernel
theorem dX8_sweep_53 : decode cX8_sweep 53 = .ok (.iaload, 1) := by decide +kernel
theorem dX8_sweep_54 : decode cX8_sweep 54 = .ok (.iload 6, 2) := by decide +kernel
theorem dX8_sweep_56 : decode cX8_sweep 56 = .ok (.isub, 1) := by decide +kernel
theorem dX8_sweep_57 : decode cX8_sweep 57 = .ok (.iastore, 1) := by decide +kernel
theorem dX8_sweep_58 : decode cX8_sweep 58 = .ok (.iload 4, 2) := by decide +kernel
theorem dX8_sweep_60 : decode cX8_sweep 60 = .ok (.iload 6, 2) := by decide +kernel
theorem dX8_sweep_62 : decode cX8_sweep 62 = .ok (.iadd, 1) := by decide +kernel
theorem dX8_sweep_63 : decode cX8_sweep 63 = .ok (.istore 4, 2) := by decide +kernel
theorem dX8_sweep_65 : decode cX8_sweep 65 = .ok (.iinc 5 1, 3) := by decide +kernel
theorem dX8_sweep_68 : decode cX8_sweep 68 = .ok (.goto (-45), 3) := by decide +kernel
theorem dX8_sweep_71 : decode cX8_sweep 71 = .ok (.iload 4, 2) := by decide +kernel
theorem dX8_sweep_73 : decode cX8_sweep 73 = .ok (.ireturn, 1) := by decide +kernel
theorem dX8_brought_0 : decode cX8_brought 0 = .ok (.aload_n 0, 1) := by decide +kernel
theorem dX8_brought_1 : decode cX8_brought 1 = .ok (.iload_n 1, 1) := by decide +kernel
theorem dX8_brought_2 : decode cX8_brought 2 = .ok (.iload_n 2, 1) := by decide +kernel
theorem dX8_brought_3 : decode cX8_brought 3 = .ok (.iload_n 3, 1) := by decide +kernel
theorem dX8_brought_4 : decode cX8_brought 4 = .ok (.invokevirtual 181, 3) := by decide +kernel
theorem dX8_brought_7 : decode cX8_brought 7 = .ok (.ifCond .eq 13, 3) := by decide +kernel
theorem dX8_brought_10 : decode cX8_brought 10 = .ok (.aload_n 0, 1) := by decide +kernel
theorem dX8_brought_11 : decode cX8_brought 11 = .ok (.iload_n 1, 1) := by decide +kernel
theorem dX8_brought_12 : decode cX8_brought 12 = .ok (.iload_n 2, 1) := by decide +kernel
theorem dX8_brought_13 : decode cX8_brought 13 = .ok (.iload_n 3, 1) := by decide +kernel
theorem dX8_brought_14 : decode cX8_brought 14 = .ok (.invokevirtual 185, 3) := by decide +kernel
theorem dX8_brought_17 : decode cX8_brought 17 = .ok (.goto 9, 3) := by decide +kernel
theorem dX8_brought_20 : decode cX8_brought 20 = .ok (.aload_n 0, 1) := by decide +kernel
theorem dX8_brought_21 : decode cX8_brought 21 = .ok (.ldc 44, 2) := by decide +kernel
theorem dX8_brought_23 : decode cX8_brought 23 = .ok (.invokevirtual 67, 3) := by decide +kernel
theorem dX8_brought_26 : decode cX8_brought 26 = .ok (.ireturn, 1) := by decide +kernel
theorem dX8_order_0 : decode cX8_order 0 = .ok (.aload_n 0, 1) := by decide +kernel
theorem dX8_order_1 : decode cX8_order 1 = .ok (.iload_n 1, 1) := by decide +kernel
theorem dX8_order_2 : decode cX8_order 2 = .ok (.iload_n 2, 1) := by decide +kernel
theorem dX8_order_3 : decode cX8_order 3 = .ok (.iload_n 3, 1) := by decide +kernel
theorem dX8_order_4 : decode cX8_order 4 = .ok (.invokevirtual 181, 3) := by decide +kernel
theorem dX8_order_7 : decode cX8_order 7 = .ok (.ifCond .eq 8, 3) := by decide +kernel
theorem dX8_order_10 : decode cX8_order 10 = .ok (.iload 4, 2) := by decide +kernel
theorem dX8_order_12 : decode cX8_order 12 = .ok (.ifCond .ge 10, 3) := by decide +kernel
theorem dX8_order_15 : decode cX8_order 15 = .ok (.aload_n 0, 1) := by decide +kernel
theorem dX8_order_16 : decode cX8_order 16 = .ok (.ldc 44, 2) := by decide +kernel
theorem dX8_order_18 : decode cX8_order 18 = .ok (.invokevirtual 67, 3) := by decide +kernel
theorem dX8_order_21 : decode cX8_order 21 = .ok (.ireturn, 1) := by decide +kernel
theorem dX8_order_22 : decode cX8_order 22 = .ok (.aload_n 0, 1) := by decide +kernel
theorem dX8_order_23 : decode cX8_order 23 = .ok (.iload_n 1, 1) := by decide +kernel
theorem dX8_order_24 : decode cX8_order 24 = .ok (.iload_n 2, 1) := by decide +kernel
theorem dX8_order_25 : decode cX8_order 25 = .ok (.iload_n 3, 1) := by decide +kernel
theorem dX8_order_26 : decode cX8_order 26 = .ok (.invokevirtual 174, 3) := by decide +kernel
theorem dX8_order_29 : decode cX8_order 29 = .ok (.iload 4, 2) := by decide +kernel
theorem dX8_order_31 : decode cX8_order 31 = .ok (.aload_n 0, 1) := by decide +kernel
theorem dX8_order_32 : decode cX8_order 32 = .ok (.getfield 167, 3) := by decide +kernel
theorem dX8_order_35 : decode cX8_order 35 = .ok (.if_icmp .ge 13, 3) := by decide +kernel
theorem dX8_order_38 : decode cX8_order 38 = .ok (.aload_n 0, 1) := by decide +kernel
theorem dX8_order_39 : decode cX8_order 39 = .ok (.getfield 25, 3) := by decide +kernel
theorem dX8_order_42 : decode cX8_order 42 = .ok (.iload 4, 2) := by decide +kernel
theorem dX8_order_44 : decode cX8_order 44 = .ok (.iaload, 1) := by decide +kernel
theorem dX8_order_45 : decode cX8_order 45 = .ok (.goto 9, 3) := by decide +kernel
theorem dX8_order_48 : decode cX8_order 48 = .ok (.aload_n 0, 1) := by decide +kernel
theorem dX8_order_49 : decode cX8_order 49 = .ok (.ldc 113, 2) := by decide +kernel
theorem dX8_order_51 : decode cX8_order 51 = .ok (.invokevirtual 67, 3) := by decide +kernel
theorem dX8_order_54 : decode cX8_order 54 = .ok (.ireturn, 1) := by decide +kernel
theorem dX8_on_0 : decode cX8_on 0 = .ok (.aload_n 0, 1) := by decide +kernel
theorem dX8_on_1 : decode cX8_on 1 = .ok (.iload_n 1, 1) := by decide +kernel
theorem dX8_on_2 : decode cX8_on 2 = .ok (.iload_n 2, 1) := by decide +kernel
theorem dX8_on_3 : decode cX8_on 3 = .ok (.iload_n 3, 1) := by decide +kernel
theorem dX8_on_4 : decode cX8_on 4 = .ok (.invokevirtual 181, 3) := by decide +kernel
theorem dX8_on_7 : decode cX8_on 7 = .ok (.ifCond .eq 16, 3) := by decide +kernel
theorem dX8_on_10 : decode cX8_on 10 = .ok (.iload 4, 2) := by decide +kernel
theorem dX8_on_12 : decode cX8_on 12 = .ok (.i2l, 1) := by decide +kernel
theorem dX8_on_13 : decode cX8_on 13 = .ok (.lconst 0, 1) := by decide +kernel
theorem dX8_on_14 : decode cX8_on 14 = .ok (.ldc2_w 147, 3) := by decide +kernel
theorem dX8_on_17 : decode cX8_on 17 = .ok (.invokestatic 45, 3) := by decide +kernel
theorem dX8_on_20 : decode cX8_on 20 = .ok (.ifCond .ne 10, 3) := by decide +kernel
theorem dX8_on_23 : decode cX8_on 23 = .ok (.aload_n 0, 1) := by decide +kernel
theorem dX8_on_24 : decode cX8_on 24 = .ok (.ldc 44, 2) := by decide +kernel
theorem dX8_on_26 : decode cX8_on 26 = .ok (.invokevirtual 67, 3) := by decide +kernel
theorem dX8_on_29 : decode cX8_on 29 = .ok (.ireturn, 1) := by decide +kernel
theorem dX8_on_30 : decode cX8_on 30 = .ok (.aload_n 0, 1) := by decide +kernel
theorem dX8_on_31 : decode cX8_on 31 = .ok (.invokevirtual 188, 3) := by decide +kernel
theorem dX8_on_34 : decode cX8_on 34 = .ok (.aload_n 0, 1) := by decide +kernel
theorem dX8_on_35 : decode cX8_on 35 = .ok (.iload 4, 2) := by decide +kernel
theorem dX8_on_37 : decode cX8_on 37 = .ok (.invokevirtual 150, 3) := by decide +kernel
theorem dX8_on_40 : decode cX8_on 40 = .ok (.aload_n 0, 1) := by decide +kernel
theorem dX8_on_41 : decode cX8_on 41 = .ok (.iload_n 1, 1) := by decide +kernel
theorem dX8_on_42 : decode cX8_on 42 = .ok (.iload_n 2, 1) := by decide +kernel
theorem dX8_on_43 : decode cX8_on 43 = .ok (.iload_n 3, 1) := by decide +kernel
theorem dX8_on_44 : decode cX8_on 44 = .ok (.invokevirtual 174, 3) := by decide +kernel
theorem dX8_on_47 : decode cX8_on 47 = .ok (.aload_n 0, 1) := by decide +kernel
theorem dX8_on_48 : decode cX8_on 48 = .ok (.aload_n 0, 1) := by decide +kernel
theorem dX8_on_49 : decode cX8_on 49 = .ok (.getfield 167, 3) := by decide +kernel
theorem dX8_on_52 : decode cX8_on 52 = .ok (.invokevirtual 191, 3) := by decide +kernel
theorem dX8_on_55 : decode cX8_on 55 = .ok (.ireturn, 1) := by decide +kernel
theorem dX8_reach_0 : decode cX8_reach 0 = .ok (.aload_n 0, 1) := by decide +kernel
theorem dX8_reach_1 : decode cX8_reach 1 = .ok (.iload_n 1, 1) := by decide +kernel
theorem dX8_reach_2 : decode cX8_reach 2 = .ok (.invokevirtual 91, 3) := by decide +kernel
theorem dX8_reach_5 : decode cX8_reach 5 = .ok (.ifCond .eq 17, 3) := by decide +kernel
theorem dX8_reach_8 : decode cX8_reach 8 = .ok (.iload_n 2, 1) := by decide +kernel
theorem dX8_reach_9 : decode cX8_reach 9 = .ok (.invokestatic 194, 3) := by decide +kernel
theorem dX8_reach_12 : decode cX8_reach 12 = .ok (.ifCond .eq 10, 3) := by decide +kernel
theorem dX8_reach_15 : decode cX8_reach 15 = .ok (.iload_n 3, 1) := by decide +kernel
theorem dX8_reach_16 : decode cX8_reach 16 = .ok (.invokestatic 178, 3) := by decide +kernel
theorem dX8_reach_19 : decode cX8_reach 19 = .ok (.ifCond .ne 10, 3) := by decide +kernel
theorem dX8_reach_22 : decode cX8_reach 22 = .ok (.aload_n 0, 1) := by decide +kernel
theorem dX8_reach_23 : decode cX8_reach 23 = .ok (.ldc 44, 2) := by decide +kernel
theorem dX8_reach_25 : decode cX8_reach 25 = .ok (.invokevirtual 67, 3) := by decide +kernel
theorem dX8_reach_28 : decode cX8_reach 28 = .ok (.ireturn, 1) := by decide +kernel
theorem dX8_reach_29 : decode cX8_reach 29 = .ok (.iconst 0, 1) := by decide +kernel
theorem dX8_reach_30 : decode cX8_reach 30 = .ok (.istore 4, 2) := by decide +kernel
theorem dX8_reach_32 : decode cX8_reach 32 = .ok (.iload 4, 2) := by decide +kernel
theorem dX8_reach_34 : decode cX8_reach 34 = .ok (.bipush 8, 2) := by decide +kernel
theorem dX8_reach_36 : decode cX8_reach 36 = .ok (.if_icmp .ge 27, 3) := by decide +kernel
theorem dX8_reach_39 : decode cX8_reach 39 = .ok (.iload_n 2, 1) := by decide +kernel
theorem dX8_reach_40 : decode cX8_reach 40 = .ok (.aload_n 0, 1) := by decide +kernel
theorem dX8_reach_41 : decode cX8_reach 41 = .ok (.iload_n 1, 1) := by decide +kernel
theorem dX8_reach_42 : decode cX8_reach 42 = .ok (.iload 4, 2) := by decide +kernel
theorem dX8_reach_44 : decode cX8_reach 44 = .ok (.iload_n 3, 1) := by decide +kernel
theorem dX8_reach_45 : decode cX8_reach 45 = .ok (.invokevirtual 185, 3) := by decide +kernel
theorem dX8_reach_48 : decode cX8_reach 48 = .ok (.iconst (-1), 1) := by decide +kernel
theorem dX8_reach_49 : decode cX8_reach 49 = .ok (.ixor, 1) := by decide +kernel
theorem dX8_reach_50 : decode cX8_reach 50 = .ok (.iand, 1) := by decide +kernel
theorem dX8_reach_51 : decode cX8_reach 51 = .ok (.ifCond .ne 6, 3) := by decide +kernel
theorem dX8_reach_54 : decode cX8_reach 54 = .ok (.iload 4, 2) := by decide +kernel
theorem dX8_reach_56 : decode cX8_reach 56 = .ok (.ireturn, 1) := by decide +kernel
theorem dX8_reach_57 : decode cX8_reach 57 = .ok (.iinc 4 1, 3) := by decide +kernel
theorem dX8_reach_60 : decode cX8_reach 60 = .ok (.goto (-28), 3) := by decide +kernel
theorem dX8_reach_63 : decode cX8_reach 63 = .ok (.aload_n 0, 1) := by decide +kernel
theorem dX8_reach_64 : decode cX8_reach 64 = .ok (.ldc 113, 2) := by decide +kernel
theorem dX8_reach_66 : decode cX8_reach 66 = .ok (.invokevirtual 67, 3) := by decide +kernel
theorem dX8_reach_69 : decode cX8_reach 69 = .ok (.ireturn, 1) := by decide +kernel
theorem dX8_strength_0 : decode cX8_strength 0 = .ok (.aload_n 0, 1) := by decide +kernel
theorem dX8_strength_1 : decode cX8_strength 1 = .ok (.iload_n 1, 1) := by decide +kernel
theorem dX8_strength_2 : decode cX8_strength 2 = .ok (.invokevirtual 91, 3) := by decide +kernel
theorem dX8_strength_5 : decode cX8_strength 5 = .ok (.ifCond .eq 17, 3) := by decide +kernel
theorem dX8_strength_8 : decode cX8_strength 8 = .ok (.iload_n 2, 1) := by decide +kernel
theorem dX8_strength_9 : decode cX8_strength 9 = .ok (.invokestatic 108, 3) := by decide +kernel
theorem dX8_strength_12 : decode cX8_strength 12 = .ok (.ifCond .eq 10, 3) := by decide +kernel
theorem dX8_strength_15 : decode cX8_strength 15 = .ok (.iload_n 3, 1) := by decide +kernel
theorem dX8_strength_16 : decode cX8_strength 16 = .ok (.invokestatic 194, 3) := by decide +kernel
theorem dX8_strength_19 : decode cX8_strength 19 = .ok (.ifCond .ne 10, 3) := by decide +kernel
theorem dX8_strength_22 : decode cX8_strength 22 = .ok (.aload_n 0, 1) := by decide +kernel
theorem dX8_strength_23 : decode cX8_strength 23 = .ok (.ldc 44, 2) := by decide +kernel
theorem dX8_strength_25 : decode cX8_strength 25 = .ok (.invokevirtual 67, 3) := by decide +kernel
theorem dX8_strength_28 : decode cX8_strength 28 = .ok (.ireturn, 1) := by decide +kernel
theorem dX8_strength_29 : decode cX8_strength 29 = .ok (.iconst 1, 1) := by decide +kernel
theorem dX8_strength_30 : decode cX8_strength 30 = .ok (.istore 4, 2) := by decide +kernel
theorem dX8_strength_32 : decode cX8_strength 32 = .ok (.iload 4, 2) := by decide +kernel
theorem dX8_strength_34 : decode cX8_strength 34 = .ok (.bipush 9, 2) := by decide +kernel
theorem dX8_strength_36 : decode cX8_strength 36 = .ok (.if_icmp .gt 27, 3) := by decide +kernel
theorem dX8_strength_39 : decode cX8_strength 39 = .ok (.iload_n 3, 1) := by decide +kernel
theorem dX8_strength_40 : decode cX8_strength 40 = .ok (.aload_n 0, 1) := by decide +kernel
theorem dX8_strength_41 : decode cX8_strength 41 = .ok (.iload_n 1, 1) := by decide +kernel
theorem dX8_strength_42 : decode cX8_strength 42 = .ok (.iload_n 2, 1) := by decide +kernel
theorem dX8_strength_43 : decode cX8_strength 43 = .ok (.iload 4, 2) := by decide +kernel
theorem dX8_strength_45 : decode cX8_strength 45 = .ok (.invokevirtual 185, 3) := by decide +kernel
theorem dX8_strength_48 : decode cX8_strength 48 = .ok (.iconst (-1), 1) := by decide +kernel
theorem dX8_strength_49 : decode cX8_strength 49 = .ok (.ixor, 1) := by decide +kernel
theorem dX8_strength_50 : decode cX8_strength 50 = .ok (.iand, 1) := by decide +kernel
theorem dX8_strength_51 : decode cX8_strength 51 = .ok (.ifCond .ne 6, 3) := by decide +kernel
theorem dX8_strength_54 : decode cX8_strength 54 = .ok (.iload 4, 2) := by decide +kernel
theorem dX8_strength_56 : decode cX8_strength 56 = .ok (.ireturn, 1) := by decide +kernel
theorem dX8_strength_57 : decode cX8_strength 57 = .ok (.iinc 4 1, 3) := by decide +kernel
theorem dX8_strength_60 : decode cX8_strength 60 = .ok (.goto (-28), 3) := by decide +kernel
theorem dX8_strength_63 : decode cX8_strength 63 = .ok (.aload_n 0, 1) := by decide +kernel
theorem dX8_strength_64 : decode cX8_strength 64 = .ok (.ldc 113, 2) := by decide +kernel
theorem dX8_strength_66 : decode cX8_strength 66 = .ok (.invokevirtual 67, 3) := by decide +kernel
theorem dX8_strength_69 : decode cX8_strength 69 = .ok (.ireturn, 1) := by decide +kernel
theorem dX8_secret_0 : decode cX8_secret 0 = .ok (.aload_n 0, 1) := by decide +kernel
theorem dX8_secret_1 : decode cX8_secret 1 = .ok (.iload_n 1, 1) := by decide +kernel
theorem dX8_secret_2 : decode cX8_secret 2 = .ok (.invokevirtual 91, 3) := by decide +kernel
theorem dX8_secret_5 : decode cX8_secret 5 = .ok (.ifCond .eq 17, 3) := by decide +kernel
theorem dX8_secret_8 : decode cX8_secret 8 = .ok (.iload_n 2, 1) := by decide +kernel
theorem dX8_secret_9 : decode cX8_secret 9 = .ok (.invokestatic 194, 3) := by decide +kernel
theorem dX8_secret_12 : decode cX8_secret 12 = .ok (.ifCond .eq 10, 3) := by decide +kernel
theorem dX8_secret_15 : decode cX8_secret 15 = .ok (.iload_n 3, 1) := by decide +kernel
theorem dX8_secret_16 : decode cX8_secret 16 = .ok (.invokestatic 194, 3) := by decide +kernel
theorem dX8_secret_19 : decode cX8_secret 19 = .ok (.ifCond .ne 10, 3) := by decide +kernel
theorem dX8_secret_22 : decode cX8_secret 22 = .ok (.aload_n 0, 1) := by decide +kernel
theorem dX8_secret_23 : decode cX8_secret 23 = .ok (.ldc 44, 2) := by decide +kernel
theorem dX8_secret_25 : decode cX8_secret 25 = .ok (.invokevirtual 67, 3) := by decide +kernel
theorem dX8_secret_28 : decode cX8_secret 28 = .ok (.ireturn, 1) := by decide +kernel
theorem dX8_secret_29 : decode cX8_secret 29 = .ok (.iconst 0, 1) := by decide +kernel
theorem dX8_secret_30 : decode cX8_secret 30 = .ok (.istore 4, 2) := by decide +kernel
theorem dX8_secret_32 : decode cX8_secret 32 = .ok (.iload 4, 2) := by decide +kernel
theorem dX8_secret_34 : decode cX8_secret 34 = .ok (.bipush 80, 2) := by decide +kernel
theorem dX8_secret_36 : decode cX8_secret 36 = .ok (.if_icmp .ge 65, 3) := by decide +kernel
theorem dX8_secret_39 : decode cX8_secret 39 = .ok (.iload 4, 2) := by decide +kernel
theorem dX8_secret_41 : decode cX8_secret 41 = .ok (.bipush 10, 2) := by decide +kernel
theorem dX8_secret_43 : decode cX8_secret 43 = .ok (.irem, 1) := by decide +kernel
theorem dX8_secret_44 : decode cX8_secret 44 = .ok (.ifCond .ne 7, 3) := by decide +kernel
theorem dX8_secret_47 : decode cX8_secret 47 = .ok (.iconst 0, 1) := by decide +kernel
theorem dX8_secret_48 : decode cX8_secret 48 = .ok (.goto 18, 3) := by decide +kernel
theorem dX8_secret_51 : decode cX8_secret 51 = .ok (.aload_n 0, 1) := by decide +kernel
theorem dX8_secret_52 : decode cX8_secret 52 = .ok (.iload_n 1, 1) := by decide +kernel
theorem dX8_secret_53 : decode cX8_secret 53 = .ok (.iload 4, 2) := by decide +kernel
theorem dX8_secret_55 : decode cX8_secret 55 = .ok (.bipush 10, 2) := by decide +kernel
theorem dX8_secret_57 : decode cX8_secret 57 = .ok (.idiv, 1) := by decide +kernel
theorem dX8_secret_58 : decode cX8_secret 58 = .ok (.iload 4, 2) := by decide +kernel
theorem dX8_secret_60 : decode cX8_secret 60 = .ok (.bipush 10, 2) := by decide +kernel
theorem dX8_secret_62 : decode cX8_secret 62 = .ok (.irem, 1) := by decide +kernel
theorem dX8_secret_63 : decode cX8_secret 63 = .ok (.invokevirtual 185, 3) := by decide +kernel
theorem dX8_secret_66 : decode cX8_secret 66 = .ok (.istore 5, 2) := by decide +kernel
theorem dX8_secret_68 : decode cX8_secret 68 = .ok (.iload 4, 2) := by decide +kernel
theorem dX8_secret_70 : decode cX8_secret 70 = .ok (.bipush 10, 2) := by decide +kernel
theorem dX8_secret_72 : decode cX8_secret 72 = .ok (.irem, 1) := by decide +kernel
theorem dX8_secret_73 : decode cX8_secret 73 = .ok (.ifCond .le 22, 3) := by decide +kernel
theorem dX8_secret_76 : decode cX8_secret 76 = .ok (.iload_n 2, 1) := by decide +kernel
theorem dX8_secret_77 : decode cX8_secret 77 = .ok (.iload 5, 2) := by decide +kernel
theorem dX8_secret_79 : decode cX8_secret 79 = .ok (.iconst (-1), 1) := by decide +kernel
theorem dX8_secret_80 : decode cX8_secret 80 = .ok (.ixor, 1) := by decide +kernel
theorem dX8_secret_81 : decode cX8_secret 81 = .ok (.iand, 1) := by decide +kernel
theorem dX8_secret_82 : decode cX8_secret 82 = .ok (.ifCond .ne 13, 3) := by decide +kernel
theorem dX8_secret_85 : decode cX8_secret 85 = .ok (.iload_n 3, 1) := by decide +kernel
theorem dX8_secret_86 : decode cX8_secret 86 = .ok (.iload 5, 2) := by decide +kernel
theorem dX8_secret_88 : decode cX8_secret 88 = .ok (.iand, 1) := by decide +kernel
theorem dX8_secret_89 : decode cX8_secret 89 = .ok (.ifCond .ne 6, 3) := by decide +kernel
theorem dX8_secret_92 : decode cX8_secret 92 = .ok (.iload 4, 2) := by decide +kernel
theorem dX8_secret_94 : decode cX8_secret 94 = .ok (.ireturn, 1) := by decide +kernel
theorem dX8_secret_95 : decode cX8_secret 95 = .ok (.iinc 4 1, 3) := by decide +kernel
theorem dX8_secret_98 : decode cX8_secret 98 = .ok (.goto (-66), 3) := by decide +kernel
theorem dX8_secret_101 : decode cX8_secret 101 = .ok (.aload_n 0, 1) := by decide +kernel
theorem dX8_secret_102 : decode cX8_secret 102 = .ok (.ldc 113, 2) := by decide +kernel
theorem dX8_secret_104 : decode cX8_secret 104 = .ok (.invokevirtual 67, 3) := by decide +kernel
theorem dX8_secret_107 : decode cX8_secret 107 = .ok (.ireturn, 1) := by decide +kernel
theorem dX8_ones_0 : decode cX8_ones 0 = .ok (.iconst 0, 1) := by decide +kernel
theorem dX8_ones_1 : decode cX8_ones 1 = .ok (.istore_n 1, 1) := by decide +kernel
theorem dX8_ones_2 : decode cX8_ones 2 = .ok (.iload_n 0, 1) := by decide +kernel
theorem dX8_ones_3 : decode cX8_ones 3 = .ok (.istore_n 2, 1) := by decide +kernel
theorem dX8_ones_4 : decode cX8_ones 4 = .ok (.iload_n 2, 1) := by decide +kernel
theorem dX8_ones_5 : decode cX8_ones 5 = .ok (.ifCond .eq 15, 3) := by decide +kernel
theorem dX8_ones_8 : decode cX8_ones 8 = .ok (.iinc 1 1, 3) := by decide +kernel
theorem dX8_ones_11 : decode cX8_ones 11 = .ok (.iload_n 2, 1) := by decide +kernel
theorem dX8_ones_12 : decode cX8_ones 12 = .ok (.iload_n 2, 1) := by decide +kernel
theorem dX8_ones_13 : decode cX8_ones 13 = .ok (.iconst 1, 1) := by decide +kernel
theorem dX8_ones_14 : decode cX8_ones 14 = .ok (.isub, 1) := by decide +kernel
theorem dX8_ones_15 : decode cX8_ones 15 = .ok (.iand, 1) := by decide +kernel
theorem dX8_ones_16 : decode cX8_ones 16 = .ok (.istore_n 2, 1) := by decide +kernel
theorem dX8_ones_17 : decode cX8_ones 17 = .ok (.goto (-13), 3) := by decide +kernel
theorem dX8_ones_20 : decode cX8_ones 20 = .ok (.iload_n 1, 1) := by decide +kernel
theorem dX8_ones_21 : decode cX8_ones 21 = .ok (.ireturn, 1) := by decide +kernel
theorem dX8_fewest_0 : decode cX8_fewest 0 = .ok (.iload_n 1, 1) := by decide +kernel
theorem dX8_fewest_1 : decode cX8_fewest 1 = .ok (.invokestatic 194, 3) := by decide +kernel
theorem dX8_fewest_4 : decode cX8_fewest 4 = .ok (.ifCond .eq 10, 3) := by decide +kernel
theorem dX8_fewest_7 : decode cX8_fewest 7 = .ok (.iload_n 2, 1) := by decide +kernel
theorem dX8_fewest_8 : decode cX8_fewest 8 = .ok (.invokestatic 178, 3) := by decide +kernel
theorem dX8_fewest_11 : decode cX8_fewest 11 = .ok (.ifCond .ne 10, 3) := by decide +kernel
theorem dX8_fewest_14 : decode cX8_fewest 14 = .ok (.aload_n 0, 1) := by decide +kernel
theorem dX8_fewest_15 : decode cX8_fewest 15 = .ok (.ldc 44, 2) := by decide +kernel
theorem dX8_fewest_17 : decode cX8_fewest 17 = .ok (.invokevirtual 67, 3) := by decide +kernel
theorem dX8_fewest_20 : decode cX8_fewest 20 = .ok (.ireturn, 1) := by decide +kernel
theorem dX8_fewest_21 : decode cX8_fewest 21 = .ok (.iconst (-1), 1) := by decide +kernel
theorem dX8_fewest_22 : decode cX8_fewest 22 = .ok (.istore_n 3, 1) := by decide +kernel
theorem dX8_fewest_23 : decode cX8_fewest 23 = .ok (.iconst 0, 1) := by decide +kernel
theorem dX8_fewest_24 : decode cX8_fewest 24 = .ok (.istore 4, 2) := by decide +kernel
theorem dX8_fewest_26 : decode cX8_fewest 26 = .ok (.iload 4, 2) := by decide +kernel
theorem dX8_fewest_28 : decode cX8_fewest 28 = .ok (.iconst 1, 1) := by decide +kernel
theorem dX8_fewest_29 : decode cX8_fewest 29 = .ok (.aload_n 0, 1) := by decide +kernel
theorem dX8_fewest_30 : decode cX8_fewest 30 = .ok (.getfield 7, 3) := by decide +kernel
theorem dX8_fewest_33 : decode cX8_fewest 33 = .ok (.iconst 0, 1) := by decide +kernel
theorem dX8_fewest_34 : decode cX8_fewest 34 = .ok (.iaload, 1) := by decide +kernel
theorem dX8_fewest_35 : decode cX8_fewest 35 = .ok (.ishl, 1) := by decide +kernel
theorem dX8_fewest_36 : decode cX8_fewest 36 = .ok (.if_icmp .ge 92, 3) := by decide +kernel
theorem dX8_fewest_39 : decode cX8_fewest 39 = .ok (.iload_n 1, 1) := by decide +kernel
theorem dX8_fewest_40 : decode cX8_fewest 40 = .ok (.istore 5, 2) := by decide +kernel
theorem dX8_fewest_42 : decode cX8_fewest 42 = .ok (.iconst 0, 1) := by decide +kernel
theorem dX8_fewest_43 : decode cX8_fewest 43 = .ok (.istore 6, 2) := by decide +kernel
theorem dX8_fewest_45 : decode cX8_fewest 45 = .ok (.iload 6, 2) := by decide +kernel
theorem dX8_fewest_47 : decode cX8_fewest 47 = .ok (.aload_n 0, 1) := by decide +kernel
theorem dX8_fewest_48 : decode cX8_fewest 48 = .ok (.getfield 7, 3) := by decide +kernel
theorem dX8_fewest_51 : decode cX8_fewest 51 = .ok (.iconst 0, 1) := by decide +kernel
theorem dX8_fewest_52 : decode cX8_fewest 52 = .ok (.iaload, 1) := by decide +kernel
theorem dX8_fewest_53 : decode cX8_fewest 53 = .ok (.if_icmp .ge 41, 3) := by decide +kernel
theorem dX8_fewest_56 : decode cX8_fewest 56 = .ok (.iload 5, 2) := by decide +kernel
theorem dX8_fewest_58 : decode cX8_fewest 58 = .ok (.iload 4, 2) := by decide +kernel
theorem dX8_fewest_60 : decode cX8_fewest 60 = .ok (.iload 6, 2) := by decide +kernel
theorem dX8_fewest_62 : decode cX8_fewest 62 = .ok (.ishr, 1) := by decide +kernel
theorem dX8_fewest_63 : decode cX8_fewest 63 = .ok (.iconst 1, 1) := by decide +kernel
theorem dX8_fewest_64 : decode cX8_fewest 64 = .ok (.iand, 1) := by decide +kernel
theorem dX8_fewest_65 : decode cX8_fewest 65 = .ok (.iconst 1, 1) := by decide +kernel
theorem dX8_fewest_66 : decode cX8_fewest 66 = .ok (.if_icmp .ne 17, 3) := by decide +kernel
theorem dX8_fewest_69 : decode cX8_fewest 69 = .ok (.aload_n 0, 1) := by decide +kernel
theorem dX8_fewest_70 : decode cX8_fewest 70 = .ok (.iload 6, 2) := by decide +kernel
theorem dX8_fewest_72 : decode cX8_fewest 72 = .ok (.bipush 7, 2) := by decide +kernel
theorem dX8_fewest_74 : decode cX8_fewest 74 = .ok (.iload_n 2, 1) := by decide +kernel
theorem dX8_fewest_75 : decode cX8_fewest 75 = .ok (.invokevirtual 185, 3) := by decide +kernel
theorem dX8_fewest_78 : decode cX8_fewest 78 = .ok (.iconst (-1), 1) := by decide +kernel
theorem dX8_fewest_79 : decode cX8_fewest 79 = .ok (.ixor, 1) := by decide +kernel
theorem dX8_fewest_80 : decode cX8_fewest 80 = .ok (.goto 5, 3) := by decide +kernel
theorem dX8_fewest_83 : decode cX8_fewest 83 = .ok (.ldc 197, 2) := by decide +kernel
theorem dX8_fewest_85 : decode cX8_fewest 85 = .ok (.iand, 1) := by decide +kernel
theorem dX8_fewest_86 : decode cX8_fewest 86 = .ok (.istore 5, 2) := by decide +kernel
theorem dX8_fewest_88 : decode cX8_fewest 88 = .ok (.iinc 6 1, 3) := by decide +kernel
theorem dX8_fewest_91 : decode cX8_fewest 91 = .ok (.goto (-46), 3) := by decide +kernel
theorem dX8_fewest_94 : decode cX8_fewest 94 = .ok (.iload 5, 2) := by decide +kernel
theorem dX8_fewest_96 : decode cX8_fewest 96 = .ok (.ifCond .ne 24, 3) := by decide +kernel
theorem dX8_fewest_99 : decode cX8_fewest 99 = .ok (.iload_n 3, 1) := by decide +kernel
theorem dX8_fewest_100 : decode cX8_fewest 100 = .ok (.ifCond .lt 15, 3) := by decide +kernel
theorem dX8_fewest_103 : decode cX8_fewest 103 = .ok (.iload 4, 2) := by decide +kernel
theorem dX8_fewest_105 : decode cX8_fewest 105 = .ok (.invokestatic 198, 3) := by decide +kernel
theorem dX8_fewest_108 : decode cX8_fewest 108 = .ok (.iload_n 3, 1) := by decide +kernel
theorem dX8_fewest_109 : decode cX8_fewest 109 = .ok (.invokestatic 198, 3) := by decide +kernel
theorem dX8_fewest_112 : decode cX8_fewest 112 = .ok (.if_icmp .ge 8, 3) := by decide +kernel
theorem dX8_fewest_115 : decode cX8_fewest 115 = .ok (.iload 4, 2) := by decide +kernel
theorem dX8_fewest_117 : decode cX8_fewest 117 = .ok (.goto 4, 3) := by decide +kernel
theorem dX8_fewest_120 : decode cX8_fewest 120 = .ok (.iload_n 3, 1) := by decide +kernel
theorem dX8_fewest_121 : decode cX8_fewest 121 = .ok (.istore_n 3, 1) := by decide +kernel
theorem dX8_fewest_122 : decode cX8_fewest 122 = .ok (.iinc 4 1, 3) := by decide +kernel
theorem dX8_fewest_125 : decode cX8_fewest 125 = .ok (.goto (-99), 3) := by decide +kernel
theorem dX8_fewest_128 : decode cX8_fewest 128 = .ok (.iload_n 3, 1) := by decide +kernel
theorem dX8_fewest_129 : decode cX8_fewest 129 = .ok (.ifCond .ge 12, 3) := by decide +kernel
theorem dX8_fewest_132 : decode cX8_fewest 132 = .ok (.aload_n 0, 1) := by decide +kernel
theorem dX8_fewest_133 : decode cX8_fewest 133 = .ok (.ldc 113, 2) := by decide +kernel
theorem dX8_fewest_135 : decode cX8_fewest 135 = .ok (.invokevirtual 67, 3) := by decide +kernel
theorem dX8_fewest_138 : decode cX8_fewest 138 = .ok (.goto 4, 3) := by decide +kernel
theorem dX8_fewest_141 : decode cX8_fewest 141 = .ok (.iload_n 3, 1) := by decide +kernel
theorem dX8_fewest_142 : decode cX8_fewest 142 = .ok (.ireturn, 1) := by decide +kernel
theorem dX8_where_0 : decode cX8_where 0 = .ok (.iload_n 1, 1) := by decide +kernel
theorem dX8_where_1 : decode cX8_where 1 = .ok (.invokestatic 122, 3) := by decide +kernel
theorem dX8_where_4 : decode cX8_where 4 = .ok (.ifCond .ne 10, 3) := by decide +kernel
theorem dX8_where_7 : decode cX8_where 7 = .ok (.aload_n 0, 1) := by decide +kernel
theorem dX8_where_8 : decode cX8_where 8 = .ok (.ldc 44, 2) := by decide +kernel
theorem dX8_where_10 : decode cX8_where 10 = .ok (.invokevirtual 67, 3) := by decide +kernel
theorem dX8_where_13 : decode cX8_where 13 = .ok (.ireturn, 1) := by decide +kernel
theorem dX8_where_14 : decode cX8_where 14 = .ok (.iconst 0, 1) := by decide +kernel
theorem dX8_where_15 : decode cX8_where 15 = .ok (.istore_n 2, 1) := by decide +kernel
theorem dX8_where_16 : decode cX8_where 16 = .ok (.iconst 0, 1) := by decide +kernel
theorem dX8_where_17 : decode cX8_where 17 = .ok (.istore_n 3, 1) := by decide +kernel
theorem dX8_where_18 : decode cX8_where 18 = .ok (.iload_n 3, 1) := by decide +kernel
theorem dX8_where_19 : decode cX8_where 19 = .ok (.aload_n 0, 1) := by decide +kernel
theorem dX8_where_20 : decode cX8_where 20 = .ok (.getfield 7, 3) := by decide +kernel
theorem dX8_where_23 : decode cX8_where 23 = .ok (.iconst 0, 1) := by decide +kernel
theorem dX8_where_24 : decode cX8_where 24 = .ok (.iaload, 1) := by decide +kernel
theorem dX8_where_25 : decode cX8_where 25 = .ok (.if_icmp .ge 23, 3) := by decide +kernel
