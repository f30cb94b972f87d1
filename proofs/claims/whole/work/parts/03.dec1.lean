theorem dX0_init_0 : decode cX0_init 0 = .ok (.aload_n 0, 1) := by decide +kernel
theorem dX0_init_1 : decode cX0_init 1 = .ok (.invokespecial 3, 3) := by decide +kernel
theorem dX0_init_4 : decode cX0_init 4 = .ok (.aload_n 0, 1) := by decide +kernel
theorem dX0_init_5 : decode cX0_init 5 = .ok (.iconst 0, 1) := by decide +kernel
theorem dX0_init_6 : decode cX0_init 6 = .ok (.putfield 9, 3) := by decide +kernel
theorem dX0_init_9 : decode cX0_init 9 = .ok (.aload_n 0, 1) := by decide +kernel
theorem dX0_init_10 : decode cX0_init 10 = .ok (.iconst 0, 1) := by decide +kernel
theorem dX0_init_11 : decode cX0_init 11 = .ok (.putfield 15, 3) := by decide +kernel
theorem dX0_init_14 : decode cX0_init 14 = .ok (.aload_n 0, 1) := by decide +kernel
theorem dX0_init_15 : decode cX0_init 15 = .ok (.bipush 48, 2) := by decide +kernel
theorem dX0_init_17 : decode cX0_init 17 = .ok (.newarray .int, 2) := by decide +kernel
theorem dX0_init_19 : decode cX0_init 19 = .ok (.putfield 18, 3) := by decide +kernel
theorem dX0_init_22 : decode cX0_init 22 = .ok (.return_, 1) := by decide +kernel
theorem dX0_putUp_0 : decode cX0_putUp 0 = .ok (.iload 5, 2) := by decide +kernel
theorem dX0_putUp_2 : decode cX0_putUp 2 = .ok (.aload_n 1, 1) := by decide +kernel
theorem dX0_putUp_3 : decode cX0_putUp 3 = .ok (.iload_n 2, 1) := by decide +kernel
theorem dX0_putUp_4 : decode cX0_putUp 4 = .ok (.invokevirtual 22, 3) := by decide +kernel
theorem dX0_putUp_7 : decode cX0_putUp 7 = .ok (.aload_n 1, 1) := by decide +kernel
theorem dX0_putUp_8 : decode cX0_putUp 8 = .ok (.getfield 28, 3) := by decide +kernel
theorem dX0_putUp_11 : decode cX0_putUp 11 = .ok (.invokestatic 31, 3) := by decide +kernel
theorem dX0_putUp_14 : decode cX0_putUp 14 = .ok (.imul, 1) := by decide +kernel
theorem dX0_putUp_15 : decode cX0_putUp 15 = .ok (.istore 6, 2) := by decide +kernel
theorem dX0_putUp_17 : decode cX0_putUp 17 = .ok (.aload_n 0, 1) := by decide +kernel
theorem dX0_putUp_18 : decode cX0_putUp 18 = .ok (.iconst 0, 1) := by decide +kernel
theorem dX0_putUp_19 : decode cX0_putUp 19 = .ok (.putfield 9, 3) := by decide +kernel
theorem dX0_putUp_22 : decode cX0_putUp 22 = .ok (.aload_n 0, 1) := by decide +kernel
theorem dX0_putUp_23 : decode cX0_putUp 23 = .ok (.iconst 0, 1) := by decide +kernel
theorem dX0_putUp_24 : decode cX0_putUp 24 = .ok (.putfield 15, 3) := by decide +kernel
theorem dX0_putUp_27 : decode cX0_putUp 27 = .ok (.iconst 0, 1) := by decide +kernel
theorem dX0_putUp_28 : decode cX0_putUp 28 = .ok (.istore 7, 2) := by decide +kernel
theorem dX0_putUp_30 : decode cX0_putUp 30 = .ok (.iload 7, 2) := by decide +kernel
theorem dX0_putUp_32 : decode cX0_putUp 32 = .ok (.iload_n 3, 1) := by decide +kernel
theorem dX0_putUp_33 : decode cX0_putUp 33 = .ok (.if_icmp .gt 58, 3) := by decide +kernel
theorem dX0_putUp_36 : decode cX0_putUp 36 = .ok (.iload 7, 2) := by decide +kernel
theorem dX0_putUp_38 : decode cX0_putUp 38 = .ok (.bipush 8, 2) := by decide +kernel
theorem dX0_putUp_40 : decode cX0_putUp 40 = .ok (.if_icmp .ge 51, 3) := by decide +kernel
theorem dX0_putUp_43 : decode cX0_putUp 43 = .ok (.aload_n 1, 1) := by decide +kernel
theorem dX0_putUp_44 : decode cX0_putUp 44 = .ok (.iload_n 2, 1) := by decide +kernel
theorem dX0_putUp_45 : decode cX0_putUp 45 = .ok (.iload 7, 2) := by decide +kernel
theorem dX0_putUp_47 : decode cX0_putUp 47 = .ok (.iload 4, 2) := by decide +kernel
theorem dX0_putUp_49 : decode cX0_putUp 49 = .ok (.iload 6, 2) := by decide +kernel
theorem dX0_putUp_51 : decode cX0_putUp 51 = .ok (.invokevirtual 37, 3) := by decide +kernel
theorem dX0_putUp_54 : decode cX0_putUp 54 = .ok (.istore 8, 2) := by decide +kernel
theorem dX0_putUp_56 : decode cX0_putUp 56 = .ok (.iconst 0, 1) := by decide +kernel
theorem dX0_putUp_57 : decode cX0_putUp 57 = .ok (.istore 9, 2) := by decide +kernel
theorem dX0_putUp_59 : decode cX0_putUp 59 = .ok (.iload 9, 2) := by decide +kernel
theorem dX0_putUp_61 : decode cX0_putUp 61 = .ok (.iload 8, 2) := by decide +kernel
theorem dX0_putUp_63 : decode cX0_putUp 63 = .ok (.if_icmp .ge 22, 3) := by decide +kernel
theorem dX0_putUp_66 : decode cX0_putUp 66 = .ok (.aload_n 0, 1) := by decide +kernel
theorem dX0_putUp_67 : decode cX0_putUp 67 = .ok (.aload_n 1, 1) := by decide +kernel
theorem dX0_putUp_68 : decode cX0_putUp 68 = .ok (.iload_n 2, 1) := by decide +kernel
theorem dX0_putUp_69 : decode cX0_putUp 69 = .ok (.iload 7, 2) := by decide +kernel
theorem dX0_putUp_71 : decode cX0_putUp 71 = .ok (.iload 9, 2) := by decide +kernel
theorem dX0_putUp_73 : decode cX0_putUp 73 = .ok (.invokevirtual 41, 3) := by decide +kernel
theorem dX0_putUp_76 : decode cX0_putUp 76 = .ok (.invokevirtual 45, 3) := by decide +kernel
theorem dX0_putUp_79 : decode cX0_putUp 79 = .ok (.iinc 9 1, 3) := by decide +kernel
theorem dX0_putUp_82 : decode cX0_putUp 82 = .ok (.goto (-23), 3) := by decide +kernel
theorem dX0_putUp_85 : decode cX0_putUp 85 = .ok (.iinc 7 1, 3) := by decide +kernel
theorem dX0_putUp_88 : decode cX0_putUp 88 = .ok (.goto (-58), 3) := by decide +kernel
theorem dX0_putUp_91 : decode cX0_putUp 91 = .ok (.return_, 1) := by decide +kernel
theorem dX0_take_0 : decode cX0_take 0 = .ok (.aload_n 0, 1) := by decide +kernel
theorem dX0_take_1 : decode cX0_take 1 = .ok (.getfield 9, 3) := by decide +kernel
theorem dX0_take_4 : decode cX0_take 4 = .ok (.aload_n 0, 1) := by decide +kernel
theorem dX0_take_5 : decode cX0_take 5 = .ok (.getfield 18, 3) := by decide +kernel
theorem dX0_take_8 : decode cX0_take 8 = .ok (.arraylength, 1) := by decide +kernel
theorem dX0_take_9 : decode cX0_take 9 = .ok (.if_icmp .lt 4, 3) := by decide +kernel
theorem dX0_take_12 : decode cX0_take 12 = .ok (.return_, 1) := by decide +kernel
theorem dX0_take_13 : decode cX0_take 13 = .ok (.aload_n 0, 1) := by decide +kernel
theorem dX0_take_14 : decode cX0_take 14 = .ok (.getfield 18, 3) := by decide +kernel
theorem dX0_take_17 : decode cX0_take 17 = .ok (.aload_n 0, 1) := by decide +kernel
theorem dX0_take_18 : decode cX0_take 18 = .ok (.getfield 9, 3) := by decide +kernel
theorem dX0_take_21 : decode cX0_take 21 = .ok (.iload_n 1, 1) := by decide +kernel
theorem dX0_take_22 : decode cX0_take 22 = .ok (.iastore, 1) := by decide +kernel
theorem dX0_take_23 : decode cX0_take 23 = .ok (.aload_n 0, 1) := by decide +kernel
theorem dX0_take_24 : decode cX0_take 24 = .ok (.dup, 1) := by decide +kernel
theorem dX0_take_25 : decode cX0_take 25 = .ok (.getfield 9, 3) := by decide +kernel
theorem dX0_take_28 : decode cX0_take 28 = .ok (.iconst 1, 1) := by decide +kernel
theorem dX0_take_29 : decode cX0_take 29 = .ok (.iadd, 1) := by decide +kernel
theorem dX0_take_30 : decode cX0_take 30 = .ok (.putfield 9, 3) := by decide +kernel
theorem dX0_take_33 : decode cX0_take 33 = .ok (.aload_n 0, 1) := by decide +kernel
theorem dX0_take_34 : decode cX0_take 34 = .ok (.dup, 1) := by decide +kernel
theorem dX0_take_35 : decode cX0_take 35 = .ok (.getfield 15, 3) := by decide +kernel
theorem dX0_take_38 : decode cX0_take 38 = .ok (.iconst 1, 1) := by decide +kernel
theorem dX0_take_39 : decode cX0_take 39 = .ok (.iload_n 1, 1) := by decide +kernel
theorem dX0_take_40 : decode cX0_take 40 = .ok (.ishl, 1) := by decide +kernel
theorem dX0_take_41 : decode cX0_take 41 = .ok (.ior, 1) := by decide +kernel
theorem dX0_take_42 : decode cX0_take 42 = .ok (.putfield 15, 3) := by decide +kernel
theorem dX0_take_45 : decode cX0_take 45 = .ok (.return_, 1) := by decide +kernel
theorem dX0_word_0 : decode cX0_word 0 = .ok (.iload_n 1, 1) := by decide +kernel
theorem dX0_word_1 : decode cX0_word 1 = .ok (.ifCond .lt 20, 3) := by decide +kernel
theorem dX0_word_4 : decode cX0_word 4 = .ok (.iload_n 1, 1) := by decide +kernel
theorem dX0_word_5 : decode cX0_word 5 = .ok (.aload_n 0, 1) := by decide +kernel
theorem dX0_word_6 : decode cX0_word 6 = .ok (.getfield 9, 3) := by decide +kernel
theorem dX0_word_9 : decode cX0_word 9 = .ok (.if_icmp .ge 12, 3) := by decide +kernel
theorem dX0_word_12 : decode cX0_word 12 = .ok (.aload_n 0, 1) := by decide +kernel
theorem dX0_word_13 : decode cX0_word 13 = .ok (.getfield 18, 3) := by decide +kernel
theorem dX0_word_16 : decode cX0_word 16 = .ok (.iload_n 1, 1) := by decide +kernel
theorem dX0_word_17 : decode cX0_word 17 = .ok (.iaload, 1) := by decide +kernel
theorem dX0_word_18 : decode cX0_word 18 = .ok (.goto 4, 3) := by decide +kernel
theorem dX0_word_21 : decode cX0_word 21 = .ok (.iconst (-1), 1) := by decide +kernel
theorem dX0_word_22 : decode cX0_word 22 = .ok (.ireturn, 1) := by decide +kernel
theorem dX0_brings_0 : decode cX0_brings 0 = .ok (.iload_n 1, 1) := by decide +kernel
theorem dX0_brings_1 : decode cX0_brings 1 = .ok (.aload_n 0, 1) := by decide +kernel
theorem dX0_brings_2 : decode cX0_brings 2 = .ok (.getfield 15, 3) := by decide +kernel
theorem dX0_brings_5 : decode cX0_brings 5 = .ok (.iconst (-1), 1) := by decide +kernel
theorem dX0_brings_6 : decode cX0_brings 6 = .ok (.ixor, 1) := by decide +kernel
theorem dX0_brings_7 : decode cX0_brings 7 = .ok (.iand, 1) := by decide +kernel
theorem dX0_brings_8 : decode cX0_brings 8 = .ok (.ifCond .ne 7, 3) := by decide +kernel
theorem dX0_brings_11 : decode cX0_brings 11 = .ok (.iconst 1, 1) := by decide +kernel
theorem dX0_brings_12 : decode cX0_brings 12 = .ok (.goto 4, 3) := by decide +kernel
theorem dX0_brings_15 : decode cX0_brings 15 = .ok (.iconst 0, 1) := by decide +kernel
theorem dX0_brings_16 : decode cX0_brings 16 = .ok (.ireturn, 1) := by decide +kernel
theorem dX1_isOrIsUnder_0 : decode cX1_isOrIsUnder 0 = .ok (.iload_n 0, 1) := by decide +kernel
theorem dX1_isOrIsUnder_1 : decode cX1_isOrIsUnder 1 = .ok (.istore_n 2, 1) := by decide +kernel
theorem dX1_isOrIsUnder_2 : decode cX1_isOrIsUnder 2 = .ok (.iconst 0, 1) := by decide +kernel
theorem dX1_isOrIsUnder_3 : decode cX1_isOrIsUnder 3 = .ok (.istore_n 3, 1) := by decide +kernel
theorem dX1_isOrIsUnder_4 : decode cX1_isOrIsUnder 4 = .ok (.iload_n 3, 1) := by decide +kernel
theorem dX1_isOrIsUnder_5 : decode cX1_isOrIsUnder 5 = .ok (.bipush 6, 2) := by decide +kernel
theorem dX1_isOrIsUnder_7 : decode cX1_isOrIsUnder 7 = .ok (.if_icmp .ge 34, 3) := by decide +kernel
theorem dX1_isOrIsUnder_10 : decode cX1_isOrIsUnder 10 = .ok (.iload_n 2, 1) := by decide +kernel
theorem dX1_isOrIsUnder_11 : decode cX1_isOrIsUnder 11 = .ok (.ifCond .lt 30, 3) := by decide +kernel
theorem dX1_isOrIsUnder_14 : decode cX1_isOrIsUnder 14 = .ok (.iload_n 2, 1) := by decide +kernel
theorem dX1_isOrIsUnder_15 : decode cX1_isOrIsUnder 15 = .ok (.getstatic 9, 3) := by decide +kernel
theorem dX1_isOrIsUnder_18 : decode cX1_isOrIsUnder 18 = .ok (.arraylength, 1) := by decide +kernel
theorem dX1_isOrIsUnder_19 : decode cX1_isOrIsUnder 19 = .ok (.if_icmp .ge 22, 3) := by decide +kernel
theorem dX1_isOrIsUnder_22 : decode cX1_isOrIsUnder 22 = .ok (.iload_n 2, 1) := by decide +kernel
theorem dX1_isOrIsUnder_23 : decode cX1_isOrIsUnder 23 = .ok (.iload_n 1, 1) := by decide +kernel
theorem dX1_isOrIsUnder_24 : decode cX1_isOrIsUnder 24 = .ok (.if_icmp .ne 5, 3) := by decide +kernel
theorem dX1_isOrIsUnder_27 : decode cX1_isOrIsUnder 27 = .ok (.iconst 1, 1) := by decide +kernel
theorem dX1_isOrIsUnder_28 : decode cX1_isOrIsUnder 28 = .ok (.ireturn, 1) := by decide +kernel
theorem dX1_isOrIsUnder_29 : decode cX1_isOrIsUnder 29 = .ok (.getstatic 9, 3) := by decide +kernel
theorem dX1_isOrIsUnder_32 : decode cX1_isOrIsUnder 32 = .ok (.iload_n 2, 1) := by decide +kernel
theorem dX1_isOrIsUnder_33 : decode cX1_isOrIsUnder 33 = .ok (.iaload, 1) := by decide +kernel
theorem dX1_isOrIsUnder_34 : decode cX1_isOrIsUnder 34 = .ok (.istore_n 2, 1) := by decide +kernel
theorem dX1_isOrIsUnder_35 : decode cX1_isOrIsUnder 35 = .ok (.iinc 3 1, 3) := by decide +kernel
theorem dX1_isOrIsUnder_38 : decode cX1_isOrIsUnder 38 = .ok (.goto (-34), 3) := by decide +kernel
theorem dX1_isOrIsUnder_41 : decode cX1_isOrIsUnder 41 = .ok (.iconst 0, 1) := by decide +kernel
theorem dX1_isOrIsUnder_42 : decode cX1_isOrIsUnder 42 = .ok (.ireturn, 1) := by decide +kernel
theorem dX1_rise_0 : decode cX1_rise 0 = .ok (.iconst 0, 1) := by decide +kernel
theorem dX1_rise_1 : decode cX1_rise 1 = .ok (.bipush 7, 2) := by decide +kernel
theorem dX1_rise_3 : decode cX1_rise 3 = .ok (.iload_n 2, 1) := by decide +kernel
theorem dX1_rise_4 : decode cX1_rise 4 = .ok (.isub, 1) := by decide +kernel
theorem dX1_rise_5 : decode cX1_rise 5 = .ok (.invokestatic 15, 3) := by decide +kernel
theorem dX1_rise_8 : decode cX1_rise 8 = .ok (.istore 4, 2) := by decide +kernel
theorem dX1_rise_10 : decode cX1_rise 10 = .ok (.iload 4, 2) := by decide +kernel
theorem dX1_rise_12 : decode cX1_rise 12 = .ok (.iload_n 1, 1) := by decide +kernel
theorem dX1_rise_13 : decode cX1_rise 13 = .ok (.bipush 8, 2) := by decide +kernel
theorem dX1_rise_15 : decode cX1_rise 15 = .ok (.irem, 1) := by decide +kernel
theorem dX1_rise_16 : decode cX1_rise 16 = .ok (.invokestatic 21, 3) := by decide +kernel
theorem dX1_rise_19 : decode cX1_rise 19 = .ok (.istore 5, 2) := by decide +kernel
theorem dX1_rise_21 : decode cX1_rise 21 = .ok (.iconst 0, 1) := by decide +kernel
theorem dX1_rise_22 : decode cX1_rise 22 = .ok (.iload 4, 2) := by decide +kernel
theorem dX1_rise_24 : decode cX1_rise 24 = .ok (.iconst 2, 1) := by decide +kernel
theorem dX1_rise_25 : decode cX1_rise 25 = .ok (.isub, 1) := by decide +kernel
theorem dX1_rise_26 : decode cX1_rise 26 = .ok (.invokestatic 15, 3) := by decide +kernel
theorem dX1_rise_29 : decode cX1_rise 29 = .ok (.istore 6, 2) := by decide +kernel
theorem dX1_rise_31 : decode cX1_rise 31 = .ok (.iload_n 0, 1) := by decide +kernel
theorem dX1_rise_32 : decode cX1_rise 32 = .ok (.tableswitch 72 1 5 #[36, 39, 42, 44, 58], 36) := by decide +kernel
theorem dX1_rise_68 : decode cX1_rise 68 = .ok (.iload 5, 2) := by decide +kernel
theorem dX1_rise_70 : decode cX1_rise 70 = .ok (.ireturn, 1) := by decide +kernel
theorem dX1_rise_71 : decode cX1_rise 71 = .ok (.iload 6, 2) := by decide +kernel
theorem dX1_rise_73 : decode cX1_rise 73 = .ok (.ireturn, 1) := by decide +kernel
theorem dX1_rise_74 : decode cX1_rise 74 = .ok (.iconst 0, 1) := by decide +kernel
theorem dX1_rise_75 : decode cX1_rise 75 = .ok (.ireturn, 1) := by decide +kernel
theorem dX1_rise_76 : decode cX1_rise 76 = .ok (.iload_n 1, 1) := by decide +kernel
theorem dX1_rise_77 : decode cX1_rise 77 = .ok (.bipush 15, 2) := by decide +kernel
theorem dX1_rise_79 : decode cX1_rise 79 = .ok (.if_icmp .ne 8, 3) := by decide +kernel
theorem dX1_rise_82 : decode cX1_rise 82 = .ok (.bipush 7, 2) := by decide +kernel
theorem dX1_rise_84 : decode cX1_rise 84 = .ok (.goto 5, 3) := by decide +kernel
theorem dX1_rise_87 : decode cX1_rise 87 = .ok (.iload 5, 2) := by decide +kernel
theorem dX1_rise_89 : decode cX1_rise 89 = .ok (.ireturn, 1) := by decide +kernel
theorem dX1_rise_90 : decode cX1_rise 90 = .ok (.iload_n 3, 1) := by decide +kernel
theorem dX1_rise_91 : decode cX1_rise 91 = .ok (.iconst 4, 1) := by decide +kernel
theorem dX1_rise_92 : decode cX1_rise 92 = .ok (.irem, 1) := by decide +kernel
theorem dX1_rise_93 : decode cX1_rise 93 = .ok (.iconst 2, 1) := by decide +kernel
theorem dX1_rise_94 : decode cX1_rise 94 = .ok (.if_icmp .ne 7, 3) := by decide +kernel
theorem dX1_rise_97 : decode cX1_rise 97 = .ok (.iconst (-1), 1) := by decide +kernel
theorem dX1_rise_98 : decode cX1_rise 98 = .ok (.goto 5, 3) := by decide +kernel
theorem dX1_rise_101 : decode cX1_rise 101 = .ok (.iload 6, 2) := by decide +kernel
theorem dX1_rise_103 : decode cX1_rise 103 = .ok (.ireturn, 1) := by decide +kernel
theorem dX1_rise_104 : decode cX1_rise 104 = .ok (.iload 4, 2) := by decide +kernel
theorem dX1_rise_106 : decode cX1_rise 106 = .ok (.ireturn, 1) := by decide +kernel
theorem dX1_holds_0 : decode cX1_holds 0 = .ok (.iload_n 1, 1) := by decide +kernel
theorem dX1_holds_1 : decode cX1_holds 1 = .ok (.iconst 2, 1) := by decide +kernel
theorem dX1_holds_2 : decode cX1_holds 2 = .ok (.irem, 1) := by decide +kernel
theorem dX1_holds_3 : decode cX1_holds 3 = .ok (.iconst 1, 1) := by decide +kernel
theorem dX1_holds_4 : decode cX1_holds 4 = .ok (.if_icmp .ne 7, 3) := by decide +kernel
theorem dX1_holds_7 : decode cX1_holds 7 = .ok (.iconst 4, 1) := by decide +kernel
theorem dX1_holds_8 : decode cX1_holds 8 = .ok (.goto 5, 3) := by decide +kernel
theorem dX1_holds_11 : decode cX1_holds 11 = .ok (.bipush 6, 2) := by decide +kernel
theorem dX1_holds_13 : decode cX1_holds 13 = .ok (.istore_n 2, 1) := by decide +kernel
theorem dX1_holds_14 : decode cX1_holds 14 = .ok (.iconst 3, 1) := by decide +kernel
theorem dX1_holds_15 : decode cX1_holds 15 = .ok (.istore_n 3, 1) := by decide +kernel
theorem dX1_holds_16 : decode cX1_holds 16 = .ok (.iload_n 0, 1) := by decide +kernel
theorem dX1_holds_17 : decode cX1_holds 17 = .ok (.tableswitch 68 1 5 #[35, 37, 68, 39, 54], 35) := by decide +kernel
theorem dX1_holds_52 : decode cX1_holds 52 = .ok (.iload_n 2, 1) := by decide +kernel
theorem dX1_holds_53 : decode cX1_holds 53 = .ok (.ireturn, 1) := by decide +kernel
theorem dX1_holds_54 : decode cX1_holds 54 = .ok (.iload_n 3, 1) := by decide +kernel
theorem dX1_holds_55 : decode cX1_holds 55 = .ok (.ireturn, 1) := by decide +kernel
theorem dX1_holds_56 : decode cX1_holds 56 = .ok (.iload_n 2, 1) := by decide +kernel
theorem dX1_holds_57 : decode cX1_holds 57 = .ok (.bipush 6, 2) := by decide +kernel
theorem dX1_holds_59 : decode cX1_holds 59 = .ok (.if_icmp .ge 9, 3) := by decide +kernel
theorem dX1_holds_62 : decode cX1_holds 62 = .ok (.iload_n 2, 1) := by decide +kernel
theorem dX1_holds_63 : decode cX1_holds 63 = .ok (.iconst 1, 1) := by decide +kernel
theorem dX1_holds_64 : decode cX1_holds 64 = .ok (.iadd, 1) := by decide +kernel
theorem dX1_holds_65 : decode cX1_holds 65 = .ok (.goto 5, 3) := by decide +kernel
theorem dX1_holds_68 : decode cX1_holds 68 = .ok (.bipush 6, 2) := by decide +kernel
theorem dX1_holds_70 : decode cX1_holds 70 = .ok (.ireturn, 1) := by decide +kernel
theorem dX1_holds_71 : decode cX1_holds 71 = .ok (.iload_n 1, 1) := by decide +kernel
theorem dX1_holds_72 : decode cX1_holds 72 = .ok (.bipush 7, 2) := by decide +kernel
theorem dX1_holds_74 : decode cX1_holds 74 = .ok (.if_icmp .ne 9, 3) := by decide +kernel
theorem dX1_holds_77 : decode cX1_holds 77 = .ok (.iload_n 3, 1) := by decide +kernel
theorem dX1_holds_78 : decode cX1_holds 78 = .ok (.iconst 2, 1) := by decide +kernel
theorem dX1_holds_79 : decode cX1_holds 79 = .ok (.iadd, 1) := by decide +kernel
theorem dX1_holds_80 : decode cX1_holds 80 = .ok (.goto 4, 3) := by decide +kernel
theorem dX1_holds_83 : decode cX1_holds 83 = .ok (.iload_n 3, 1) := by decide +kernel
theorem dX1_holds_84 : decode cX1_holds 84 = .ok (.ireturn, 1) := by decide +kernel
theorem dX1_holds_85 : decode cX1_holds 85 = .ok (.bipush 6, 2) := by decide +kernel
theorem dX1_holds_87 : decode cX1_holds 87 = .ok (.ireturn, 1) := by decide +kernel
theorem dX1_cakes_0 : decode cX1_cakes 0 = .ok (.iload_n 1, 1) := by decide +kernel
theorem dX1_cakes_1 : decode cX1_cakes 1 = .ok (.iconst 3, 1) := by decide +kernel
theorem dX1_cakes_2 : decode cX1_cakes 2 = .ok (.idiv, 1) := by decide +kernel
theorem dX1_cakes_3 : decode cX1_cakes 3 = .ok (.istore_n 2, 1) := by decide +kernel
theorem dX1_cakes_4 : decode cX1_cakes 4 = .ok (.iload_n 1, 1) := by decide +kernel
theorem dX1_cakes_5 : decode cX1_cakes 5 = .ok (.iconst 5, 1) := by decide +kernel
theorem dX1_cakes_6 : decode cX1_cakes 6 = .ok (.if_icmp .le 9, 3) := by decide +kernel
theorem dX1_cakes_9 : decode cX1_cakes 9 = .ok (.iload_n 2, 1) := by decide +kernel
theorem dX1_cakes_10 : decode cX1_cakes 10 = .ok (.iconst 1, 1) := by decide +kernel
theorem dX1_cakes_11 : decode cX1_cakes 11 = .ok (.iadd, 1) := by decide +kernel
theorem dX1_cakes_12 : decode cX1_cakes 12 = .ok (.goto 4, 3) := by decide +kernel
theorem dX1_cakes_15 : decode cX1_cakes 15 = .ok (.iload_n 2, 1) := by decide +kernel
theorem dX1_cakes_16 : decode cX1_cakes 16 = .ok (.istore_n 3, 1) := by decide +kernel
theorem dX1_cakes_17 : decode cX1_cakes 17 = .ok (.iload_n 0, 1) := by decide +kernel
theorem dX1_cakes_18 : decode cX1_cakes 18 = .ok (.tableswitch 50 1 5 #[34, 50, 36, 40, 42], 34) := by decide +kernel
theorem dX1_cakes_52 : decode cX1_cakes 52 = .ok (.iload_n 3, 1) := by decide +kernel
theorem dX1_cakes_53 : decode cX1_cakes 53 = .ok (.ireturn, 1) := by decide +kernel
theorem dX1_cakes_54 : decode cX1_cakes 54 = .ok (.iconst 2, 1) := by decide +kernel
theorem dX1_cakes_55 : decode cX1_cakes 55 = .ok (.iload_n 2, 1) := by decide +kernel
theorem dX1_cakes_56 : decode cX1_cakes 56 = .ok (.imul, 1) := by decide +kernel
theorem dX1_cakes_57 : decode cX1_cakes 57 = .ok (.ireturn, 1) := by decide +kernel
theorem dX1_cakes_58 : decode cX1_cakes 58 = .ok (.iload_n 3, 1) := by decide +kernel
theorem dX1_cakes_59 : decode cX1_cakes 59 = .ok (.ireturn, 1) := by decide +kernel
theorem dX1_cakes_60 : decode cX1_cakes 60 = .ok (.iconst 0, 1) := by decide +kernel
theorem dX1_cakes_61 : decode cX1_cakes 61 = .ok (.iload_n 2, 1) := by decide +kernel
theorem dX1_cakes_62 : decode cX1_cakes 62 = .ok (.iconst 1, 1) := by decide +kernel
theorem dX1_cakes_63 : decode cX1_cakes 63 = .ok (.isub, 1) := by decide +kernel
theorem dX1_cakes_64 : decode cX1_cakes 64 = .ok (.invokestatic 15, 3) := by decide +kernel
theorem dX1_cakes_67 : decode cX1_cakes 67 = .ok (.ireturn, 1) := by decide +kernel
theorem dX1_cakes_68 : decode cX1_cakes 68 = .ok (.iload_n 2, 1) := by decide +kernel
theorem dX1_cakes_69 : decode cX1_cakes 69 = .ok (.ireturn, 1) := by decide +kernel
theorem dX1_name_0 : decode cX1_name 0 = .ok (.iload_n 0, 1) := by decide +kernel
theorem dX1_name_1 : decode cX1_name 1 = .ok (.tableswitch 50 1 5 #[35, 38, 41, 44, 47], 35) := by decide +kernel
theorem dX1_name_36 : decode cX1_name 36 = .ok (.ldc 24, 2) := by decide +kernel
theorem dX1_name_38 : decode cX1_name 38 = .ok (.areturn, 1) := by decide +kernel
theorem dX1_name_39 : decode cX1_name 39 = .ok (.ldc 26, 2) := by decide +kernel
theorem dX1_name_41 : decode cX1_name 41 = .ok (.areturn, 1) := by decide +kernel
theorem dX1_name_42 : decode cX1_name 42 = .ok (.ldc 28, 2) := by decide +kernel
theorem dX1_name_44 : decode cX1_name 44 = .ok (.areturn, 1) := by decide +kernel
theorem dX1_name_45 : decode cX1_name 45 = .ok (.ldc 30, 2) := by decide +kernel
theorem dX1_name_47 : decode cX1_name 47 = .ok (.areturn, 1) := by decide +kernel
theorem dX1_name_48 : decode cX1_name 48 = .ok (.ldc 32, 2) := by decide +kernel
theorem dX1_name_50 : decode cX1_name 50 = .ok (.areturn, 1) := by decide +kernel
theorem dX1_name_51 : decode cX1_name 51 = .ok (.ldc 34, 2) := by decide +kernel
theorem dX1_name_53 : decode cX1_name 53 = .ok (.areturn, 1) := by decide +kernel
theorem dX1_settle_0 : decode cX1_settle 0 = .ok (.iload_n 1, 1) := by decide +kernel
theorem dX1_settle_1 : decode cX1_settle 1 = .ok (.bipush 7, 2) := by decide +kernel
theorem dX1_settle_3 : decode cX1_settle 3 = .ok (.invokestatic 21, 3) := by decide +kernel
theorem dX1_settle_6 : decode cX1_settle 6 = .ok (.istore 4, 2) := by decide +kernel
theorem dX1_settle_8 : decode cX1_settle 8 = .ok (.iload 4, 2) := by decide +kernel
theorem dX1_settle_10 : decode cX1_settle 10 = .ok (.ifCond .lt 43, 3) := by decide +kernel
theorem dX1_settle_13 : decode cX1_settle 13 = .ok (.iload_n 3, 1) := by decide +kernel
theorem dX1_settle_14 : decode cX1_settle 14 = .ok (.iload 4, 2) := by decide +kernel
theorem dX1_settle_16 : decode cX1_settle 16 = .ok (.iadd, 1) := by decide +kernel
theorem dX1_settle_17 : decode cX1_settle 17 = .ok (.istore 5, 2) := by decide +kernel
theorem dX1_settle_19 : decode cX1_settle 19 = .ok (.iload 5, 2) := by decide +kernel
theorem dX1_settle_21 : decode cX1_settle 21 = .ok (.ifCond .lt 26, 3) := by decide +kernel
theorem dX1_settle_24 : decode cX1_settle 24 = .ok (.iload 5, 2) := by decide +kernel
theorem dX1_settle_26 : decode cX1_settle 26 = .ok (.aload_n 2, 1) := by decide +kernel
theorem dX1_settle_27 : decode cX1_settle 27 = .ok (.arraylength, 1) := by decide +kernel
theorem dX1_settle_28 : decode cX1_settle 28 = .ok (.if_icmp .ge 19, 3) := by decide +kernel
theorem dX1_settle_31 : decode cX1_settle 31 = .ok (.aload_n 2, 1) := by decide +kernel
theorem dX1_settle_32 : decode cX1_settle 32 = .ok (.iload 5, 2) := by decide +kernel
theorem dX1_settle_34 : decode cX1_settle 34 = .ok (.iaload, 1) := by decide +kernel
theorem dX1_settle_35 : decode cX1_settle 35 = .ok (.iload_n 0, 1) := by decide +kernel
theorem dX1_settle_36 : decode cX1_settle 36 = .ok (.iload 4, 2) := by decide +kernel
theorem dX1_settle_38 : decode cX1_settle 38 = .ok (.invokestatic 36, 3) := by decide +kernel
theorem dX1_settle_41 : decode cX1_settle 41 = .ok (.if_icmp .ge 6, 3) := by decide +kernel
theorem dX1_settle_44 : decode cX1_settle 44 = .ok (.iload 4, 2) := by decide +kernel
theorem dX1_settle_46 : decode cX1_settle 46 = .ok (.ireturn, 1) := by decide +kernel
theorem dX1_settle_47 : decode cX1_settle 47 = .ok (.iinc 4 (-1), 3) := by decide +kernel
theorem dX1_settle_50 : decode cX1_settle 50 = .ok (.goto (-42), 3) := by decide +kernel
theorem dX1_settle_53 : decode cX1_settle 53 = .ok (.iconst (-1), 1) := by decide +kernel
theorem dX1_settle_54 : decode cX1_settle 54 = .ok (.ireturn, 1) := by decide +kernel
theorem dX2_init_0 : decode cX2_init 0 = .ok (.aload_n 0, 1) := by decide +kernel
theorem dX2_init_1 : decode cX2_init 1 = .ok (.invokespecial 1, 3) := by decide +kernel
theorem dX2_init_4 : decode cX2_init 4 = .ok (.aload_n 0, 1) := by decide +kernel
theorem dX2_init_5 : decode cX2_init 5 = .ok (.iconst 4, 1) := by decide +kernel
theorem dX2_init_6 : decode cX2_init 6 = .ok (.newarray .int, 2) := by decide +kernel
theorem dX2_init_8 : decode cX2_init 8 = .ok (.putfield 9, 3) := by decide +kernel
theorem dX2_init_11 : decode cX2_init 11 = .ok (.aload_n 0, 1) := by decide +kernel
theorem dX2_init_12 : decode cX2_init 12 = .ok (.iconst 4, 1) := by decide +kernel
theorem dX2_init_13 : decode cX2_init 13 = .ok (.newarray .int, 2) := by decide +kernel
theorem dX2_init_15 : decode cX2_init 15 = .ok (.putfield 13, 3) := by decide +kernel
theorem dX2_init_18 : decode cX2_init 18 = .ok (.aload_n 0, 1) := by decide +kernel
theorem dX2_init_19 : decode cX2_init 19 = .ok (.sipush 160, 3) := by decide +kernel
theorem dX2_init_22 : decode cX2_init 22 = .ok (.newarray .long, 2) := by decide +kernel
theorem dX2_init_24 : decode cX2_init 24 = .ok (.putfield 16, 3) := by decide +kernel
theorem dX2_init_27 : decode cX2_init 27 = .ok (.return_, 1) := by decide +kernel
theorem dX2_isSheet_0 : decode cX2_isSheet 0 = .ok (.iload_n 0, 1) := by decide +kernel
theorem dX2_isSheet_1 : decode cX2_isSheet 1 = .ok (.ifCond .lt 12, 3) := by decide +kernel
theorem dX2_isSheet_4 : decode cX2_isSheet 4 = .ok (.iload_n 0, 1) := by decide +kernel
theorem dX2_isSheet_5 : decode cX2_isSheet 5 = .ok (.iconst 4, 1) := by decide +kernel
theorem dX2_isSheet_6 : decode cX2_isSheet 6 = .ok (.if_icmp .ge 7, 3) := by decide +kernel
theorem dX2_isSheet_9 : decode cX2_isSheet 9 = .ok (.iconst 1, 1) := by decide +kernel
theorem dX2_isSheet_10 : decode cX2_isSheet 10 = .ok (.goto 4, 3) := by decide +kernel
theorem dX2_isSheet_13 : decode cX2_isSheet 13 = .ok (.iconst 0, 1) := by decide +kernel
theorem dX2_isSheet_14 : decode cX2_isSheet 14 = .ok (.ireturn, 1) := by decide +kernel
theorem dX2_isWidth_0 : decode cX2_isWidth 0 = .ok (.iload_n 0, 1) := by decide +kernel
theorem dX2_isWidth_1 : decode cX2_isWidth 1 = .ok (.ifCond .eq 21, 3) := by decide +kernel
theorem dX2_isWidth_4 : decode cX2_isWidth 4 = .ok (.iload_n 0, 1) := by decide +kernel
theorem dX2_isWidth_5 : decode cX2_isWidth 5 = .ok (.bipush 8, 2) := by decide +kernel
theorem dX2_isWidth_7 : decode cX2_isWidth 7 = .ok (.if_icmp .eq 15, 3) := by decide +kernel
theorem dX2_isWidth_10 : decode cX2_isWidth 10 = .ok (.iload_n 0, 1) := by decide +kernel
theorem dX2_isWidth_11 : decode cX2_isWidth 11 = .ok (.bipush 16, 2) := by decide +kernel
theorem dX2_isWidth_13 : decode cX2_isWidth 13 = .ok (.if_icmp .eq 9, 3) := by decide +kernel
theorem dX2_isWidth_16 : decode cX2_isWidth 16 = .ok (.iload_n 0, 1) := by decide +kernel
theorem dX2_isWidth_17 : decode cX2_isWidth 17 = .ok (.bipush 64, 2) := by decide +kernel
theorem dX2_isWidth_19 : decode cX2_isWidth 19 = .ok (.if_icmp .ne 7, 3) := by decide +kernel
theorem dX2_isWidth_22 : decode cX2_isWidth 22 = .ok (.iconst 1, 1) := by decide +kernel
theorem dX2_isWidth_23 : decode cX2_isWidth 23 = .ok (.goto 4, 3) := by decide +kernel
theorem dX2_isWidth_26 : decode cX2_isWidth 26 = .ok (.iconst 0, 1) := by decide +kernel
theorem dX2_isWidth_27 : decode cX2_isWidth 27 = .ok (.ireturn, 1) := by decide +kernel
theorem dX2_layOut_0 : decode cX2_layOut 0 = .ok (.iload_n 1, 1) := by decide +kernel
theorem dX2_layOut_1 : decode cX2_layOut 1 = .ok (.invokestatic 20, 3) := by decide +kernel
theorem dX2_layOut_4 : decode cX2_layOut 4 = .ok (.ifCond .eq 13, 3) := by decide +kernel
theorem dX2_layOut_7 : decode cX2_layOut 7 = .ok (.iload_n 3, 1) := by decide +kernel
theorem dX2_layOut_8 : decode cX2_layOut 8 = .ok (.ifCond .lt 9, 3) := by decide +kernel
theorem dX2_layOut_11 : decode cX2_layOut 11 = .ok (.iload_n 3, 1) := by decide +kernel
theorem dX2_layOut_12 : decode cX2_layOut 12 = .ok (.bipush 40, 2) := by decide +kernel
theorem dX2_layOut_14 : decode cX2_layOut 14 = .ok (.if_icmp .le 5, 3) := by decide +kernel
theorem dX2_layOut_17 : decode cX2_layOut 17 = .ok (.iconst 0, 1) := by decide +kernel
theorem dX2_layOut_18 : decode cX2_layOut 18 = .ok (.ireturn, 1) := by decide +kernel
theorem dX2_layOut_19 : decode cX2_layOut 19 = .ok (.aload_n 0, 1) := by decide +kernel
theorem dX2_layOut_20 : decode cX2_layOut 20 = .ok (.getfield 9, 3) := by decide +kernel
theorem dX2_layOut_23 : decode cX2_layOut 23 = .ok (.iload_n 1, 1) := by decide +kernel
theorem dX2_layOut_24 : decode cX2_layOut 24 = .ok (.iload_n 2, 1) := by decide +kernel
theorem dX2_layOut_25 : decode cX2_layOut 25 = .ok (.iastore, 1) := by decide +kernel
theorem dX2_layOut_26 : decode cX2_layOut 26 = .ok (.aload_n 0, 1) := by decide +kernel
theorem dX2_layOut_27 : decode cX2_layOut 27 = .ok (.getfield 13, 3) := by decide +kernel
theorem dX2_layOut_30 : decode cX2_layOut 30 = .ok (.iload_n 1, 1) := by decide +kernel
theorem dX2_layOut_31 : decode cX2_layOut 31 = .ok (.iload_n 2, 1) := by decide +kernel
theorem dX2_layOut_32 : decode cX2_layOut 32 = .ok (.ifCond .ne 7, 3) := by decide +kernel
theorem dX2_layOut_35 : decode cX2_layOut 35 = .ok (.iconst 0, 1) := by decide +kernel
theorem dX2_layOut_36 : decode cX2_layOut 36 = .ok (.goto 4, 3) := by decide +kernel
theorem dX2_layOut_39 : decode cX2_layOut 39 = .ok (.iload_n 3, 1) := by decide +kernel
theorem dX2_layOut_40 : decode cX2_layOut 40 = .ok (.iastore, 1) := by decide +kernel
theorem dX2_layOut_41 : decode cX2_layOut 41 = .ok (.iconst 0, 1) := by decide +kernel
theorem dX2_layOut_42 : decode cX2_layOut 42 = .ok (.istore 4, 2) := by decide +kernel
theorem dX2_layOut_44 : decode cX2_layOut 44 = .ok (.iload 4, 2) := by decide +kernel
theorem dX2_layOut_46 : decode cX2_layOut 46 = .ok (.bipush 40, 2) := by decide +kernel
theorem dX2_layOut_48 : decode cX2_layOut 48 = .ok (.if_icmp .ge 22, 3) := by decide +kernel
theorem dX2_layOut_51 : decode cX2_layOut 51 = .ok (.aload_n 0, 1) := by decide +kernel
theorem dX2_layOut_52 : decode cX2_layOut 52 = .ok (.getfield 16, 3) := by decide +kernel
theorem dX2_layOut_55 : decode cX2_layOut 55 = .ok (.iload_n 1, 1) := by decide +kernel
theorem dX2_layOut_56 : decode cX2_layOut 56 = .ok (.bipush 40, 2) := by decide +kernel
theorem dX2_layOut_58 : decode cX2_layOut 58 = .ok (.imul, 1) := by decide +kernel
theorem dX2_layOut_59 : decode cX2_layOut 59 = .ok (.iload 4, 2) := by decide +kernel
theorem dX2_layOut_61 : decode cX2_layOut 61 = .ok (.iadd, 1) := by decide +kernel
theorem dX2_layOut_62 : decode cX2_layOut 62 = .ok (.lconst 0, 1) := by decide +kernel
theorem dX2_layOut_63 : decode cX2_layOut 63 = .ok (.lastore, 1) := by decide +kernel
theorem dX2_layOut_64 : decode cX2_layOut 64 = .ok (.iinc 4 1, 3) := by decide +kernel
theorem dX2_layOut_67 : decode cX2_layOut 67 = .ok (.goto (-23), 3) := by decide +kernel
theorem dX2_layOut_70 : decode cX2_layOut 70 = .ok (.aload_n 0, 1) := by decide +kernel
theorem dX2_layOut_71 : decode cX2_layOut 71 = .ok (.getfield 13, 3) := by decide +kernel
theorem dX2_layOut_74 : decode cX2_layOut 74 = .ok (.iload_n 1, 1) := by decide +kernel
theorem dX2_layOut_75 : decode cX2_layOut 75 = .ok (.iaload, 1) := by decide +kernel
theorem dX2_layOut_76 : decode cX2_layOut 76 = .ok (.ireturn, 1) := by decide +kernel
theorem dX2_isMissing_0 : decode cX2_isMissing 0 = .ok (.aload_n 0, 1) := by decide +kernel
theorem dX2_isMissing_1 : decode cX2_isMissing 1 = .ok (.iload_n 1, 1) := by decide +kernel
theorem dX2_isMissing_2 : decode cX2_isMissing 2 = .ok (.invokevirtual 24, 3) := by decide +kernel
theorem dX2_isMissing_5 : decode cX2_isMissing 5 = .ok (.ifCond .ne 7, 3) := by decide +kernel
theorem dX2_isMissing_8 : decode cX2_isMissing 8 = .ok (.iconst 1, 1) := by decide +kernel
theorem dX2_isMissing_9 : decode cX2_isMissing 9 = .ok (.goto 4, 3) := by decide +kernel
theorem dX2_isMissing_12 : decode cX2_isMissing 12 = .ok (.iconst 0, 1) := by decide +kernel
theorem dX2_isMissing_13 : decode cX2_isMissing 13 = .ok (.ireturn, 1) := by decide +kernel
theorem dX2_width_0 : decode cX2_width 0 = .ok (.iload_n 1, 1) := by decide +kernel
theorem dX2_width_1 : decode cX2_width 1 = .ok (.invokestatic 20, 3) := by decide +kernel
theorem dX2_width_4 : decode cX2_width 4 = .ok (.ifCond .eq 12, 3) := by decide +kernel
theorem dX2_width_7 : decode cX2_width 7 = .ok (.aload_n 0, 1) := by decide +kernel
theorem dX2_width_8 : decode cX2_width 8 = .ok (.getfield 9, 3) := by decide +kernel
theorem dX2_width_11 : decode cX2_width 11 = .ok (.iload_n 1, 1) := by decide +kernel
theorem dX2_width_12 : decode cX2_width 12 = .ok (.iaload, 1) := by decide +kernel
theorem dX2_width_13 : decode cX2_width 13 = .ok (.goto 4, 3) := by decide +kernel
theorem dX2_width_16 : decode cX2_width 16 = .ok (.iconst 0, 1) := by decide +kernel
theorem dX2_width_17 : decode cX2_width 17 = .ok (.ireturn, 1) := by decide +kernel
theorem dX2_length_0 : decode cX2_length 0 = .ok (.iload_n 1, 1) := by decide +kernel
theorem dX2_length_1 : decode cX2_length 1 = .ok (.invokestatic 20, 3) := by decide +kernel
theorem dX2_length_4 : decode cX2_length 4 = .ok (.ifCond .eq 12, 3) := by decide +kernel
theorem dX2_length_7 : decode cX2_length 7 = .ok (.aload_n 0, 1) := by decide +kernel
theorem dX2_length_8 : decode cX2_length 8 = .ok (.getfield 13, 3) := by decide +kernel
theorem dX2_length_11 : decode cX2_length 11 = .ok (.iload_n 1, 1) := by decide +kernel
theorem dX2_length_12 : decode cX2_length 12 = .ok (.iaload, 1) := by decide +kernel
theorem dX2_length_13 : decode cX2_length 13 = .ok (.goto 4, 3) := by decide +kernel
theorem dX2_length_16 : decode cX2_length 16 = .ok (.iconst 0, 1) := by decide +kernel
theorem dX2_length_17 : decode cX2_length 17 = .ok (.ireturn, 1) := by decide +kernel
theorem dX2_hasRange_0 : decode cX2_hasRange 0 = .ok (.iload_n 2, 1) := by decide +kernel
theorem dX2_hasRange_1 : decode cX2_hasRange 1 = .ok (.ifCond .lt 31, 3) := by decide +kernel
theorem dX2_hasRange_4 : decode cX2_hasRange 4 = .ok (.iload_n 3, 1) := by decide +kernel
theorem dX2_hasRange_5 : decode cX2_hasRange 5 = .ok (.ifCond .lt 27, 3) := by decide +kernel
theorem dX2_hasRange_8 : decode cX2_hasRange 8 = .ok (.iload_n 3, 1) := by decide +kernel
theorem dX2_hasRange_9 : decode cX2_hasRange 9 = .ok (.aload_n 0, 1) := by decide +kernel
theorem dX2_hasRange_10 : decode cX2_hasRange 10 = .ok (.iload_n 1, 1) := by decide +kernel
theorem dX2_hasRange_11 : decode cX2_hasRange 11 = .ok (.invokevirtual 28, 3) := by decide +kernel
theorem dX2_hasRange_14 : decode cX2_hasRange 14 = .ok (.if_icmp .gt 18, 3) := by decide +kernel
theorem dX2_hasRange_17 : decode cX2_hasRange 17 = .ok (.iload_n 2, 1) := by decide +kernel
theorem dX2_hasRange_18 : decode cX2_hasRange 18 = .ok (.aload_n 0, 1) := by decide +kernel
theorem dX2_hasRange_19 : decode cX2_hasRange 19 = .ok (.iload_n 1, 1) := by decide +kernel
theorem dX2_hasRange_20 : decode cX2_hasRange 20 = .ok (.invokevirtual 28, 3) := by decide +kernel
theorem dX2_hasRange_23 : decode cX2_hasRange 23 = .ok (.iload_n 3, 1) := by decide +kernel
theorem dX2_hasRange_24 : decode cX2_hasRange 24 = .ok (.isub, 1) := by decide +kernel
theorem dX2_hasRange_25 : decode cX2_hasRange 25 = .ok (.if_icmp .gt 7, 3) := by decide +kernel
theorem dX2_hasRange_28 : decode cX2_hasRange 28 = .ok (.iconst 1, 1) := by decide +kernel
theorem dX2_hasRange_29 : decode cX2_hasRange 29 = .ok (.goto 4, 3) := by decide +kernel
theorem dX2_hasRange_32 : decode cX2_hasRange 32 = .ok (.iconst 0, 1) := by decide +kernel
theorem dX2_hasRange_33 : decode cX2_hasRange 33 = .ok (.ireturn, 1) := by decide +kernel
theorem dX2_number_0 : decode cX2_number 0 = .ok (.aload_n 0, 1) := by decide +kernel
theorem dX2_number_1 : decode cX2_number 1 = .ok (.iload_n 1, 1) := by decide +kernel
theorem dX2_number_2 : decode cX2_number 2 = .ok (.iload_n 2, 1) := by decide +kernel
theorem dX2_number_3 : decode cX2_number 3 = .ok (.iconst 1, 1) := by decide +kernel
theorem dX2_number_4 : decode cX2_number 4 = .ok (.invokevirtual 31, 3) := by decide +kernel
theorem dX2_number_7 : decode cX2_number 7 = .ok (.ifCond .eq 17, 3) := by decide +kernel
theorem dX2_number_10 : decode cX2_number 10 = .ok (.aload_n 0, 1) := by decide +kernel
theorem dX2_number_11 : decode cX2_number 11 = .ok (.getfield 16, 3) := by decide +kernel
theorem dX2_number_14 : decode cX2_number 14 = .ok (.iload_n 1, 1) := by decide +kernel
theorem dX2_number_15 : decode cX2_number 15 = .ok (.bipush 40, 2) := by decide +kernel
theorem dX2_number_17 : decode cX2_number 17 = .ok (.imul, 1) := by decide +kernel
theorem dX2_number_18 : decode cX2_number 18 = .ok (.iload_n 2, 1) := by decide +kernel
theorem dX2_number_19 : decode cX2_number 19 = .ok (.iadd, 1) := by decide +kernel
theorem dX2_number_20 : decode cX2_number 20 = .ok (.laload, 1) := by decide +kernel
theorem dX2_number_21 : decode cX2_number 21 = .ok (.goto 4, 3) := by decide +kernel
theorem dX2_number_24 : decode cX2_number 24 = .ok (.lconst 0, 1) := by decide +kernel
theorem dX2_number_25 : decode cX2_number 25 = .ok (.lreturn, 1) := by decide +kernel
theorem dX2_put_0 : decode cX2_put 0 = .ok (.aload_n 0, 1) := by decide +kernel
theorem dX2_put_1 : decode cX2_put 1 = .ok (.iload_n 1, 1) := by decide +kernel
theorem dX2_put_2 : decode cX2_put 2 = .ok (.iload_n 2, 1) := by decide +kernel
theorem dX2_put_3 : decode cX2_put 3 = .ok (.iconst 1, 1) := by decide +kernel
theorem dX2_put_4 : decode cX2_put 4 = .ok (.invokevirtual 31, 3) := by decide +kernel
theorem dX2_put_7 : decode cX2_put 7 = .ok (.ifCond .eq 23, 3) := by decide +kernel
theorem dX2_put_10 : decode cX2_put 10 = .ok (.aload_n 0, 1) := by decide +kernel
theorem dX2_put_11 : decode cX2_put 11 = .ok (.getfield 16, 3) := by decide +kernel
theorem dX2_put_14 : decode cX2_put 14 = .ok (.iload_n 1, 1) := by decide +kernel
theorem dX2_put_15 : decode cX2_put 15 = .ok (.bipush 40, 2) := by decide +kernel
theorem dX2_put_17 : decode cX2_put 17 = .ok (.imul, 1) := by decide +kernel
theorem dX2_put_18 : decode cX2_put 18 = .ok (.iload_n 2, 1) := by decide +kernel
theorem dX2_put_19 : decode cX2_put 19 = .ok (.iadd, 1) := by decide +kernel
theorem dX2_put_20 : decode cX2_put 20 = .ok (.aload_n 0, 1) := by decide +kernel
theorem dX2_put_21 : decode cX2_put 21 = .ok (.iload_n 1, 1) := by decide +kernel
theorem dX2_put_22 : decode cX2_put 22 = .ok (.invokevirtual 24, 3) := by decide +kernel
theorem dX2_put_25 : decode cX2_put 25 = .ok (.lload_n 3, 1) := by decide +kernel
theorem dX2_put_26 : decode cX2_put 26 = .ok (.invokestatic 35, 3) := by decide +kernel
theorem dX2_put_29 : decode cX2_put 29 = .ok (.lastore, 1) := by decide +kernel
theorem dX2_put_30 : decode cX2_put 30 = .ok (.return_, 1) := by decide +kernel
theorem dX2_cut_0 : decode cX2_cut 0 = .ok (.iload_n 0, 1) := by decide +kernel
theorem dX2_cut_1 : decode cX2_cut 1 = .ok (.bipush 8, 2) := by decide +kernel
theorem dX2_cut_3 : decode cX2_cut 3 = .ok (.if_icmp .ne 8, 3) := by decide +kernel
theorem dX2_cut_6 : decode cX2_cut 6 = .ok (.lload_n 1, 1) := by decide +kernel
theorem dX2_cut_7 : decode cX2_cut 7 = .ok (.l2i, 1) := by decide +kernel
theorem dX2_cut_8 : decode cX2_cut 8 = .ok (.i2b, 1) := by decide +kernel
theorem dX2_cut_9 : decode cX2_cut 9 = .ok (.i2l, 1) := by decide +kernel
theorem dX2_cut_10 : decode cX2_cut 10 = .ok (.lreturn, 1) := by decide +kernel
theorem dX2_cut_11 : decode cX2_cut 11 = .ok (.iload_n 0, 1) := by decide +kernel
theorem dX2_cut_12 : decode cX2_cut 12 = .ok (.bipush 16, 2) := by decide +kernel
theorem dX2_cut_14 : decode cX2_cut 14 = .ok (.if_icmp .ne 8, 3) := by decide +kernel
theorem dX2_cut_17 : decode cX2_cut 17 = .ok (.lload_n 1, 1) := by decide +kernel
theorem dX2_cut_18 : decode cX2_cut 18 = .ok (.l2i, 1) := by decide +kernel
theorem dX2_cut_19 : decode cX2_cut 19 = .ok (.i2s, 1) := by decide +kernel
theorem dX2_cut_20 : decode cX2_cut 20 = .ok (.i2l, 1) := by decide +kernel
theorem dX2_cut_21 : decode cX2_cut 21 = .ok (.lreturn, 1) := by decide +kernel
theorem dX2_cut_22 : decode cX2_cut 22 = .ok (.lload_n 1, 1) := by decide +kernel
theorem dX2_cut_23 : decode cX2_cut 23 = .ok (.lreturn, 1) := by decide +kernel
theorem dX2_move_0 : decode cX2_move 0 = .ok (.aload_n 0, 1) := by decide +kernel
theorem dX2_move_1 : decode cX2_move 1 = .ok (.iload_n 1, 1) := by decide +kernel
theorem dX2_move_2 : decode cX2_move 2 = .ok (.iload_n 2, 1) := by decide +kernel
theorem dX2_move_3 : decode cX2_move 3 = .ok (.iload 5, 2) := by decide +kernel
theorem dX2_move_5 : decode cX2_move 5 = .ok (.invokevirtual 31, 3) := by decide +kernel
theorem dX2_move_8 : decode cX2_move 8 = .ok (.ifCond .eq 15, 3) := by decide +kernel
theorem dX2_move_11 : decode cX2_move 11 = .ok (.aload_n 0, 1) := by decide +kernel
theorem dX2_move_12 : decode cX2_move 12 = .ok (.iload_n 3, 1) := by decide +kernel
theorem dX2_move_13 : decode cX2_move 13 = .ok (.iload 4, 2) := by decide +kernel
theorem dX2_move_15 : decode cX2_move 15 = .ok (.iload 5, 2) := by decide +kernel
theorem dX2_move_17 : decode cX2_move 17 = .ok (.invokevirtual 31, 3) := by decide +kernel
theorem dX2_move_20 : decode cX2_move 20 = .ok (.ifCond .ne 4, 3) := by decide +kernel
theorem dX2_move_23 : decode cX2_move 23 = .ok (.return_, 1) := by decide +kernel
theorem dX2_move_24 : decode cX2_move 24 = .ok (.aload_n 0, 1) := by decide +kernel
theorem dX2_move_25 : decode cX2_move 25 = .ok (.getfield 16, 3) := by decide +kernel
theorem dX2_move_28 : decode cX2_move 28 = .ok (.iload_n 1, 1) := by decide +kernel
theorem dX2_move_29 : decode cX2_move 29 = .ok (.bipush 40, 2) := by decide +kernel
theorem dX2_move_31 : decode cX2_move 31 = .ok (.imul, 1) := by decide +kernel
theorem dX2_move_32 : decode cX2_move 32 = .ok (.iload_n 2, 1) := by decide +kernel
theorem dX2_move_33 : decode cX2_move 33 = .ok (.iadd, 1) := by decide +kernel
theorem dX2_move_34 : decode cX2_move 34 = .ok (.aload_n 0, 1) := by decide +kernel
theorem dX2_move_35 : decode cX2_move 35 = .ok (.getfield 16, 3) := by decide +kernel
theorem dX2_move_38 : decode cX2_move 38 = .ok (.iload_n 3, 1) := by decide +kernel
theorem dX2_move_39 : decode cX2_move 39 = .ok (.bipush 40, 2) := by decide +kernel
theorem dX2_move_41 : decode cX2_move 41 = .ok (.imul, 1) := by decide +kernel
theorem dX2_move_42 : decode cX2_move 42 = .ok (.iload 4, 2) := by decide +kernel
theorem dX2_move_44 : decode cX2_move 44 = .ok (.iadd, 1) := by decide +kernel
theorem dX2_move_45 : decode cX2_move 45 = .ok (.iload 5, 2) := by decide +kernel
theorem dX2_move_47 : decode cX2_move 47 = .ok (.invokestatic 39, 3) := by decide +kernel
theorem dX2_move_50 : decode cX2_move 50 = .ok (.return_, 1) := by decide +kernel
theorem dX3_init_0 : decode cX3_init 0 = .ok (.aload_n 0, 1) := by decide +kernel
theorem dX3_init_1 : decode cX3_init 1 = .ok (.invokespecial 3, 3) := by decide +kernel
theorem dX3_init_4 : decode cX3_init 4 = .ok (.aload_n 0, 1) := by decide +kernel
theorem dX3_init_5 : decode cX3_init 5 = .ok (.iconst 0, 1) := by decide +kernel
theorem dX3_init_6 : decode cX3_init 6 = .ok (.putfield 9, 3) := by decide +kernel
theorem dX3_init_9 : decode cX3_init 9 = .ok (.aload_n 0, 1) := by decide +kernel
theorem dX3_init_10 : decode cX3_init 10 = .ok (.iconst 0, 1) := by decide +kernel
theorem dX3_init_11 : decode cX3_init 11 = .ok (.putfield 15, 3) := by decide +kernel
theorem dX3_init_14 : decode cX3_init 14 = .ok (.aload_n 0, 1) := by decide +kernel
theorem dX3_init_15 : decode cX3_init 15 = .ok (.iconst 0, 1) := by decide +kernel
theorem dX3_init_16 : decode cX3_init 16 = .ok (.putfield 18, 3) := by decide +kernel
theorem dX3_init_19 : decode cX3_init 19 = .ok (.aload_n 0, 1) := by decide +kernel
theorem dX3_init_20 : decode cX3_init 20 = .ok (.bipush 6, 2) := by decide +kernel
theorem dX3_init_22 : decode cX3_init 22 = .ok (.newarray .int, 2) := by decide +kernel
theorem dX3_init_24 : decode cX3_init 24 = .ok (.putfield 21, 3) := by decide +kernel
theorem dX3_init_27 : decode cX3_init 27 = .ok (.aload_n 0, 1) := by decide +kernel
theorem dX3_init_28 : decode cX3_init 28 = .ok (.bipush 48, 2) := by decide +kernel
theorem dX3_init_30 : decode cX3_init 30 = .ok (.newarray .int, 2) := by decide +kernel
theorem dX3_init_32 : decode cX3_init 32 = .ok (.putfield 25, 3) := by decide +kernel
theorem dX3_init_35 : decode cX3_init 35 = .ok (.aload_n 0, 1) := by decide +kernel
theorem dX3_init_36 : decode cX3_init 36 = .ok (.sipush 288, 3) := by decide +kernel
theorem dX3_init_39 : decode cX3_init 39 = .ok (.newarray .int, 2) := by decide +kernel
theorem dX3_init_41 : decode cX3_init 41 = .ok (.putfield 28, 3) := by decide +kernel
theorem dX3_init_44 : decode cX3_init 44 = .ok (.aload_n 0, 1) := by decide +kernel
theorem dX3_init_45 : decode cX3_init 45 = .ok (.sipush 288, 3) := by decide +kernel
theorem dX3_init_48 : decode cX3_init 48 = .ok (.newarray .int, 2) := by decide +kernel
theorem dX3_init_50 : decode cX3_init 50 = .ok (.putfield 31, 3) := by decide +kernel
theorem dX3_init_53 : decode cX3_init 53 = .ok (.return_, 1) := by decide +kernel
theorem dX3_become_0 : decode cX3_become 0 = .ok (.aload_n 0, 1) := by decide +kernel
theorem dX3_become_1 : decode cX3_become 1 = .ok (.aload_n 1, 1) := by decide +kernel
theorem dX3_become_2 : decode cX3_become 2 = .ok (.getfield 9, 3) := by decide +kernel
theorem dX3_become_5 : decode cX3_become 5 = .ok (.putfield 9, 3) := by decide +kernel
theorem dX3_become_8 : decode cX3_become 8 = .ok (.aload_n 0, 1) := by decide +kernel
theorem dX3_become_9 : decode cX3_become 9 = .ok (.aload_n 1, 1) := by decide +kernel
theorem dX3_become_10 : decode cX3_become 10 = .ok (.getfield 15, 3) := by decide +kernel
theorem dX3_become_13 : decode cX3_become 13 = .ok (.putfield 15, 3) := by decide +kernel
theorem dX3_become_16 : decode cX3_become 16 = .ok (.aload_n 0, 1) := by decide +kernel
theorem dX3_become_17 : decode cX3_become 17 = .ok (.aload_n 1, 1) := by decide +kernel
theorem dX3_become_18 : decode cX3_become 18 = .ok (.getfield 18, 3) := by decide +kernel
theorem dX3_become_21 : decode cX3_become 21 = .ok (.putfield 18, 3) := by decide +kernel
theorem dX3_become_24 : decode cX3_become 24 = .ok (.aload_n 1, 1) := by decide +kernel
theorem dX3_become_25 : decode cX3_become 25 = .ok (.getfield 21, 3) := by decide +kernel
theorem dX3_become_28 : decode cX3_become 28 = .ok (.iconst 0, 1) := by decide +kernel
theorem dX3_become_29 : decode cX3_become 29 = .ok (.aload_n 0, 1) := by decide +kernel
theorem dX3_become_30 : decode cX3_become 30 = .ok (.getfield 21, 3) := by decide +kernel
theorem dX3_become_33 : decode cX3_become 33 = .ok (.iconst 0, 1) := by decide +kernel
theorem dX3_become_34 : decode cX3_become 34 = .ok (.aload_n 0, 1) := by decide +kernel
theorem dX3_become_35 : decode cX3_become 35 = .ok (.getfield 21, 3) := by decide +kernel
theorem dX3_become_38 : decode cX3_become 38 = .ok (.arraylength, 1) := by decide +kernel
theorem dX3_become_39 : decode cX3_become 39 = .ok (.invokestatic 34, 3) := by decide +kernel
theorem dX3_become_42 : decode cX3_become 42 = .ok (.aload_n 1, 1) := by decide +kernel
theorem dX3_become_43 : decode cX3_become 43 = .ok (.getfield 25, 3) := by decide +kernel
theorem dX3_become_46 : decode cX3_become 46 = .ok (.iconst 0, 1) := by decide +kernel
theorem dX3_become_47 : decode cX3_become 47 = .ok (.aload_n 0, 1) := by decide +kernel
theorem dX3_become_48 : decode cX3_become 48 = .ok (.getfield 25, 3) := by decide +kernel
theorem dX3_become_51 : decode cX3_become 51 = .ok (.iconst 0, 1) := by decide +kernel
theorem dX3_become_52 : decode cX3_become 52 = .ok (.aload_n 0, 1) := by decide +kernel
theorem dX3_become_53 : decode cX3_become 53 = .ok (.getfield 25, 3) := by decide +kernel
theorem dX3_become_56 : decode cX3_become 56 = .ok (.arraylength, 1) := by decide +kernel
theorem dX3_become_57 : decode cX3_become 57 = .ok (.invokestatic 34, 3) := by decide +kernel
theorem dX3_become_60 : decode cX3_become 60 = .ok (.aload_n 1, 1) := by decide +kernel
theorem dX3_become_61 : decode cX3_become 61 = .ok (.getfield 28, 3) := by decide +kernel
theorem dX3_become_64 : decode cX3_become 64 = .ok (.iconst 0, 1) := by decide +kernel
theorem dX3_become_65 : decode cX3_become 65 = .ok (.aload_n 0, 1) := by decide +kernel
theorem dX3_become_66 : decode cX3_become 66 = .ok (.getfield 28, 3) := by decide +kernel
theorem dX3_become_69 : decode cX3_become 69 = .ok (.iconst 0, 1) := by decide +kernel
theorem dX3_become_70 : decode cX3_become 70 = .ok (.aload_n 0, 1) := by decide +kernel
theorem dX3_become_71 : decode cX3_become 71 = .ok (.getfield 28, 3) := by decide +kernel
theorem dX3_become_74 : decode cX3_become 74 = .ok (.arraylength, 1) := by decide +kernel
theorem dX3_become_75 : decode cX3_become 75 = .ok (.invokestatic 34, 3) := by decide +kernel
theorem dX3_become_78 : decode cX3_become 78 = .ok (.aload_n 1, 1) := by decide +kernel
theorem dX3_become_79 : decode cX3_become 79 = .ok (.getfield 31, 3) := by decide +kernel
theorem dX3_become_82 : decode cX3_become 82 = .ok (.iconst 0, 1) := by decide +kernel
theorem dX3_become_83 : decode cX3_become 83 = .ok (.aload_n 0, 1) := by decide +kernel
theorem dX3_become_84 : decode cX3_become 84 = .ok (.getfield 31, 3) := by decide +kernel
theorem dX3_become_87 : decode cX3_become 87 = .ok (.iconst 0, 1) := by decide +kernel
theorem dX3_become_88 : decode cX3_become 88 = .ok (.aload_n 0, 1) := by decide +kernel
theorem dX3_become_89 : decode cX3_become 89 = .ok (.getfield 31, 3) := by decide +kernel
theorem dX3_become_92 : decode cX3_become 92 = .ok (.arraylength, 1) := by decide +kernel
theorem dX3_become_93 : decode cX3_become 93 = .ok (.invokestatic 34, 3) := by decide +kernel
theorem dX3_become_96 : decode cX3_become 96 = .ok (.return_, 1) := by decide +kernel
theorem dX3_hasFlue_0 : decode cX3_hasFlue 0 = .ok (.iload_n 1, 1) := by decide +kernel
theorem dX3_hasFlue_1 : decode cX3_hasFlue 1 = .ok (.ifCond .lt 21, 3) := by decide +kernel
theorem dX3_hasFlue_4 : decode cX3_hasFlue 4 = .ok (.iload_n 1, 1) := by decide +kernel
theorem dX3_hasFlue_5 : decode cX3_hasFlue 5 = .ok (.aload_n 0, 1) := by decide +kernel
theorem dX3_hasFlue_6 : decode cX3_hasFlue 6 = .ok (.getfield 18, 3) := by decide +kernel
theorem dX3_hasFlue_9 : decode cX3_hasFlue 9 = .ok (.if_icmp .ge 13, 3) := by decide +kernel
theorem dX3_hasFlue_12 : decode cX3_hasFlue 12 = .ok (.iload_n 1, 1) := by decide +kernel
theorem dX3_hasFlue_13 : decode cX3_hasFlue 13 = .ok (.bipush 6, 2) := by decide +kernel
theorem dX3_hasFlue_15 : decode cX3_hasFlue 15 = .ok (.if_icmp .ge 7, 3) := by decide +kernel
theorem dX3_hasFlue_18 : decode cX3_hasFlue 18 = .ok (.iconst 1, 1) := by decide +kernel
theorem dX3_hasFlue_19 : decode cX3_hasFlue 19 = .ok (.goto 4, 3) := by decide +kernel
theorem dX3_hasFlue_22 : decode cX3_hasFlue 22 = .ok (.iconst 0, 1) := by decide +kernel
theorem dX3_hasFlue_23 : decode cX3_hasFlue 23 = .ok (.ireturn, 1) := by decide +kernel
theorem dX3_addFlue_0 : decode cX3_addFlue 0 = .ok (.aload_n 0, 1) := by decide +kernel
theorem dX3_addFlue_1 : decode cX3_addFlue 1 = .ok (.getfield 18, 3) := by decide +kernel
theorem dX3_addFlue_4 : decode cX3_addFlue 4 = .ok (.bipush 6, 2) := by decide +kernel
theorem dX3_addFlue_6 : decode cX3_addFlue 6 = .ok (.if_icmp .lt 5, 3) := by decide +kernel
theorem dX3_addFlue_9 : decode cX3_addFlue 9 = .ok (.iconst (-1), 1) := by decide +kernel
theorem dX3_addFlue_10 : decode cX3_addFlue 10 = .ok (.ireturn, 1) := by decide +kernel
theorem dX3_addFlue_11 : decode cX3_addFlue 11 = .ok (.aload_n 0, 1) := by decide +kernel
theorem dX3_addFlue_12 : decode cX3_addFlue 12 = .ok (.getfield 21, 3) := by decide +kernel
theorem dX3_addFlue_15 : decode cX3_addFlue 15 = .ok (.aload_n 0, 1) := by decide +kernel
theorem dX3_addFlue_16 : decode cX3_addFlue 16 = .ok (.getfield 18, 3) := by decide +kernel
theorem dX3_addFlue_19 : decode cX3_addFlue 19 = .ok (.iload_n 1, 1) := by decide +kernel
theorem dX3_addFlue_20 : decode cX3_addFlue 20 = .ok (.iastore, 1) := by decide +kernel
theorem dX3_addFlue_21 : decode cX3_addFlue 21 = .ok (.iconst 0, 1) := by decide +kernel
theorem dX3_addFlue_22 : decode cX3_addFlue 22 = .ok (.istore_n 2, 1) := by decide +kernel
theorem dX3_addFlue_23 : decode cX3_addFlue 23 = .ok (.iload_n 2, 1) := by decide +kernel
theorem dX3_addFlue_24 : decode cX3_addFlue 24 = .ok (.bipush 8, 2) := by decide +kernel
theorem dX3_addFlue_26 : decode cX3_addFlue 26 = .ok (.if_icmp .ge 24, 3) := by decide +kernel
theorem dX3_addFlue_29 : decode cX3_addFlue 29 = .ok (.aload_n 0, 1) := by decide +kernel
theorem dX3_addFlue_30 : decode cX3_addFlue 30 = .ok (.getfield 25, 3) := by decide +kernel
theorem dX3_addFlue_33 : decode cX3_addFlue 33 = .ok (.aload_n 0, 1) := by decide +kernel
theorem dX3_addFlue_34 : decode cX3_addFlue 34 = .ok (.getfield 18, 3) := by decide +kernel
theorem dX3_addFlue_37 : decode cX3_addFlue 37 = .ok (.bipush 8, 2) := by decide +kernel
theorem dX3_addFlue_39 : decode cX3_addFlue 39 = .ok (.imul, 1) := by decide +kernel
theorem dX3_addFlue_40 : decode cX3_addFlue 40 = .ok (.iload_n 2, 1) := by decide +kernel
theorem dX3_addFlue_41 : decode cX3_addFlue 41 = .ok (.iadd, 1) := by decide +kernel
theorem dX3_addFlue_42 : decode cX3_addFlue 42 = .ok (.iconst 0, 1) := by decide +kernel
theorem dX3_addFlue_43 : decode cX3_addFlue 43 = .ok (.iastore, 1) := by decide +kernel
theorem dX3_addFlue_44 : decode cX3_addFlue 44 = .ok (.iinc 2 1, 3) := by decide +kernel
theorem dX3_addFlue_47 : decode cX3_addFlue 47 = .ok (.goto (-24), 3) := by decide +kernel
theorem dX3_addFlue_50 : decode cX3_addFlue 50 = .ok (.aload_n 0, 1) := by decide +kernel
theorem dX3_addFlue_51 : decode cX3_addFlue 51 = .ok (.dup, 1) := by decide +kernel
theorem dX3_addFlue_52 : decode cX3_addFlue 52 = .ok (.getfield 18, 3) := by decide +kernel
theorem dX3_addFlue_55 : decode cX3_addFlue 55 = .ok (.iconst 1, 1) := by decide +kernel
theorem dX3_addFlue_56 : decode cX3_addFlue 56 = .ok (.iadd, 1) := by decide +kernel
theorem dX3_addFlue_57 : decode cX3_addFlue 57 = .ok (.putfield 18, 3) := by decide +kernel
theorem dX3_addFlue_60 : decode cX3_addFlue 60 = .ok (.aload_n 0, 1) := by decide +kernel
theorem dX3_addFlue_61 : decode cX3_addFlue 61 = .ok (.getfield 18, 3) := by decide +kernel
theorem dX3_addFlue_64 : decode cX3_addFlue 64 = .ok (.iconst 1, 1) := by decide +kernel
theorem dX3_addFlue_65 : decode cX3_addFlue 65 = .ok (.isub, 1) := by decide +kernel
theorem dX3_addFlue_66 : decode cX3_addFlue 66 = .ok (.ireturn, 1) := by decide +kernel
theorem dX3_kindOf_0 : decode cX3_kindOf 0 = .ok (.aload_n 0, 1) := by decide +kernel
theorem dX3_kindOf_1 : decode cX3_kindOf 1 = .ok (.iload_n 1, 1) := by decide +kernel
theorem dX3_kindOf_2 : decode cX3_kindOf 2 = .ok (.invokevirtual 40, 3) := by decide +kernel
theorem dX3_kindOf_5 : decode cX3_kindOf 5 = .ok (.ifCond .eq 12, 3) := by decide +kernel
theorem dX3_kindOf_8 : decode cX3_kindOf 8 = .ok (.aload_n 0, 1) := by decide +kernel
theorem dX3_kindOf_9 : decode cX3_kindOf 9 = .ok (.getfield 21, 3) := by decide +kernel
theorem dX3_kindOf_12 : decode cX3_kindOf 12 = .ok (.iload_n 1, 1) := by decide +kernel
theorem dX3_kindOf_13 : decode cX3_kindOf 13 = .ok (.iaload, 1) := by decide +kernel
theorem dX3_kindOf_14 : decode cX3_kindOf 14 = .ok (.goto 4, 3) := by decide +kernel
theorem dX3_kindOf_17 : decode cX3_kindOf 17 = .ok (.iconst 0, 1) := by decide +kernel
theorem dX3_kindOf_18 : decode cX3_kindOf 18 = .ok (.ireturn, 1) := by decide +kernel
theorem dX3_setKind_0 : decode cX3_setKind 0 = .ok (.aload_n 0, 1) := by decide +kernel
theorem dX3_setKind_1 : decode cX3_setKind 1 = .ok (.iload_n 1, 1) := by decide +kernel
theorem dX3_setKind_2 : decode cX3_setKind 2 = .ok (.invokevirtual 40, 3) := by decide +kernel
theorem dX3_setKind_5 : decode cX3_setKind 5 = .ok (.ifCond .eq 10, 3) := by decide +kernel
theorem dX3_setKind_8 : decode cX3_setKind 8 = .ok (.aload_n 0, 1) := by decide +kernel
theorem dX3_setKind_9 : decode cX3_setKind 9 = .ok (.getfield 21, 3) := by decide +kernel
theorem dX3_setKind_12 : decode cX3_setKind 12 = .ok (.iload_n 1, 1) := by decide +kernel
theorem dX3_setKind_13 : decode cX3_setKind 13 = .ok (.iload_n 2, 1) := by decide +kernel
theorem dX3_setKind_14 : decode cX3_setKind 14 = .ok (.iastore, 1) := by decide +kernel
theorem dX3_setKind_15 : decode cX3_setKind 15 = .ok (.return_, 1) := by decide +kernel
theorem dX3_height_0 : decode cX3_height 0 = .ok (.aload_n 0, 1) := by decide +kernel
theorem dX3_height_1 : decode cX3_height 1 = .ok (.iload_n 1, 1) := by decide +kernel
theorem dX3_height_2 : decode cX3_height 2 = .ok (.invokevirtual 40, 3) := by decide +kernel
theorem dX3_height_5 : decode cX3_height 5 = .ok (.ifCond .eq 24, 3) := by decide +kernel
theorem dX3_height_8 : decode cX3_height 8 = .ok (.iload_n 2, 1) := by decide +kernel
theorem dX3_height_9 : decode cX3_height 9 = .ok (.invokestatic 44, 3) := by decide +kernel
theorem dX3_height_12 : decode cX3_height 12 = .ok (.ifCond .eq 17, 3) := by decide +kernel
theorem dX3_height_15 : decode cX3_height 15 = .ok (.aload_n 0, 1) := by decide +kernel
theorem dX3_height_16 : decode cX3_height 16 = .ok (.getfield 25, 3) := by decide +kernel
theorem dX3_height_19 : decode cX3_height 19 = .ok (.iload_n 1, 1) := by decide +kernel
theorem dX3_height_20 : decode cX3_height 20 = .ok (.bipush 8, 2) := by decide +kernel
theorem dX3_height_22 : decode cX3_height 22 = .ok (.imul, 1) := by decide +kernel
theorem dX3_height_23 : decode cX3_height 23 = .ok (.iload_n 2, 1) := by decide +kernel
theorem dX3_height_24 : decode cX3_height 24 = .ok (.iadd, 1) := by decide +kernel
theorem dX3_height_25 : decode cX3_height 25 = .ok (.iaload, 1) := by decide +kernel
theorem dX3_height_26 : decode cX3_height 26 = .ok (.goto 4, 3) := by decide +kernel
theorem dX3_height_29 : decode cX3_height 29 = .ok (.iconst 0, 1) := by decide +kernel
theorem dX3_height_30 : decode cX3_height 30 = .ok (.ireturn, 1) := by decide +kernel
theorem dX3_hasLayer_0 : decode cX3_hasLayer 0 = .ok (.iload_n 3, 1) := by decide +kernel
theorem dX3_hasLayer_1 : decode cX3_hasLayer 1 = .ok (.ifCond .lt 17, 3) := by decide +kernel
theorem dX3_hasLayer_4 : decode cX3_hasLayer 4 = .ok (.iload_n 3, 1) := by decide +kernel
theorem dX3_hasLayer_5 : decode cX3_hasLayer 5 = .ok (.aload_n 0, 1) := by decide +kernel
theorem dX3_hasLayer_6 : decode cX3_hasLayer 6 = .ok (.iload_n 1, 1) := by decide +kernel
theorem dX3_hasLayer_7 : decode cX3_hasLayer 7 = .ok (.iload_n 2, 1) := by decide +kernel
theorem dX3_hasLayer_8 : decode cX3_hasLayer 8 = .ok (.invokevirtual 47, 3) := by decide +kernel
theorem dX3_hasLayer_11 : decode cX3_hasLayer 11 = .ok (.if_icmp .ge 7, 3) := by decide +kernel
theorem dX3_hasLayer_14 : decode cX3_hasLayer 14 = .ok (.iconst 1, 1) := by decide +kernel
theorem dX3_hasLayer_15 : decode cX3_hasLayer 15 = .ok (.goto 4, 3) := by decide +kernel
theorem dX3_hasLayer_18 : decode cX3_hasLayer 18 = .ok (.iconst 0, 1) := by decide +kernel
theorem dX3_hasLayer_19 : decode cX3_hasLayer 19 = .ok (.ireturn, 1) := by decide +kernel
theorem dX3_place_0 : decode cX3_place 0 = .ok (.iload_n 1, 1) := by decide +kernel
theorem dX3_place_1 : decode cX3_place 1 = .ok (.bipush 8, 2) := by decide +kernel
theorem dX3_place_3 : decode cX3_place 3 = .ok (.imul, 1) := by decide +kernel
theorem dX3_place_4 : decode cX3_place 4 = .ok (.iload_n 2, 1) := by decide +kernel
theorem dX3_place_5 : decode cX3_place 5 = .ok (.iadd, 1) := by decide +kernel
theorem dX3_place_6 : decode cX3_place 6 = .ok (.bipush 6, 2) := by decide +kernel
theorem dX3_place_8 : decode cX3_place 8 = .ok (.imul, 1) := by decide +kernel
theorem dX3_place_9 : decode cX3_place 9 = .ok (.aload_n 0, 1) := by decide +kernel
theorem dX3_place_10 : decode cX3_place 10 = .ok (.iload_n 1, 1) := by decide +kernel
theorem dX3_place_11 : decode cX3_place 11 = .ok (.iload_n 2, 1) := by decide +kernel
theorem dX3_place_12 : decode cX3_place 12 = .ok (.invokevirtual 47, 3) := by decide +kernel
theorem dX3_place_15 : decode cX3_place 15 = .ok (.iadd, 1) := by decide +kernel
theorem dX3_place_16 : decode cX3_place 16 = .ok (.iconst 1, 1) := by decide +kernel
theorem dX3_place_17 : decode cX3_place 17 = .ok (.isub, 1) := by decide +kernel
theorem dX3_place_18 : decode cX3_place 18 = .ok (.iload_n 3, 1) := by decide +kernel
theorem dX3_place_19 : decode cX3_place 19 = .ok (.isub, 1) := by decide +kernel
theorem dX3_place_20 : decode cX3_place 20 = .ok (.ireturn, 1) := by decide +kernel
theorem dX3_wordAt_0 : decode cX3_wordAt 0 = .ok (.aload_n 0, 1) := by decide +kernel
theorem dX3_wordAt_1 : decode cX3_wordAt 1 = .ok (.iload_n 1, 1) := by decide +kernel
theorem dX3_wordAt_2 : decode cX3_wordAt 2 = .ok (.iload_n 2, 1) := by decide +kernel
theorem dX3_wordAt_3 : decode cX3_wordAt 3 = .ok (.iload_n 3, 1) := by decide +kernel
theorem dX3_wordAt_4 : decode cX3_wordAt 4 = .ok (.invokevirtual 51, 3) := by decide +kernel
theorem dX3_wordAt_7 : decode cX3_wordAt 7 = .ok (.ifCond .eq 18, 3) := by decide +kernel
theorem dX3_wordAt_10 : decode cX3_wordAt 10 = .ok (.aload_n 0, 1) := by decide +kernel
theorem dX3_wordAt_11 : decode cX3_wordAt 11 = .ok (.getfield 28, 3) := by decide +kernel
theorem dX3_wordAt_14 : decode cX3_wordAt 14 = .ok (.aload_n 0, 1) := by decide +kernel
theorem dX3_wordAt_15 : decode cX3_wordAt 15 = .ok (.iload_n 1, 1) := by decide +kernel
theorem dX3_wordAt_16 : decode cX3_wordAt 16 = .ok (.iload_n 2, 1) := by decide +kernel
theorem dX3_wordAt_17 : decode cX3_wordAt 17 = .ok (.iload_n 3, 1) := by decide +kernel
theorem dX3_wordAt_18 : decode cX3_wordAt 18 = .ok (.invokevirtual 55, 3) := by decide +kernel
theorem dX3_wordAt_21 : decode cX3_wordAt 21 = .ok (.iaload, 1) := by decide +kernel
theorem dX3_wordAt_22 : decode cX3_wordAt 22 = .ok (.goto 4, 3) := by decide +kernel
theorem dX3_wordAt_25 : decode cX3_wordAt 25 = .ok (.iconst 0, 1) := by decide +kernel
theorem dX3_wordAt_26 : decode cX3_wordAt 26 = .ok (.ireturn, 1) := by decide +kernel
theorem dX3_cakeAt_0 : decode cX3_cakeAt 0 = .ok (.aload_n 0, 1) := by decide +kernel
theorem dX3_cakeAt_1 : decode cX3_cakeAt 1 = .ok (.iload_n 1, 1) := by decide +kernel
theorem dX3_cakeAt_2 : decode cX3_cakeAt 2 = .ok (.iload_n 2, 1) := by decide +kernel
theorem dX3_cakeAt_3 : decode cX3_cakeAt 3 = .ok (.iload_n 3, 1) := by decide +kernel
theorem dX3_cakeAt_4 : decode cX3_cakeAt 4 = .ok (.invokevirtual 51, 3) := by decide +kernel
theorem dX3_cakeAt_7 : decode cX3_cakeAt 7 = .ok (.ifCond .eq 18, 3) := by decide +kernel
theorem dX3_cakeAt_10 : decode cX3_cakeAt 10 = .ok (.aload_n 0, 1) := by decide +kernel
theorem dX3_cakeAt_11 : decode cX3_cakeAt 11 = .ok (.getfield 31, 3) := by decide +kernel
theorem dX3_cakeAt_14 : decode cX3_cakeAt 14 = .ok (.aload_n 0, 1) := by decide +kernel
theorem dX3_cakeAt_15 : decode cX3_cakeAt 15 = .ok (.iload_n 1, 1) := by decide +kernel
theorem dX3_cakeAt_16 : decode cX3_cakeAt 16 = .ok (.iload_n 2, 1) := by decide +kernel
theorem dX3_cakeAt_17 : decode cX3_cakeAt 17 = .ok (.iload_n 3, 1) := by decide +kernel
theorem dX3_cakeAt_18 : decode cX3_cakeAt 18 = .ok (.invokevirtual 55, 3) := by decide +kernel
theorem dX3_cakeAt_21 : decode cX3_cakeAt 21 = .ok (.iaload, 1) := by decide +kernel
theorem dX3_cakeAt_22 : decode cX3_cakeAt 22 = .ok (.goto 4, 3) := by decide +kernel
theorem dX3_cakeAt_25 : decode cX3_cakeAt 25 = .ok (.iconst 0, 1) := by decide +kernel
theorem dX3_cakeAt_26 : decode cX3_cakeAt 26 = .ok (.ireturn, 1) := by decide +kernel
theorem dX3_setCake_0 : decode cX3_setCake 0 = .ok (.aload_n 0, 1) := by decide +kernel
theorem dX3_setCake_1 : decode cX3_setCake 1 = .ok (.iload_n 1, 1) := by decide +kernel
theorem dX3_setCake_2 : decode cX3_setCake 2 = .ok (.iload_n 2, 1) := by decide +kernel
theorem dX3_setCake_3 : decode cX3_setCake 3 = .ok (.iload_n 3, 1) := by decide +kernel
theorem dX3_setCake_4 : decode cX3_setCake 4 = .ok (.invokevirtual 51, 3) := by decide +kernel
theorem dX3_setCake_7 : decode cX3_setCake 7 = .ok (.ifCond .eq 17, 3) := by decide +kernel
theorem dX3_setCake_10 : decode cX3_setCake 10 = .ok (.aload_n 0, 1) := by decide +kernel
theorem dX3_setCake_11 : decode cX3_setCake 11 = .ok (.getfield 31, 3) := by decide +kernel
theorem dX3_setCake_14 : decode cX3_setCake 14 = .ok (.aload_n 0, 1) := by decide +kernel
theorem dX3_setCake_15 : decode cX3_setCake 15 = .ok (.iload_n 1, 1) := by decide +kernel
theorem dX3_setCake_16 : decode cX3_setCake 16 = .ok (.iload_n 2, 1) := by decide +kernel
theorem dX3_setCake_17 : decode cX3_setCake 17 = .ok (.iload_n 3, 1) := by decide +kernel
theorem dX3_setCake_18 : decode cX3_setCake 18 = .ok (.invokevirtual 55, 3) := by decide +kernel
theorem dX3_setCake_21 : decode cX3_setCake 21 = .ok (.iload 4, 2) := by decide +kernel
theorem dX3_setCake_23 : decode cX3_setCake 23 = .ok (.iastore, 1) := by decide +kernel
theorem dX3_setCake_24 : decode cX3_setCake 24 = .ok (.return_, 1) := by decide +kernel
theorem dX3_lay_0 : decode cX3_lay 0 = .ok (.aload_n 0, 1) := by decide +kernel
theorem dX3_lay_1 : decode cX3_lay 1 = .ok (.iload_n 1, 1) := by decide +kernel
theorem dX3_lay_2 : decode cX3_lay 2 = .ok (.invokevirtual 40, 3) := by decide +kernel
theorem dX3_lay_5 : decode cX3_lay 5 = .ok (.ifCond .eq 10, 3) := by decide +kernel
theorem dX3_lay_8 : decode cX3_lay 8 = .ok (.iload_n 2, 1) := by decide +kernel
theorem dX3_lay_9 : decode cX3_lay 9 = .ok (.invokestatic 44, 3) := by decide +kernel
theorem dX3_lay_12 : decode cX3_lay 12 = .ok (.ifCond .ne 4, 3) := by decide +kernel
theorem dX3_lay_15 : decode cX3_lay 15 = .ok (.return_, 1) := by decide +kernel
theorem dX3_lay_16 : decode cX3_lay 16 = .ok (.aload_n 0, 1) := by decide +kernel
theorem dX3_lay_17 : decode cX3_lay 17 = .ok (.iload_n 1, 1) := by decide +kernel
theorem dX3_lay_18 : decode cX3_lay 18 = .ok (.iload_n 2, 1) := by decide +kernel
theorem dX3_lay_19 : decode cX3_lay 19 = .ok (.invokevirtual 47, 3) := by decide +kernel
theorem dX3_lay_22 : decode cX3_lay 22 = .ok (.istore 5, 2) := by decide +kernel
theorem dX3_lay_24 : decode cX3_lay 24 = .ok (.iload 5, 2) := by decide +kernel
theorem dX3_lay_26 : decode cX3_lay 26 = .ok (.bipush 6, 2) := by decide +kernel
theorem dX3_lay_28 : decode cX3_lay 28 = .ok (.if_icmp .ge 17, 3) := by decide +kernel
theorem dX3_lay_31 : decode cX3_lay 31 = .ok (.iload 5, 2) := by decide +kernel
theorem dX3_lay_33 : decode cX3_lay 33 = .ok (.aload_n 0, 1) := by decide +kernel
theorem dX3_lay_34 : decode cX3_lay 34 = .ok (.iload_n 1, 1) := by decide +kernel
theorem dX3_lay_35 : decode cX3_lay 35 = .ok (.invokevirtual 59, 3) := by decide +kernel
theorem dX3_lay_38 : decode cX3_lay 38 = .ok (.iload_n 2, 1) := by decide +kernel
theorem dX3_lay_39 : decode cX3_lay 39 = .ok (.invokestatic 63, 3) := by decide +kernel
theorem dX3_lay_42 : decode cX3_lay 42 = .ok (.if_icmp .lt 4, 3) := by decide +kernel
theorem dX3_lay_45 : decode cX3_lay 45 = .ok (.return_, 1) := by decide +kernel
theorem dX3_lay_46 : decode cX3_lay 46 = .ok (.iload_n 1, 1) := by decide +kernel
theorem dX3_lay_47 : decode cX3_lay 47 = .ok (.bipush 8, 2) := by decide +kernel
theorem dX3_lay_49 : decode cX3_lay 49 = .ok (.imul, 1) := by decide +kernel
theorem dX3_lay_50 : decode cX3_lay 50 = .ok (.iload_n 2, 1) := by decide +kernel
theorem dX3_lay_51 : decode cX3_lay 51 = .ok (.iadd, 1) := by decide +kernel
theorem dX3_lay_52 : decode cX3_lay 52 = .ok (.bipush 6, 2) := by decide +kernel
theorem dX3_lay_54 : decode cX3_lay 54 = .ok (.imul, 1) := by decide +kernel
theorem dX3_lay_55 : decode cX3_lay 55 = .ok (.iload 5, 2) := by decide +kernel
theorem dX3_lay_57 : decode cX3_lay 57 = .ok (.iadd, 1) := by decide +kernel
theorem dX3_lay_58 : decode cX3_lay 58 = .ok (.istore 6, 2) := by decide +kernel
theorem dX3_lay_60 : decode cX3_lay 60 = .ok (.aload_n 0, 1) := by decide +kernel
theorem dX3_lay_61 : decode cX3_lay 61 = .ok (.getfield 28, 3) := by decide +kernel
theorem dX3_lay_64 : decode cX3_lay 64 = .ok (.iload 6, 2) := by decide +kernel
theorem dX3_lay_66 : decode cX3_lay 66 = .ok (.iload_n 3, 1) := by decide +kernel
theorem dX3_lay_67 : decode cX3_lay 67 = .ok (.iastore, 1) := by decide +kernel
theorem dX3_lay_68 : decode cX3_lay 68 = .ok (.aload_n 0, 1) := by decide +kernel
theorem dX3_lay_69 : decode cX3_lay 69 = .ok (.getfield 31, 3) := by decide +kernel
theorem dX3_lay_72 : decode cX3_lay 72 = .ok (.iload 6, 2) := by decide +kernel
theorem dX3_lay_74 : decode cX3_lay 74 = .ok (.iload 4, 2) := by decide +kernel
theorem dX3_lay_76 : decode cX3_lay 76 = .ok (.iastore, 1) := by decide +kernel
theorem dX3_lay_77 : decode cX3_lay 77 = .ok (.aload_n 0, 1) := by decide +kernel
theorem dX3_lay_78 : decode cX3_lay 78 = .ok (.getfield 25, 3) := by decide +kernel
theorem dX3_lay_81 : decode cX3_lay 81 = .ok (.iload_n 1, 1) := by decide +kernel
theorem dX3_lay_82 : decode cX3_lay 82 = .ok (.bipush 8, 2) := by decide +kernel
theorem dX3_lay_84 : decode cX3_lay 84 = .ok (.imul, 1) := by decide +kernel
theorem dX3_lay_85 : decode cX3_lay 85 = .ok (.iload_n 2, 1) := by decide +kernel
theorem dX3_lay_86 : decode cX3_lay 86 = .ok (.iadd, 1) := by decide +kernel
theorem dX3_lay_87 : decode cX3_lay 87 = .ok (.iload 5, 2) := by decide +kernel
theorem dX3_lay_89 : decode cX3_lay 89 = .ok (.iconst 1, 1) := by decide +kernel
theorem dX3_lay_90 : decode cX3_lay 90 = .ok (.iadd, 1) := by decide +kernel
theorem dX3_lay_91 : decode cX3_lay 91 = .ok (.iastore, 1) := by decide +kernel
theorem dX3_lay_92 : decode cX3_lay 92 = .ok (.return_, 1) := by decide +kernel
theorem dX3_landing_0 : decode cX3_landing 0 = .ok (.aload_n 0, 1) := by decide +kernel
theorem dX3_landing_1 : decode cX3_landing 1 = .ok (.iload_n 1, 1) := by decide +kernel
theorem dX3_landing_2 : decode cX3_landing 2 = .ok (.invokevirtual 59, 3) := by decide +kernel
theorem dX3_landing_5 : decode cX3_landing 5 = .ok (.istore 4, 2) := by decide +kernel
theorem dX3_landing_7 : decode cX3_landing 7 = .ok (.iload 4, 2) := by decide +kernel
theorem dX3_landing_9 : decode cX3_landing 9 = .ok (.iload 4, 2) := by decide +kernel
theorem dX3_landing_11 : decode cX3_landing 11 = .ok (.iload_n 2, 1) := by decide +kernel
theorem dX3_landing_12 : decode cX3_landing 12 = .ok (.iload_n 3, 1) := by decide +kernel
theorem dX3_landing_13 : decode cX3_landing 13 = .ok (.aload_n 0, 1) := by decide +kernel
theorem dX3_landing_14 : decode cX3_landing 14 = .ok (.getfield 9, 3) := by decide +kernel
theorem dX3_landing_17 : decode cX3_landing 17 = .ok (.invokestatic 68, 3) := by decide +kernel
theorem dX3_landing_20 : decode cX3_landing 20 = .ok (.aload_n 0, 1) := by decide +kernel
theorem dX3_landing_21 : decode cX3_landing 21 = .ok (.getfield 25, 3) := by decide +kernel
theorem dX3_landing_24 : decode cX3_landing 24 = .ok (.iload_n 1, 1) := by decide +kernel
theorem dX3_landing_25 : decode cX3_landing 25 = .ok (.bipush 8, 2) := by decide +kernel
theorem dX3_landing_27 : decode cX3_landing 27 = .ok (.imul, 1) := by decide +kernel
theorem dX3_landing_28 : decode cX3_landing 28 = .ok (.invokestatic 72, 3) := by decide +kernel
theorem dX3_landing_31 : decode cX3_landing 31 = .ok (.ireturn, 1) := by decide +kernel
theorem dX3_speak_0 : decode cX3_speak 0 = .ok (.aload_n 0, 1) := by decide +kernel
theorem dX3_speak_1 : decode cX3_speak 1 = .ok (.iload_n 1, 1) := by decide +kernel
theorem dX3_speak_2 : decode cX3_speak 2 = .ok (.iload_n 2, 1) := by decide +kernel
theorem dX3_speak_3 : decode cX3_speak 3 = .ok (.iload_n 3, 1) := by decide +kernel
theorem dX3_speak_4 : decode cX3_speak 4 = .ok (.invokevirtual 76, 3) := by decide +kernel
theorem dX3_speak_7 : decode cX3_speak 7 = .ok (.istore 4, 2) := by decide +kernel
theorem dX3_speak_9 : decode cX3_speak 9 = .ok (.iload 4, 2) := by decide +kernel
theorem dX3_speak_11 : decode cX3_speak 11 = .ok (.iconst (-1), 1) := by decide +kernel
theorem dX3_speak_12 : decode cX3_speak 12 = .ok (.if_icmp .eq 12, 3) := by decide +kernel
theorem dX3_speak_15 : decode cX3_speak 15 = .ok (.aload_n 0, 1) := by decide +kernel
theorem dX3_speak_16 : decode cX3_speak 16 = .ok (.iload_n 1, 1) := by decide +kernel
theorem dX3_speak_17 : decode cX3_speak 17 = .ok (.iload 4, 2) := by decide +kernel
theorem dX3_speak_19 : decode cX3_speak 19 = .ok (.iload_n 2, 1) := by decide +kernel
theorem dX3_speak_20 : decode cX3_speak 20 = .ok (.iconst 0, 1) := by decide +kernel
theorem dX3_speak_21 : decode cX3_speak 21 = .ok (.invokevirtual 79, 3) := by decide +kernel
theorem dX3_speak_24 : decode cX3_speak 24 = .ok (.iload 4, 2) := by decide +kernel
theorem dX3_speak_26 : decode cX3_speak 26 = .ok (.ireturn, 1) := by decide +kernel
theorem dX3_passDays_0 : decode cX3_passDays 0 = .ok (.iconst 0, 1) := by decide +kernel
theorem dX3_passDays_1 : decode cX3_passDays 1 = .ok (.istore_n 2, 1) := by decide +kernel
theorem dX3_passDays_2 : decode cX3_passDays 2 = .ok (.iload_n 2, 1) := by decide +kernel
theorem dX3_passDays_3 : decode cX3_passDays 3 = .ok (.aload_n 0, 1) := by decide +kernel
theorem dX3_passDays_4 : decode cX3_passDays 4 = .ok (.getfield 18, 3) := by decide +kernel
theorem dX3_passDays_7 : decode cX3_passDays 7 = .ok (.if_icmp .ge 86, 3) := by decide +kernel
theorem dX3_passDays_10 : decode cX3_passDays 10 = .ok (.iload_n 1, 1) := by decide +kernel
theorem dX3_passDays_11 : decode cX3_passDays 11 = .ok (.aload_n 0, 1) := by decide +kernel
theorem dX3_passDays_12 : decode cX3_passDays 12 = .ok (.iload_n 2, 1) := by decide +kernel
theorem dX3_passDays_13 : decode cX3_passDays 13 = .ok (.invokevirtual 59, 3) := by decide +kernel
theorem dX3_passDays_16 : decode cX3_passDays 16 = .ok (.aload_n 0, 1) := by decide +kernel
theorem dX3_passDays_17 : decode cX3_passDays 17 = .ok (.getfield 15, 3) := by decide +kernel
theorem dX3_passDays_20 : decode cX3_passDays 20 = .ok (.invokestatic 83, 3) := by decide +kernel
theorem dX3_passDays_23 : decode cX3_passDays 23 = .ok (.imul, 1) := by decide +kernel
theorem dX3_passDays_24 : decode cX3_passDays 24 = .ok (.istore_n 3, 1) := by decide +kernel
theorem dX3_passDays_25 : decode cX3_passDays 25 = .ok (.iconst 0, 1) := by decide +kernel
theorem dX3_passDays_26 : decode cX3_passDays 26 = .ok (.istore 4, 2) := by decide +kernel
theorem dX3_passDays_28 : decode cX3_passDays 28 = .ok (.iload 4, 2) := by decide +kernel
theorem dX3_passDays_30 : decode cX3_passDays 30 = .ok (.bipush 8, 2) := by decide +kernel
theorem dX3_passDays_32 : decode cX3_passDays 32 = .ok (.if_icmp .ge 55, 3) := by decide +kernel
theorem dX3_passDays_35 : decode cX3_passDays 35 = .ok (.iconst 0, 1) := by decide +kernel
theorem dX3_passDays_36 : decode cX3_passDays 36 = .ok (.istore 5, 2) := by decide +kernel
theorem dX3_passDays_38 : decode cX3_passDays 38 = .ok (.iload 5, 2) := by decide +kernel
theorem dX3_passDays_40 : decode cX3_passDays 40 = .ok (.aload_n 0, 1) := by decide +kernel
theorem dX3_passDays_41 : decode cX3_passDays 41 = .ok (.iload_n 2, 1) := by decide +kernel
theorem dX3_passDays_42 : decode cX3_passDays 42 = .ok (.iload 4, 2) := by decide +kernel
theorem dX3_passDays_44 : decode cX3_passDays 44 = .ok (.invokevirtual 47, 3) := by decide +kernel
theorem dX3_passDays_47 : decode cX3_passDays 47 = .ok (.if_icmp .ge 34, 3) := by decide +kernel
theorem dX3_passDays_50 : decode cX3_passDays 50 = .ok (.aload_n 0, 1) := by decide +kernel
theorem dX3_passDays_51 : decode cX3_passDays 51 = .ok (.iload_n 2, 1) := by decide +kernel
theorem dX3_passDays_52 : decode cX3_passDays 52 = .ok (.iload 4, 2) := by decide +kernel
theorem dX3_passDays_54 : decode cX3_passDays 54 = .ok (.iload 5, 2) := by decide +kernel
theorem dX3_passDays_56 : decode cX3_passDays 56 = .ok (.bipush 9, 2) := by decide +kernel
theorem dX3_passDays_58 : decode cX3_passDays 58 = .ok (.aload_n 0, 1) := by decide +kernel
theorem dX3_passDays_59 : decode cX3_passDays 59 = .ok (.iload_n 2, 1) := by decide +kernel
theorem dX3_passDays_60 : decode cX3_passDays 60 = .ok (.iload 4, 2) := by decide +kernel
theorem dX3_passDays_62 : decode cX3_passDays 62 = .ok (.iload 5, 2) := by decide +kernel
theorem dX3_passDays_64 : decode cX3_passDays 64 = .ok (.invokevirtual 85, 3) := by decide +kernel
theorem dX3_passDays_67 : decode cX3_passDays 67 = .ok (.iload_n 3, 1) := by decide +kernel
theorem dX3_passDays_68 : decode cX3_passDays 68 = .ok (.iadd, 1) := by decide +kernel
theorem dX3_passDays_69 : decode cX3_passDays 69 = .ok (.invokestatic 88, 3) := by decide +kernel
theorem dX3_passDays_72 : decode cX3_passDays 72 = .ok (.invokevirtual 93, 3) := by decide +kernel
theorem dX3_passDays_75 : decode cX3_passDays 75 = .ok (.iinc 5 1, 3) := by decide +kernel
theorem dX3_passDays_78 : decode cX3_passDays 78 = .ok (.goto (-40), 3) := by decide +kernel
theorem dX3_passDays_81 : decode cX3_passDays 81 = .ok (.iinc 4 1, 3) := by decide +kernel
theorem dX3_passDays_84 : decode cX3_passDays 84 = .ok (.goto (-56), 3) := by decide +kernel
theorem dX3_passDays_87 : decode cX3_passDays 87 = .ok (.iinc 2 1, 3) := by decide +kernel
theorem dX3_passDays_90 : decode cX3_passDays 90 = .ok (.goto (-88), 3) := by decide +kernel
theorem dX3_passDays_93 : decode cX3_passDays 93 = .ok (.aload_n 0, 1) := by decide +kernel
theorem dX3_passDays_94 : decode cX3_passDays 94 = .ok (.dup, 1) := by decide +kernel
theorem dX3_passDays_95 : decode cX3_passDays 95 = .ok (.getfield 9, 3) := by decide +kernel
theorem dX3_passDays_98 : decode cX3_passDays 98 = .ok (.iload_n 1, 1) := by decide +kernel
theorem dX3_passDays_99 : decode cX3_passDays 99 = .ok (.iadd, 1) := by decide +kernel
theorem dX3_passDays_100 : decode cX3_passDays 100 = .ok (.putfield 9, 3) := by decide +kernel
theorem dX3_passDays_103 : decode cX3_passDays 103 = .ok (.return_, 1) := by decide +kernel
theorem dX3_loose_0 : decode cX3_loose 0 = .ok (.aload_n 0, 1) := by decide +kernel
theorem dX3_loose_1 : decode cX3_loose 1 = .ok (.iload_n 1, 1) := by decide +kernel
theorem dX3_loose_2 : decode cX3_loose 2 = .ok (.iload_n 2, 1) := by decide +kernel
theorem dX3_loose_3 : decode cX3_loose 3 = .ok (.invokevirtual 47, 3) := by decide +kernel
theorem dX3_loose_6 : decode cX3_loose 6 = .ok (.istore 5, 2) := by decide +kernel
theorem dX3_loose_8 : decode cX3_loose 8 = .ok (.aload_n 0, 1) := by decide +kernel
theorem dX3_loose_9 : decode cX3_loose 9 = .ok (.iload_n 1, 1) := by decide +kernel
theorem dX3_loose_10 : decode cX3_loose 10 = .ok (.iload_n 2, 1) := by decide +kernel
theorem dX3_loose_11 : decode cX3_loose 11 = .ok (.iconst 0, 1) := by decide +kernel
theorem dX3_loose_12 : decode cX3_loose 12 = .ok (.invokevirtual 55, 3) := by decide +kernel
theorem dX3_loose_15 : decode cX3_loose 15 = .ok (.istore 6, 2) := by decide +kernel
theorem dX3_loose_17 : decode cX3_loose 17 = .ok (.iconst 0, 1) := by decide +kernel
theorem dX3_loose_18 : decode cX3_loose 18 = .ok (.istore 7, 2) := by decide +kernel
theorem dX3_loose_20 : decode cX3_loose 20 = .ok (.iload 7, 2) := by decide +kernel
theorem dX3_loose_22 : decode cX3_loose 22 = .ok (.iload 5, 2) := by decide +kernel
theorem dX3_loose_24 : decode cX3_loose 24 = .ok (.if_icmp .ge 29, 3) := by decide +kernel
theorem dX3_loose_27 : decode cX3_loose 27 = .ok (.aload_n 0, 1) := by decide +kernel
theorem dX3_loose_28 : decode cX3_loose 28 = .ok (.getfield 31, 3) := by decide +kernel
theorem dX3_loose_31 : decode cX3_loose 31 = .ok (.iload 6, 2) := by decide +kernel
theorem dX3_loose_33 : decode cX3_loose 33 = .ok (.iload 7, 2) := by decide +kernel
theorem dX3_loose_35 : decode cX3_loose 35 = .ok (.isub, 1) := by decide +kernel
theorem dX3_loose_36 : decode cX3_loose 36 = .ok (.iaload, 1) := by decide +kernel
theorem dX3_loose_37 : decode cX3_loose 37 = .ok (.iload 4, 2) := by decide +kernel
theorem dX3_loose_39 : decode cX3_loose 39 = .ok (.iadd, 1) := by decide +kernel
theorem dX3_loose_40 : decode cX3_loose 40 = .ok (.iload_n 3, 1) := by decide +kernel
theorem dX3_loose_41 : decode cX3_loose 41 = .ok (.if_icmp .lt 6, 3) := by decide +kernel
theorem dX3_loose_44 : decode cX3_loose 44 = .ok (.iload 7, 2) := by decide +kernel
theorem dX3_loose_46 : decode cX3_loose 46 = .ok (.ireturn, 1) := by decide +kernel
theorem dX3_loose_47 : decode cX3_loose 47 = .ok (.iinc 7 1, 3) := by decide +kernel
theorem dX3_loose_50 : decode cX3_loose 50 = .ok (.goto (-30), 3) := by decide +kernel
theorem dX3_loose_53 : decode cX3_loose 53 = .ok (.iload 5, 2) := by decide +kernel
theorem dX3_loose_55 : decode cX3_loose 55 = .ok (.ireturn, 1) := by decide +kernel
theorem dX3_takeDown_0 : decode cX3_takeDown 0 = .ok (.iconst 0, 1) := by decide +kernel
theorem dX3_takeDown_1 : decode cX3_takeDown 1 = .ok (.istore 4, 2) := by decide +kernel
theorem dX3_takeDown_3 : decode cX3_takeDown 3 = .ok (.iconst 0, 1) := by decide +kernel
theorem dX3_takeDown_4 : decode cX3_takeDown 4 = .ok (.istore 5, 2) := by decide +kernel
theorem dX3_takeDown_6 : decode cX3_takeDown 6 = .ok (.iload 5, 2) := by decide +kernel
theorem dX3_takeDown_8 : decode cX3_takeDown 8 = .ok (.iload_n 2, 1) := by decide +kernel
theorem dX3_takeDown_9 : decode cX3_takeDown 9 = .ok (.if_icmp .gt 59, 3) := by decide +kernel
theorem dX3_takeDown_12 : decode cX3_takeDown 12 = .ok (.iload 5, 2) := by decide +kernel
theorem dX3_takeDown_14 : decode cX3_takeDown 14 = .ok (.bipush 8, 2) := by decide +kernel
theorem dX3_takeDown_16 : decode cX3_takeDown 16 = .ok (.if_icmp .ge 52, 3) := by decide +kernel
theorem dX3_takeDown_19 : decode cX3_takeDown 19 = .ok (.aload_n 0, 1) := by decide +kernel
theorem dX3_takeDown_20 : decode cX3_takeDown 20 = .ok (.iload_n 1, 1) := by decide +kernel
theorem dX3_takeDown_21 : decode cX3_takeDown 21 = .ok (.iload 5, 2) := by decide +kernel
theorem dX3_takeDown_23 : decode cX3_takeDown 23 = .ok (.iload_n 3, 1) := by decide +kernel
theorem dX3_takeDown_24 : decode cX3_takeDown 24 = .ok (.iconst 0, 1) := by decide +kernel
theorem dX3_takeDown_25 : decode cX3_takeDown 25 = .ok (.invokevirtual 96, 3) := by decide +kernel
theorem dX3_takeDown_28 : decode cX3_takeDown 28 = .ok (.istore 6, 2) := by decide +kernel
theorem dX3_takeDown_30 : decode cX3_takeDown 30 = .ok (.aload_n 0, 1) := by decide +kernel
theorem dX3_takeDown_31 : decode cX3_takeDown 31 = .ok (.iload_n 1, 1) := by decide +kernel
theorem dX3_takeDown_32 : decode cX3_takeDown 32 = .ok (.invokevirtual 40, 3) := by decide +kernel
theorem dX3_takeDown_35 : decode cX3_takeDown 35 = .ok (.ifCond .eq 20, 3) := by decide +kernel
theorem dX3_takeDown_38 : decode cX3_takeDown 38 = .ok (.aload_n 0, 1) := by decide +kernel
theorem dX3_takeDown_39 : decode cX3_takeDown 39 = .ok (.getfield 25, 3) := by decide +kernel
theorem dX3_takeDown_42 : decode cX3_takeDown 42 = .ok (.iload_n 1, 1) := by decide +kernel
theorem dX3_takeDown_43 : decode cX3_takeDown 43 = .ok (.bipush 8, 2) := by decide +kernel
theorem dX3_takeDown_45 : decode cX3_takeDown 45 = .ok (.imul, 1) := by decide +kernel
theorem dX3_takeDown_46 : decode cX3_takeDown 46 = .ok (.iload 5, 2) := by decide +kernel
theorem dX3_takeDown_48 : decode cX3_takeDown 48 = .ok (.iadd, 1) := by decide +kernel
theorem dX3_takeDown_49 : decode cX3_takeDown 49 = .ok (.dup2, 1) := by decide +kernel
theorem dX3_takeDown_50 : decode cX3_takeDown 50 = .ok (.iaload, 1) := by decide +kernel
theorem dX3_takeDown_51 : decode cX3_takeDown 51 = .ok (.iload 6, 2) := by decide +kernel
theorem dX3_takeDown_53 : decode cX3_takeDown 53 = .ok (.isub, 1) := by decide +kernel
theorem dX3_takeDown_54 : decode cX3_takeDown 54 = .ok (.iastore, 1) := by decide +kernel
theorem dX3_takeDown_55 : decode cX3_takeDown 55 = .ok (.iload 4, 2) := by decide +kernel
theorem dX3_takeDown_57 : decode cX3_takeDown 57 = .ok (.iload 6, 2) := by decide +kernel
theorem dX3_takeDown_59 : decode cX3_takeDown 59 = .ok (.iadd, 1) := by decide +kernel
theorem dX3_takeDown_60 : decode cX3_takeDown 60 = .ok (.istore 4, 2) := by decide +kernel
theorem dX3_takeDown_62 : decode cX3_takeDown 62 = .ok (.iinc 5 1, 3) := by decide +kernel
theorem dX3_takeDown_65 : decode cX3_takeDown 65 = .ok (.goto (-59), 3) := by decide +kernel
theorem dX3_takeDown_68 : decode cX3_takeDown 68 = .ok (.iload 4, 2) := by decide +kernel
theorem dX3_takeDown_70 : decode cX3_takeDown 70 = .ok (.ireturn, 1) := by decide +kernel
theorem dX3_layersIn_0 : decode cX3_layersIn 0 = .ok (.iconst 0, 1) := by decide +kernel
theorem dX3_layersIn_1 : decode cX3_layersIn 1 = .ok (.istore_n 2, 1) := by decide +kernel
theorem dX3_layersIn_2 : decode cX3_layersIn 2 = .ok (.iconst 0, 1) := by decide +kernel
theorem dX3_layersIn_3 : decode cX3_layersIn 3 = .ok (.istore_n 3, 1) := by decide +kernel
theorem dX3_layersIn_4 : decode cX3_layersIn 4 = .ok (.iload_n 3, 1) := by decide +kernel
theorem dX3_layersIn_5 : decode cX3_layersIn 5 = .ok (.bipush 8, 2) := by decide +kernel
theorem dX3_layersIn_7 : decode cX3_layersIn 7 = .ok (.if_icmp .ge 18, 3) := by decide +kernel
theorem dX3_layersIn_10 : decode cX3_layersIn 10 = .ok (.iload_n 2, 1) := by decide +kernel
theorem dX3_layersIn_11 : decode cX3_layersIn 11 = .ok (.aload_n 0, 1) := by decide +kernel
theorem dX3_layersIn_12 : decode cX3_layersIn 12 = .ok (.iload_n 1, 1) := by decide +kernel
theorem dX3_layersIn_13 : decode cX3_layersIn 13 = .ok (.iload_n 3, 1) := by decide +kernel
theorem dX3_layersIn_14 : decode cX3_layersIn 14 = .ok (.invokevirtual 47, 3) := by decide +kernel
theorem dX3_layersIn_17 : decode cX3_layersIn 17 = .ok (.iadd, 1) := by decide +kernel
theorem dX3_layersIn_18 : decode cX3_layersIn 18 = .ok (.istore_n 2, 1) := by decide +kernel
theorem dX3_layersIn_19 : decode cX3_layersIn 19 = .ok (.iinc 3 1, 3) := by decide +kernel
theorem dX3_layersIn_22 : decode cX3_layersIn 22 = .ok (.goto (-18), 3) := by decide +kernel
theorem dX3_layersIn_25 : decode cX3_layersIn 25 = .ok (.iload_n 2, 1) := by decide +kernel
theorem dX3_layersIn_26 : decode cX3_layersIn 26 = .ok (.ireturn, 1) := by decide +kernel
theorem dX3_wordsOn_0 : decode cX3_wordsOn 0 = .ok (.iconst 0, 1) := by decide +kernel
theorem dX3_wordsOn_1 : decode cX3_wordsOn 1 = .ok (.istore_n 3, 1) := by decide +kernel
theorem dX3_wordsOn_2 : decode cX3_wordsOn 2 = .ok (.aload_n 0, 1) := by decide +kernel
theorem dX3_wordsOn_3 : decode cX3_wordsOn 3 = .ok (.iload_n 1, 1) := by decide +kernel
theorem dX3_wordsOn_4 : decode cX3_wordsOn 4 = .ok (.iload_n 2, 1) := by decide +kernel
theorem dX3_wordsOn_5 : decode cX3_wordsOn 5 = .ok (.invokevirtual 47, 3) := by decide +kernel
theorem dX3_wordsOn_8 : decode cX3_wordsOn 8 = .ok (.istore 4, 2) := by decide +kernel
theorem dX3_wordsOn_10 : decode cX3_wordsOn 10 = .ok (.aload_n 0, 1) := by decide +kernel
theorem dX3_wordsOn_11 : decode cX3_wordsOn 11 = .ok (.iload_n 1, 1) := by decide +kernel
theorem dX3_wordsOn_12 : decode cX3_wordsOn 12 = .ok (.iload_n 2, 1) := by decide +kernel
theorem dX3_wordsOn_13 : decode cX3_wordsOn 13 = .ok (.iconst 0, 1) := by decide +kernel
theorem dX3_wordsOn_14 : decode cX3_wordsOn 14 = .ok (.invokevirtual 55, 3) := by decide +kernel
theorem dX3_wordsOn_17 : decode cX3_wordsOn 17 = .ok (.istore 5, 2) := by decide +kernel
theorem dX3_wordsOn_19 : decode cX3_wordsOn 19 = .ok (.iconst 0, 1) := by decide +kernel
theorem dX3_wordsOn_20 : decode cX3_wordsOn 20 = .ok (.istore 6, 2) := by decide +kernel
theorem dX3_wordsOn_22 : decode cX3_wordsOn 22 = .ok (.iload 6, 2) := by decide +kernel
theorem dX3_wordsOn_24 : decode cX3_wordsOn 24 = .ok (.iload 4, 2) := by decide +kernel
theorem dX3_wordsOn_26 : decode cX3_wordsOn 26 = .ok (.if_icmp .ge 24, 3) := by decide +kernel
theorem dX3_wordsOn_29 : decode cX3_wordsOn 29 = .ok (.iload_n 3, 1) := by decide +kernel
theorem dX3_wordsOn_30 : decode cX3_wordsOn 30 = .ok (.iconst 1, 1) := by decide +kernel
theorem dX3_wordsOn_31 : decode cX3_wordsOn 31 = .ok (.aload_n 0, 1) := by decide +kernel
theorem dX3_wordsOn_32 : decode cX3_wordsOn 32 = .ok (.getfield 28, 3) := by decide +kernel
theorem dX3_wordsOn_35 : decode cX3_wordsOn 35 = .ok (.iload 5, 2) := by decide +kernel
theorem dX3_wordsOn_37 : decode cX3_wordsOn 37 = .ok (.iload 6, 2) := by decide +kernel
theorem dX3_wordsOn_39 : decode cX3_wordsOn 39 = .ok (.isub, 1) := by decide +kernel
theorem dX3_wordsOn_40 : decode cX3_wordsOn 40 = .ok (.iaload, 1) := by decide +kernel
theorem dX3_wordsOn_41 : decode cX3_wordsOn 41 = .ok (.ishl, 1) := by decide +kernel
theorem dX3_wordsOn_42 : decode cX3_wordsOn 42 = .ok (.ior, 1) := by decide +kernel
theorem dX3_wordsOn_43 : decode cX3_wordsOn 43 = .ok (.istore_n 3, 1) := by decide +kernel
theorem dX3_wordsOn_44 : decode cX3_wordsOn 44 = .ok (.iinc 6 1, 3) := by decide +kernel
theorem dX3_wordsOn_47 : decode cX3_wordsOn 47 = .ok (.goto (-25), 3) := by decide +kernel
theorem dX3_wordsOn_50 : decode cX3_wordsOn 50 = .ok (.iload_n 3, 1) := by decide +kernel
theorem dX3_wordsOn_51 : decode cX3_wordsOn 51 = .ok (.ireturn, 1) := by decide +kernel
theorem dX3_wordsIn_0 : decode cX3_wordsIn 0 = .ok (.iconst 0, 1) := by decide +kernel
theorem dX3_wordsIn_1 : decode cX3_wordsIn 1 = .ok (.istore_n 2, 1) := by decide +kernel
theorem dX3_wordsIn_2 : decode cX3_wordsIn 2 = .ok (.iconst 0, 1) := by decide +kernel
theorem dX3_wordsIn_3 : decode cX3_wordsIn 3 = .ok (.istore_n 3, 1) := by decide +kernel
theorem dX3_wordsIn_4 : decode cX3_wordsIn 4 = .ok (.iload_n 3, 1) := by decide +kernel
theorem dX3_wordsIn_5 : decode cX3_wordsIn 5 = .ok (.bipush 8, 2) := by decide +kernel
theorem dX3_wordsIn_7 : decode cX3_wordsIn 7 = .ok (.if_icmp .ge 18, 3) := by decide +kernel
theorem dX3_wordsIn_10 : decode cX3_wordsIn 10 = .ok (.iload_n 2, 1) := by decide +kernel
theorem dX3_wordsIn_11 : decode cX3_wordsIn 11 = .ok (.aload_n 0, 1) := by decide +kernel
theorem dX3_wordsIn_12 : decode cX3_wordsIn 12 = .ok (.iload_n 1, 1) := by decide +kernel
theorem dX3_wordsIn_13 : decode cX3_wordsIn 13 = .ok (.iload_n 3, 1) := by decide +kernel
theorem dX3_wordsIn_14 : decode cX3_wordsIn 14 = .ok (.invokevirtual 99, 3) := by decide +kernel
theorem dX3_wordsIn_17 : decode cX3_wordsIn 17 = .ok (.ior, 1) := by decide +kernel
theorem dX3_wordsIn_18 : decode cX3_wordsIn 18 = .ok (.istore_n 2, 1) := by decide +kernel
theorem dX3_wordsIn_19 : decode cX3_wordsIn 19 = .ok (.iinc 3 1, 3) := by decide +kernel
theorem dX3_wordsIn_22 : decode cX3_wordsIn 22 = .ok (.goto (-18), 3) := by decide +kernel
theorem dX3_wordsIn_25 : decode cX3_wordsIn 25 = .ok (.iload_n 2, 1) := by decide +kernel
theorem dX3_wordsIn_26 : decode cX3_wordsIn 26 = .ok (.ireturn, 1) := by decide +kernel
theorem dX3_bareBends_0 : decode cX3_bareBends 0 = .ok (.iconst 0, 1) := by decide +kernel
theorem dX3_bareBends_1 : decode cX3_bareBends 1 = .ok (.istore_n 2, 1) := by decide +kernel
theorem dX3_bareBends_2 : decode cX3_bareBends 2 = .ok (.iconst 0, 1) := by decide +kernel
theorem dX3_bareBends_3 : decode cX3_bareBends 3 = .ok (.istore_n 3, 1) := by decide +kernel
theorem dX3_bareBends_4 : decode cX3_bareBends 4 = .ok (.iload_n 3, 1) := by decide +kernel
theorem dX3_bareBends_5 : decode cX3_bareBends 5 = .ok (.bipush 8, 2) := by decide +kernel
theorem dX3_bareBends_7 : decode cX3_bareBends 7 = .ok (.if_icmp .ge 24, 3) := by decide +kernel
theorem dX3_bareBends_10 : decode cX3_bareBends 10 = .ok (.aload_n 0, 1) := by decide +kernel
theorem dX3_bareBends_11 : decode cX3_bareBends 11 = .ok (.iload_n 1, 1) := by decide +kernel
theorem dX3_bareBends_12 : decode cX3_bareBends 12 = .ok (.iload_n 3, 1) := by decide +kernel
theorem dX3_bareBends_13 : decode cX3_bareBends 13 = .ok (.invokevirtual 47, 3) := by decide +kernel
theorem dX3_bareBends_16 : decode cX3_bareBends 16 = .ok (.ifCond .ne 9, 3) := by decide +kernel
theorem dX3_bareBends_19 : decode cX3_bareBends 19 = .ok (.iload_n 2, 1) := by decide +kernel
theorem dX3_bareBends_20 : decode cX3_bareBends 20 = .ok (.iconst 1, 1) := by decide +kernel
theorem dX3_bareBends_21 : decode cX3_bareBends 21 = .ok (.iload_n 3, 1) := by decide +kernel
theorem dX3_bareBends_22 : decode cX3_bareBends 22 = .ok (.ishl, 1) := by decide +kernel
theorem dX3_bareBends_23 : decode cX3_bareBends 23 = .ok (.ior, 1) := by decide +kernel
theorem dX3_bareBends_24 : decode cX3_bareBends 24 = .ok (.istore_n 2, 1) := by decide +kernel
theorem dX3_bareBends_25 : decode cX3_bareBends 25 = .ok (.iinc 3 1, 3) := by decide +kernel
theorem dX3_bareBends_28 : decode cX3_bareBends 28 = .ok (.goto (-24), 3) := by decide +kernel
theorem dX3_bareBends_31 : decode cX3_bareBends 31 = .ok (.iload_n 2, 1) := by decide +kernel
theorem dX3_bareBends_32 : decode cX3_bareBends 32 = .ok (.ireturn, 1) := by decide +kernel
theorem dX3_lowestWith_0 : decode cX3_lowestWith 0 = .ok (.iconst 0, 1) := by decide +kernel
theorem dX3_lowestWith_1 : decode cX3_lowestWith 1 = .ok (.istore_n 3, 1) := by decide +kernel
theorem dX3_lowestWith_2 : decode cX3_lowestWith 2 = .ok (.iload_n 3, 1) := by decide +kernel
theorem dX3_lowestWith_3 : decode cX3_lowestWith 3 = .ok (.bipush 8, 2) := by decide +kernel
theorem dX3_lowestWith_5 : decode cX3_lowestWith 5 = .ok (.if_icmp .ge 24, 3) := by decide +kernel
theorem dX3_lowestWith_8 : decode cX3_lowestWith 8 = .ok (.aload_n 0, 1) := by decide +kernel
theorem dX3_lowestWith_9 : decode cX3_lowestWith 9 = .ok (.iload_n 1, 1) := by decide +kernel
theorem dX3_lowestWith_10 : decode cX3_lowestWith 10 = .ok (.iload_n 3, 1) := by decide +kernel
theorem dX3_lowestWith_11 : decode cX3_lowestWith 11 = .ok (.invokevirtual 99, 3) := by decide +kernel
theorem dX3_lowestWith_14 : decode cX3_lowestWith 14 = .ok (.iload_n 2, 1) := by decide +kernel
theorem dX3_lowestWith_15 : decode cX3_lowestWith 15 = .ok (.invokestatic 102, 3) := by decide +kernel
theorem dX3_lowestWith_18 : decode cX3_lowestWith 18 = .ok (.ifCond .eq 5, 3) := by decide +kernel
theorem dX3_lowestWith_21 : decode cX3_lowestWith 21 = .ok (.iload_n 3, 1) := by decide +kernel
theorem dX3_lowestWith_22 : decode cX3_lowestWith 22 = .ok (.ireturn, 1) := by decide +kernel
theorem dX3_lowestWith_23 : decode cX3_lowestWith 23 = .ok (.iinc 3 1, 3) := by decide +kernel
theorem dX3_lowestWith_26 : decode cX3_lowestWith 26 = .ok (.goto (-24), 3) := by decide +kernel
theorem dX3_lowestWith_29 : decode cX3_lowestWith 29 = .ok (.iconst (-1), 1) := by decide +kernel
theorem dX3_lowestWith_30 : decode cX3_lowestWith 30 = .ok (.ireturn, 1) := by decide +kernel
theorem dX3_allLayers_0 : decode cX3_allLayers 0 = .ok (.iconst 0, 1) := by decide +kernel
theorem dX3_allLayers_1 : decode cX3_allLayers 1 = .ok (.istore_n 1, 1) := by decide +kernel
theorem dX3_allLayers_2 : decode cX3_allLayers 2 = .ok (.iconst 0, 1) := by decide +kernel
theorem dX3_allLayers_3 : decode cX3_allLayers 3 = .ok (.istore_n 2, 1) := by decide +kernel
theorem dX3_allLayers_4 : decode cX3_allLayers 4 = .ok (.iload_n 2, 1) := by decide +kernel
theorem dX3_allLayers_5 : decode cX3_allLayers 5 = .ok (.aload_n 0, 1) := by decide +kernel
theorem dX3_allLayers_6 : decode cX3_allLayers 6 = .ok (.getfield 18, 3) := by decide +kernel
theorem dX3_allLayers_9 : decode cX3_allLayers 9 = .ok (.if_icmp .ge 17, 3) := by decide +kernel
theorem dX3_allLayers_12 : decode cX3_allLayers 12 = .ok (.iload_n 1, 1) := by decide +kernel
theorem dX3_allLayers_13 : decode cX3_allLayers 13 = .ok (.aload_n 0, 1) := by decide +kernel
theorem dX3_allLayers_14 : decode cX3_allLayers 14 = .ok (.iload_n 2, 1) := by decide +kernel
theorem dX3_allLayers_15 : decode cX3_allLayers 15 = .ok (.invokevirtual 106, 3) := by decide +kernel
theorem dX3_allLayers_18 : decode cX3_allLayers 18 = .ok (.iadd, 1) := by decide +kernel
theorem dX3_allLayers_19 : decode cX3_allLayers 19 = .ok (.istore_n 1, 1) := by decide +kernel
theorem dX3_allLayers_20 : decode cX3_allLayers 20 = .ok (.iinc 2 1, 3) := by decide +kernel
theorem dX3_allLayers_23 : decode cX3_allLayers 23 = .ok (.goto (-19), 3) := by decide +kernel
theorem dX3_allLayers_26 : decode cX3_allLayers 26 = .ok (.iload_n 1, 1) := by decide +kernel
theorem dX3_allLayers_27 : decode cX3_allLayers 27 = .ok (.ireturn, 1) := by decide +kernel
theorem dX3_allWords_0 : decode cX3_allWords 0 = .ok (.iconst 0, 1) := by decide +kernel
theorem dX3_allWords_1 : decode cX3_allWords 1 = .ok (.istore_n 1, 1) := by decide +kernel
theorem dX3_allWords_2 : decode cX3_allWords 2 = .ok (.iconst 0, 1) := by decide +kernel
theorem dX3_allWords_3 : decode cX3_allWords 3 = .ok (.istore_n 2, 1) := by decide +kernel
theorem dX3_allWords_4 : decode cX3_allWords 4 = .ok (.iload_n 2, 1) := by decide +kernel
theorem dX3_allWords_5 : decode cX3_allWords 5 = .ok (.aload_n 0, 1) := by decide +kernel
theorem dX3_allWords_6 : decode cX3_allWords 6 = .ok (.getfield 18, 3) := by decide +kernel
theorem dX3_allWords_9 : decode cX3_allWords 9 = .ok (.if_icmp .ge 17, 3) := by decide +kernel
theorem dX3_allWords_12 : decode cX3_allWords 12 = .ok (.iload_n 1, 1) := by decide +kernel
theorem dX3_allWords_13 : decode cX3_allWords 13 = .ok (.aload_n 0, 1) := by decide +kernel
theorem dX3_allWords_14 : decode cX3_allWords 14 = .ok (.iload_n 2, 1) := by decide +kernel
theorem dX3_allWords_15 : decode cX3_allWords 15 = .ok (.invokevirtual 109, 3) := by decide +kernel
theorem dX3_allWords_18 : decode cX3_allWords 18 = .ok (.ior, 1) := by decide +kernel
theorem dX3_allWords_19 : decode cX3_allWords 19 = .ok (.istore_n 1, 1) := by decide +kernel
theorem dX3_allWords_20 : decode cX3_allWords 20 = .ok (.iinc 2 1, 3) := by decide +kernel
theorem dX3_allWords_23 : decode cX3_allWords 23 = .ok (.goto (-19), 3) := by decide +kernel
theorem dX3_allWords_26 : decode cX3_allWords 26 = .ok (.iload_n 1, 1) := by decide +kernel
theorem dX3_allWords_27 : decode cX3_allWords 27 = .ok (.ireturn, 1) := by decide +kernel
theorem dX3_allCake_0 : decode cX3_allCake 0 = .ok (.iconst 0, 1) := by decide +kernel
theorem dX3_allCake_1 : decode cX3_allCake 1 = .ok (.istore_n 1, 1) := by decide +kernel
theorem dX3_allCake_2 : decode cX3_allCake 2 = .ok (.iconst 0, 1) := by decide +kernel
theorem dX3_allCake_3 : decode cX3_allCake 3 = .ok (.istore_n 2, 1) := by decide +kernel
theorem dX3_allCake_4 : decode cX3_allCake 4 = .ok (.iload_n 2, 1) := by decide +kernel
theorem dX3_allCake_5 : decode cX3_allCake 5 = .ok (.aload_n 0, 1) := by decide +kernel
theorem dX3_allCake_6 : decode cX3_allCake 6 = .ok (.getfield 18, 3) := by decide +kernel
theorem dX3_allCake_9 : decode cX3_allCake 9 = .ok (.if_icmp .ge 54, 3) := by decide +kernel
theorem dX3_allCake_12 : decode cX3_allCake 12 = .ok (.iconst 0, 1) := by decide +kernel
theorem dX3_allCake_13 : decode cX3_allCake 13 = .ok (.istore_n 3, 1) := by decide +kernel
theorem dX3_allCake_14 : decode cX3_allCake 14 = .ok (.iload_n 3, 1) := by decide +kernel
theorem dX3_allCake_15 : decode cX3_allCake 15 = .ok (.bipush 8, 2) := by decide +kernel
theorem dX3_allCake_17 : decode cX3_allCake 17 = .ok (.if_icmp .ge 40, 3) := by decide +kernel
theorem dX3_allCake_20 : decode cX3_allCake 20 = .ok (.iconst 0, 1) := by decide +kernel
theorem dX3_allCake_21 : decode cX3_allCake 21 = .ok (.istore 4, 2) := by decide +kernel
theorem dX3_allCake_23 : decode cX3_allCake 23 = .ok (.iload 4, 2) := by decide +kernel
theorem dX3_allCake_25 : decode cX3_allCake 25 = .ok (.aload_n 0, 1) := by decide +kernel
theorem dX3_allCake_26 : decode cX3_allCake 26 = .ok (.iload_n 2, 1) := by decide +kernel
theorem dX3_allCake_27 : decode cX3_allCake 27 = .ok (.iload_n 3, 1) := by decide +kernel
theorem dX3_allCake_28 : decode cX3_allCake 28 = .ok (.invokevirtual 47, 3) := by decide +kernel
theorem dX3_allCake_31 : decode cX3_allCake 31 = .ok (.if_icmp .ge 20, 3) := by decide +kernel
theorem dX3_allCake_34 : decode cX3_allCake 34 = .ok (.iload_n 1, 1) := by decide +kernel
theorem dX3_allCake_35 : decode cX3_allCake 35 = .ok (.aload_n 0, 1) := by decide +kernel
theorem dX3_allCake_36 : decode cX3_allCake 36 = .ok (.iload_n 2, 1) := by decide +kernel
theorem dX3_allCake_37 : decode cX3_allCake 37 = .ok (.iload_n 3, 1) := by decide +kernel
theorem dX3_allCake_38 : decode cX3_allCake 38 = .ok (.iload 4, 2) := by decide +kernel
theorem dX3_allCake_40 : decode cX3_allCake 40 = .ok (.invokevirtual 85, 3) := by decide +kernel
theorem dX3_allCake_43 : decode cX3_allCake 43 = .ok (.iadd, 1) := by decide +kernel
theorem dX3_allCake_44 : decode cX3_allCake 44 = .ok (.istore_n 1, 1) := by decide +kernel
theorem dX3_allCake_45 : decode cX3_allCake 45 = .ok (.iinc 4 1, 3) := by decide +kernel
theorem dX3_allCake_48 : decode cX3_allCake 48 = .ok (.goto (-25), 3) := by decide +kernel
theorem dX3_allCake_51 : decode cX3_allCake 51 = .ok (.iinc 3 1, 3) := by decide +kernel
theorem dX3_allCake_54 : decode cX3_allCake 54 = .ok (.goto (-40), 3) := by decide +kernel
theorem dX3_allCake_57 : decode cX3_allCake 57 = .ok (.iinc 2 1, 3) := by decide +kernel
theorem dX3_allCake_60 : decode cX3_allCake 60 = .ok (.goto (-56), 3) := by decide +kernel
theorem dX3_allCake_63 : decode cX3_allCake 63 = .ok (.iload_n 1, 1) := by decide +kernel
theorem dX3_allCake_64 : decode cX3_allCake 64 = .ok (.ireturn, 1) := by decide +kernel
theorem dX3_layersOfCake_0 : decode cX3_layersOfCake 0 = .ok (.iconst 0, 1) := by decide +kernel
theorem dX3_layersOfCake_1 : decode cX3_layersOfCake 1 = .ok (.istore_n 2, 1) := by decide +kernel
theorem dX3_layersOfCake_2 : decode cX3_layersOfCake 2 = .ok (.iconst 0, 1) := by decide +kernel
theorem dX3_layersOfCake_3 : decode cX3_layersOfCake 3 = .ok (.istore_n 3, 1) := by decide +kernel
theorem dX3_layersOfCake_4 : decode cX3_layersOfCake 4 = .ok (.iload_n 3, 1) := by decide +kernel
theorem dX3_layersOfCake_5 : decode cX3_layersOfCake 5 = .ok (.aload_n 0, 1) := by decide +kernel
theorem dX3_layersOfCake_6 : decode cX3_layersOfCake 6 = .ok (.getfield 18, 3) := by decide +kernel
theorem dX3_layersOfCake_9 : decode cX3_layersOfCake 9 = .ok (.if_icmp .ge 62, 3) := by decide +kernel
theorem dX3_layersOfCake_12 : decode cX3_layersOfCake 12 = .ok (.iconst 0, 1) := by decide +kernel
theorem dX3_layersOfCake_13 : decode cX3_layersOfCake 13 = .ok (.istore 4, 2) := by decide +kernel
theorem dX3_layersOfCake_15 : decode cX3_layersOfCake 15 = .ok (.iload 4, 2) := by decide +kernel
theorem dX3_layersOfCake_17 : decode cX3_layersOfCake 17 = .ok (.bipush 8, 2) := by decide +kernel
theorem dX3_layersOfCake_19 : decode cX3_layersOfCake 19 = .ok (.if_icmp .ge 46, 3) := by decide +kernel
theorem dX3_layersOfCake_22 : decode cX3_layersOfCake 22 = .ok (.iconst 0, 1) := by decide +kernel
theorem dX3_layersOfCake_23 : decode cX3_layersOfCake 23 = .ok (.istore 5, 2) := by decide +kernel
theorem dX3_layersOfCake_25 : decode cX3_layersOfCake 25 = .ok (.iload 5, 2) := by decide +kernel
theorem dX3_layersOfCake_27 : decode cX3_layersOfCake 27 = .ok (.aload_n 0, 1) := by decide +kernel
theorem dX3_layersOfCake_28 : decode cX3_layersOfCake 28 = .ok (.iload_n 3, 1) := by decide +kernel
theorem dX3_layersOfCake_29 : decode cX3_layersOfCake 29 = .ok (.iload 4, 2) := by decide +kernel
theorem dX3_layersOfCake_31 : decode cX3_layersOfCake 31 = .ok (.invokevirtual 47, 3) := by decide +kernel
theorem dX3_layersOfCake_34 : decode cX3_layersOfCake 34 = .ok (.if_icmp .ge 25, 3) := by decide +kernel
theorem dX3_layersOfCake_37 : decode cX3_layersOfCake 37 = .ok (.aload_n 0, 1) := by decide +kernel
theorem dX3_layersOfCake_38 : decode cX3_layersOfCake 38 = .ok (.iload_n 3, 1) := by decide +kernel
theorem dX3_layersOfCake_39 : decode cX3_layersOfCake 39 = .ok (.iload 4, 2) := by decide +kernel
theorem dX3_layersOfCake_41 : decode cX3_layersOfCake 41 = .ok (.iload 5, 2) := by decide +kernel
theorem dX3_layersOfCake_43 : decode cX3_layersOfCake 43 = .ok (.invokevirtual 85, 3) := by decide +kernel
theorem dX3_layersOfCake_46 : decode cX3_layersOfCake 46 = .ok (.iload_n 1, 1) := by decide +kernel
theorem dX3_layersOfCake_47 : decode cX3_layersOfCake 47 = .ok (.if_icmp .ne 6, 3) := by decide +kernel
theorem dX3_layersOfCake_50 : decode cX3_layersOfCake 50 = .ok (.iinc 2 1, 3) := by decide +kernel
theorem dX3_layersOfCake_53 : decode cX3_layersOfCake 53 = .ok (.iinc 5 1, 3) := by decide +kernel
theorem dX3_layersOfCake_56 : decode cX3_layersOfCake 56 = .ok (.goto (-31), 3) := by decide +kernel
theorem dX3_layersOfCake_59 : decode cX3_layersOfCake 59 = .ok (.iinc 4 1, 3) := by decide +kernel
theorem dX3_layersOfCake_62 : decode cX3_layersOfCake 62 = .ok (.goto (-47), 3) := by decide +kernel
theorem dX3_layersOfCake_65 : decode cX3_layersOfCake 65 = .ok (.iinc 3 1, 3) := by decide +kernel
theorem dX3_layersOfCake_68 : decode cX3_layersOfCake 68 = .ok (.goto (-64), 3) := by decide +kernel
theorem dX3_layersOfCake_71 : decode cX3_layersOfCake 71 = .ok (.iload_n 2, 1) := by decide +kernel
theorem dX3_layersOfCake_72 : decode cX3_layersOfCake 72 = .ok (.ireturn, 1) := by decide +kernel
theorem dX3_fullBends_0 : decode cX3_fullBends 0 = .ok (.iconst 0, 1) := by decide +kernel
theorem dX3_fullBends_1 : decode cX3_fullBends 1 = .ok (.istore_n 1, 1) := by decide +kernel
theorem dX3_fullBends_2 : decode cX3_fullBends 2 = .ok (.iconst 0, 1) := by decide +kernel
theorem dX3_fullBends_3 : decode cX3_fullBends 3 = .ok (.istore_n 2, 1) := by decide +kernel
theorem dX3_fullBends_4 : decode cX3_fullBends 4 = .ok (.iload_n 2, 1) := by decide +kernel
theorem dX3_fullBends_5 : decode cX3_fullBends 5 = .ok (.aload_n 0, 1) := by decide +kernel
theorem dX3_fullBends_6 : decode cX3_fullBends 6 = .ok (.getfield 18, 3) := by decide +kernel
theorem dX3_fullBends_9 : decode cX3_fullBends 9 = .ok (.if_icmp .ge 44, 3) := by decide +kernel
theorem dX3_fullBends_12 : decode cX3_fullBends 12 = .ok (.iconst 0, 1) := by decide +kernel
theorem dX3_fullBends_13 : decode cX3_fullBends 13 = .ok (.istore_n 3, 1) := by decide +kernel
theorem dX3_fullBends_14 : decode cX3_fullBends 14 = .ok (.iload_n 3, 1) := by decide +kernel
theorem dX3_fullBends_15 : decode cX3_fullBends 15 = .ok (.bipush 8, 2) := by decide +kernel
theorem dX3_fullBends_17 : decode cX3_fullBends 17 = .ok (.if_icmp .ge 30, 3) := by decide +kernel
theorem dX3_fullBends_20 : decode cX3_fullBends 20 = .ok (.aload_n 0, 1) := by decide +kernel
theorem dX3_fullBends_21 : decode cX3_fullBends 21 = .ok (.iload_n 2, 1) := by decide +kernel
theorem dX3_fullBends_22 : decode cX3_fullBends 22 = .ok (.iload_n 3, 1) := by decide +kernel
theorem dX3_fullBends_23 : decode cX3_fullBends 23 = .ok (.invokevirtual 47, 3) := by decide +kernel
theorem dX3_fullBends_26 : decode cX3_fullBends 26 = .ok (.aload_n 0, 1) := by decide +kernel
theorem dX3_fullBends_27 : decode cX3_fullBends 27 = .ok (.iload_n 2, 1) := by decide +kernel
theorem dX3_fullBends_28 : decode cX3_fullBends 28 = .ok (.invokevirtual 59, 3) := by decide +kernel
theorem dX3_fullBends_31 : decode cX3_fullBends 31 = .ok (.iload_n 3, 1) := by decide +kernel
theorem dX3_fullBends_32 : decode cX3_fullBends 32 = .ok (.invokestatic 63, 3) := by decide +kernel
theorem dX3_fullBends_35 : decode cX3_fullBends 35 = .ok (.if_icmp .lt 6, 3) := by decide +kernel
theorem dX3_fullBends_38 : decode cX3_fullBends 38 = .ok (.iinc 1 1, 3) := by decide +kernel
theorem dX3_fullBends_41 : decode cX3_fullBends 41 = .ok (.iinc 3 1, 3) := by decide +kernel
theorem dX3_fullBends_44 : decode cX3_fullBends 44 = .ok (.goto (-30), 3) := by decide +kernel
theorem dX3_fullBends_47 : decode cX3_fullBends 47 = .ok (.iinc 2 1, 3) := by decide +kernel
theorem dX3_fullBends_50 : decode cX3_fullBends 50 = .ok (.goto (-46), 3) := by decide +kernel
theorem dX3_fullBends_53 : decode cX3_fullBends 53 = .ok (.iload_n 1, 1) := by decide +kernel
theorem dX3_fullBends_54 : decode cX3_fullBends 54 = .ok (.ireturn, 1) := by decide +kernel
theorem dX4_init_0 : decode cX4_init 0 = .ok (.aload_n 0, 1) := by decide +kernel
theorem dX4_init_1 : decode cX4_init 1 = .ok (.invokespecial 1, 3) := by decide +kernel
theorem dX4_init_4 : decode cX4_init 4 = .ok (.aload_n 0, 1) := by decide +kernel
theorem dX4_init_5 : decode cX4_init 5 = .ok (.iconst 0, 1) := by decide +kernel
theorem dX4_init_6 : decode cX4_init 6 = .ok (.putfield 7, 3) := by decide +kernel
theorem dX4_init_9 : decode cX4_init 9 = .ok (.aload_n 0, 1) := by decide +kernel
theorem dX4_init_10 : decode cX4_init 10 = .ok (.iconst 0, 1) := by decide +kernel
theorem dX4_init_11 : decode cX4_init 11 = .ok (.putfield 13, 3) := by decide +kernel
theorem dX4_init_14 : decode cX4_init 14 = .ok (.aload_n 0, 1) := by decide +kernel
theorem dX4_init_15 : decode cX4_init 15 = .ok (.iconst 0, 1) := by decide +kernel
theorem dX4_init_16 : decode cX4_init 16 = .ok (.putfield 16, 3) := by decide +kernel
theorem dX4_init_19 : decode cX4_init 19 = .ok (.aload_n 0, 1) := by decide +kernel
theorem dX4_init_20 : decode cX4_init 20 = .ok (.iconst 0, 1) := by decide +kernel
theorem dX4_init_21 : decode cX4_init 21 = .ok (.putfield 19, 3) := by decide +kernel
theorem dX4_init_24 : decode cX4_init 24 = .ok (.aload_n 0, 1) := by decide +kernel
theorem dX4_init_25 : decode cX4_init 25 = .ok (.iconst 0, 1) := by decide +kernel
theorem dX4_init_26 : decode cX4_init 26 = .ok (.putfield 22, 3) := by decide +kernel
theorem dX4_init_29 : decode cX4_init 29 = .ok (.aload_n 0, 1) := by decide +kernel
theorem dX4_init_30 : decode cX4_init 30 = .ok (.bipush 120, 2) := by decide +kernel
theorem dX4_init_32 : decode cX4_init 32 = .ok (.newarray .int, 2) := by decide +kernel
theorem dX4_init_34 : decode cX4_init 34 = .ok (.putfield 25, 3) := by decide +kernel
theorem dX4_init_37 : decode cX4_init 37 = .ok (.return_, 1) := by decide +kernel
theorem dX4_hasRoom_0 : decode cX4_hasRoom 0 = .ok (.iload_n 1, 1) := by decide +kernel
theorem dX4_hasRoom_1 : decode cX4_hasRoom 1 = .ok (.bipush 120, 2) := by decide +kernel
theorem dX4_hasRoom_3 : decode cX4_hasRoom 3 = .ok (.aload_n 0, 1) := by decide +kernel
theorem dX4_hasRoom_4 : decode cX4_hasRoom 4 = .ok (.getfield 7, 3) := by decide +kernel
theorem dX4_hasRoom_7 : decode cX4_hasRoom 7 = .ok (.isub, 1) := by decide +kernel
theorem dX4_hasRoom_8 : decode cX4_hasRoom 8 = .ok (.if_icmp .gt 7, 3) := by decide +kernel
theorem dX4_hasRoom_11 : decode cX4_hasRoom 11 = .ok (.iconst 1, 1) := by decide +kernel
theorem dX4_hasRoom_12 : decode cX4_hasRoom 12 = .ok (.goto 4, 3) := by decide +kernel
theorem dX4_hasRoom_15 : decode cX4_hasRoom 15 = .ok (.iconst 0, 1) := by decide +kernel
theorem dX4_hasRoom_16 : decode cX4_hasRoom 16 = .ok (.ireturn, 1) := by decide +kernel
theorem dX4_add_0 : decode cX4_add 0 = .ok (.aload_n 0, 1) := by decide +kernel
theorem dX4_add_1 : decode cX4_add 1 = .ok (.getfield 7, 3) := by decide +kernel
theorem dX4_add_4 : decode cX4_add 4 = .ok (.ifCond .lt 12, 3) := by decide +kernel
theorem dX4_add_7 : decode cX4_add 7 = .ok (.aload_n 0, 1) := by decide +kernel
theorem dX4_add_8 : decode cX4_add 8 = .ok (.getfield 7, 3) := by decide +kernel
theorem dX4_add_11 : decode cX4_add 11 = .ok (.bipush 120, 2) := by decide +kernel
theorem dX4_add_13 : decode cX4_add 13 = .ok (.if_icmp .lt 4, 3) := by decide +kernel
theorem dX4_add_16 : decode cX4_add 16 = .ok (.return_, 1) := by decide +kernel
theorem dX4_add_17 : decode cX4_add 17 = .ok (.aload_n 0, 1) := by decide +kernel
theorem dX4_add_18 : decode cX4_add 18 = .ok (.getfield 25, 3) := by decide +kernel
theorem dX4_add_21 : decode cX4_add 21 = .ok (.aload_n 0, 1) := by decide +kernel
theorem dX4_add_22 : decode cX4_add 22 = .ok (.getfield 7, 3) := by decide +kernel
theorem dX4_add_25 : decode cX4_add 25 = .ok (.iload_n 1, 1) := by decide +kernel
theorem dX4_add_26 : decode cX4_add 26 = .ok (.iastore, 1) := by decide +kernel
theorem dX4_add_27 : decode cX4_add 27 = .ok (.aload_n 0, 1) := by decide +kernel
theorem dX4_add_28 : decode cX4_add 28 = .ok (.dup, 1) := by decide +kernel
theorem dX4_add_29 : decode cX4_add 29 = .ok (.getfield 7, 3) := by decide +kernel
theorem dX4_add_32 : decode cX4_add 32 = .ok (.iconst 1, 1) := by decide +kernel
theorem dX4_add_33 : decode cX4_add 33 = .ok (.iadd, 1) := by decide +kernel
theorem dX4_add_34 : decode cX4_add 34 = .ok (.putfield 7, 3) := by decide +kernel
theorem dX4_add_37 : decode cX4_add 37 = .ok (.return_, 1) := by decide +kernel
theorem dX4_at_0 : decode cX4_at 0 = .ok (.iload_n 1, 1) := by decide +kernel
theorem dX4_at_1 : decode cX4_at 1 = .ok (.ifCond .lt 26, 3) := by decide +kernel
theorem dX4_at_4 : decode cX4_at 4 = .ok (.iload_n 1, 1) := by decide +kernel
theorem dX4_at_5 : decode cX4_at 5 = .ok (.aload_n 0, 1) := by decide +kernel
theorem dX4_at_6 : decode cX4_at 6 = .ok (.getfield 7, 3) := by decide +kernel
theorem dX4_at_9 : decode cX4_at 9 = .ok (.if_icmp .ge 18, 3) := by decide +kernel
theorem dX4_at_12 : decode cX4_at 12 = .ok (.iload_n 1, 1) := by decide +kernel
theorem dX4_at_13 : decode cX4_at 13 = .ok (.bipush 120, 2) := by decide +kernel
theorem dX4_at_15 : decode cX4_at 15 = .ok (.if_icmp .ge 12, 3) := by decide +kernel
theorem dX4_at_18 : decode cX4_at 18 = .ok (.aload_n 0, 1) := by decide +kernel
theorem dX4_at_19 : decode cX4_at 19 = .ok (.getfield 25, 3) := by decide +kernel
theorem dX4_at_22 : decode cX4_at 22 = .ok (.iload_n 1, 1) := by decide +kernel
theorem dX4_at_23 : decode cX4_at 23 = .ok (.iaload, 1) := by decide +kernel
theorem dX4_at_24 : decode cX4_at 24 = .ok (.goto 4, 3) := by decide +kernel
theorem dX4_at_27 : decode cX4_at 27 = .ok (.iconst 0, 1) := by decide +kernel
theorem dX4_at_28 : decode cX4_at 28 = .ok (.ireturn, 1) := by decide +kernel
theorem dX4_begin_0 : decode cX4_begin 0 = .ok (.aload_n 0, 1) := by decide +kernel
theorem dX4_begin_1 : decode cX4_begin 1 = .ok (.iconst 0, 1) := by decide +kernel
theorem dX4_begin_2 : decode cX4_begin 2 = .ok (.putfield 19, 3) := by decide +kernel
theorem dX4_begin_5 : decode cX4_begin 5 = .ok (.aload_n 0, 1) := by decide +kernel
theorem dX4_begin_6 : decode cX4_begin 6 = .ok (.invokevirtual 29, 3) := by decide +kernel
theorem dX4_begin_9 : decode cX4_begin 9 = .ok (.return_, 1) := by decide +kernel
theorem dX4_step_0 : decode cX4_step 0 = .ok (.aload_n 0, 1) := by decide +kernel
theorem dX4_step_1 : decode cX4_step 1 = .ok (.aload_n 0, 1) := by decide +kernel
theorem dX4_step_2 : decode cX4_step 2 = .ok (.getfield 19, 3) := by decide +kernel
theorem dX4_step_5 : decode cX4_step 5 = .ok (.putfield 16, 3) := by decide +kernel
theorem dX4_step_8 : decode cX4_step 8 = .ok (.aload_n 0, 1) := by decide +kernel
theorem dX4_step_9 : decode cX4_step 9 = .ok (.getfield 16, 3) := by decide +kernel
theorem dX4_step_12 : decode cX4_step 12 = .ok (.aload_n 0, 1) := by decide +kernel
theorem dX4_step_13 : decode cX4_step 13 = .ok (.getfield 7, 3) := by decide +kernel
theorem dX4_step_16 : decode cX4_step 16 = .ok (.if_icmp .ge 29, 3) := by decide +kernel
theorem dX4_step_19 : decode cX4_step 19 = .ok (.aload_n 0, 1) := by decide +kernel
theorem dX4_step_20 : decode cX4_step 20 = .ok (.aload_n 0, 1) := by decide +kernel
theorem dX4_step_21 : decode cX4_step 21 = .ok (.getfield 16, 3) := by decide +kernel
theorem dX4_step_24 : decode cX4_step 24 = .ok (.invokevirtual 32, 3) := by decide +kernel
theorem dX4_step_27 : decode cX4_step 27 = .ok (.bipush 32, 2) := by decide +kernel
theorem dX4_step_29 : decode cX4_step 29 = .ok (.if_icmp .ne 16, 3) := by decide +kernel
theorem dX4_step_32 : decode cX4_step 32 = .ok (.aload_n 0, 1) := by decide +kernel
theorem dX4_step_33 : decode cX4_step 33 = .ok (.dup, 1) := by decide +kernel
theorem dX4_step_34 : decode cX4_step 34 = .ok (.getfield 16, 3) := by decide +kernel
theorem dX4_step_37 : decode cX4_step 37 = .ok (.iconst 1, 1) := by decide +kernel
theorem dX4_step_38 : decode cX4_step 38 = .ok (.iadd, 1) := by decide +kernel
theorem dX4_step_39 : decode cX4_step 39 = .ok (.putfield 16, 3) := by decide +kernel
theorem dX4_step_42 : decode cX4_step 42 = .ok (.goto (-34), 3) := by decide +kernel
theorem dX4_step_45 : decode cX4_step 45 = .ok (.aload_n 0, 1) := by decide +kernel
theorem dX4_step_46 : decode cX4_step 46 = .ok (.aload_n 0, 1) := by decide +kernel
theorem dX4_step_47 : decode cX4_step 47 = .ok (.getfield 16, 3) := by decide +kernel
theorem dX4_step_50 : decode cX4_step 50 = .ok (.putfield 19, 3) := by decide +kernel
theorem dX4_step_53 : decode cX4_step 53 = .ok (.aload_n 0, 1) := by decide +kernel
theorem dX4_step_54 : decode cX4_step 54 = .ok (.iconst 0, 1) := by decide +kernel
theorem dX4_step_55 : decode cX4_step 55 = .ok (.putfield 22, 3) := by decide +kernel
theorem dX4_step_58 : decode cX4_step 58 = .ok (.aload_n 0, 1) := by decide +kernel
theorem dX4_step_59 : decode cX4_step 59 = .ok (.getfield 16, 3) := by decide +kernel
theorem dX4_step_62 : decode cX4_step 62 = .ok (.aload_n 0, 1) := by decide +kernel
theorem dX4_step_63 : decode cX4_step 63 = .ok (.getfield 7, 3) := by decide +kernel
theorem dX4_step_66 : decode cX4_step 66 = .ok (.if_icmp .lt 11, 3) := by decide +kernel
theorem dX4_step_69 : decode cX4_step 69 = .ok (.aload_n 0, 1) := by decide +kernel
theorem dX4_step_70 : decode cX4_step 70 = .ok (.iconst 0, 1) := by decide +kernel
theorem dX4_step_71 : decode cX4_step 71 = .ok (.putfield 13, 3) := by decide +kernel
theorem dX4_step_74 : decode cX4_step 74 = .ok (.goto 178, 3) := by decide +kernel
theorem dX4_step_77 : decode cX4_step 77 = .ok (.aload_n 0, 1) := by decide +kernel
theorem dX4_step_78 : decode cX4_step 78 = .ok (.aload_n 0, 1) := by decide +kernel
theorem dX4_step_79 : decode cX4_step 79 = .ok (.getfield 16, 3) := by decide +kernel
theorem dX4_step_82 : decode cX4_step 82 = .ok (.invokevirtual 32, 3) := by decide +kernel
theorem dX4_step_85 : decode cX4_step 85 = .ok (.invokestatic 36, 3) := by decide +kernel
theorem dX4_step_88 : decode cX4_step 88 = .ok (.ifCond .eq 46, 3) := by decide +kernel
theorem dX4_step_91 : decode cX4_step 91 = .ok (.aload_n 0, 1) := by decide +kernel
theorem dX4_step_92 : decode cX4_step 92 = .ok (.iconst 1, 1) := by decide +kernel
theorem dX4_step_93 : decode cX4_step 93 = .ok (.putfield 13, 3) := by decide +kernel
theorem dX4_step_96 : decode cX4_step 96 = .ok (.aload_n 0, 1) := by decide +kernel
theorem dX4_step_97 : decode cX4_step 97 = .ok (.getfield 19, 3) := by decide +kernel
theorem dX4_step_100 : decode cX4_step 100 = .ok (.aload_n 0, 1) := by decide +kernel
theorem dX4_step_101 : decode cX4_step 101 = .ok (.getfield 7, 3) := by decide +kernel
theorem dX4_step_104 : decode cX4_step 104 = .ok (.if_icmp .ge 148, 3) := by decide +kernel
theorem dX4_step_107 : decode cX4_step 107 = .ok (.aload_n 0, 1) := by decide +kernel
theorem dX4_step_108 : decode cX4_step 108 = .ok (.aload_n 0, 1) := by decide +kernel
theorem dX4_step_109 : decode cX4_step 109 = .ok (.getfield 19, 3) := by decide +kernel
theorem dX4_step_112 : decode cX4_step 112 = .ok (.invokevirtual 32, 3) := by decide +kernel
theorem dX4_step_115 : decode cX4_step 115 = .ok (.invokestatic 36, 3) := by decide +kernel
theorem dX4_step_118 : decode cX4_step 118 = .ok (.ifCond .eq 134, 3) := by decide +kernel
theorem dX4_step_121 : decode cX4_step 121 = .ok (.aload_n 0, 1) := by decide +kernel
theorem dX4_step_122 : decode cX4_step 122 = .ok (.dup, 1) := by decide +kernel
theorem dX4_step_123 : decode cX4_step 123 = .ok (.getfield 19, 3) := by decide +kernel
theorem dX4_step_126 : decode cX4_step 126 = .ok (.iconst 1, 1) := by decide +kernel
theorem dX4_step_127 : decode cX4_step 127 = .ok (.iadd, 1) := by decide +kernel
theorem dX4_step_128 : decode cX4_step 128 = .ok (.putfield 19, 3) := by decide +kernel
theorem dX4_step_131 : decode cX4_step 131 = .ok (.goto (-35), 3) := by decide +kernel
theorem dX4_step_134 : decode cX4_step 134 = .ok (.aload_n 0, 1) := by decide +kernel
theorem dX4_step_135 : decode cX4_step 135 = .ok (.aload_n 0, 1) := by decide +kernel
theorem dX4_step_136 : decode cX4_step 136 = .ok (.getfield 16, 3) := by decide +kernel
theorem dX4_step_139 : decode cX4_step 139 = .ok (.invokevirtual 32, 3) := by decide +kernel
theorem dX4_step_142 : decode cX4_step 142 = .ok (.invokestatic 40, 3) := by decide +kernel
theorem dX4_step_145 : decode cX4_step 145 = .ok (.ifCond .eq 75, 3) := by decide +kernel
theorem dX4_step_148 : decode cX4_step 148 = .ok (.aload_n 0, 1) := by decide +kernel
theorem dX4_step_149 : decode cX4_step 149 = .ok (.iconst 2, 1) := by decide +kernel
theorem dX4_step_150 : decode cX4_step 150 = .ok (.putfield 13, 3) := by decide +kernel
theorem dX4_step_153 : decode cX4_step 153 = .ok (.aload_n 0, 1) := by decide +kernel
theorem dX4_step_154 : decode cX4_step 154 = .ok (.getfield 19, 3) := by decide +kernel
theorem dX4_step_157 : decode cX4_step 157 = .ok (.aload_n 0, 1) := by decide +kernel
theorem dX4_step_158 : decode cX4_step 158 = .ok (.getfield 7, 3) := by decide +kernel
theorem dX4_step_161 : decode cX4_step 161 = .ok (.if_icmp .ge 91, 3) := by decide +kernel
theorem dX4_step_164 : decode cX4_step 164 = .ok (.aload_n 0, 1) := by decide +kernel
theorem dX4_step_165 : decode cX4_step 165 = .ok (.aload_n 0, 1) := by decide +kernel
theorem dX4_step_166 : decode cX4_step 166 = .ok (.getfield 19, 3) := by decide +kernel
theorem dX4_step_169 : decode cX4_step 169 = .ok (.invokevirtual 32, 3) := by decide +kernel
theorem dX4_step_172 : decode cX4_step 172 = .ok (.invokestatic 40, 3) := by decide +kernel
theorem dX4_step_175 : decode cX4_step 175 = .ok (.ifCond .eq 77, 3) := by decide +kernel
theorem dX4_step_178 : decode cX4_step 178 = .ok (.aload_n 0, 1) := by decide +kernel
theorem dX4_step_179 : decode cX4_step 179 = .ok (.sipush 1000, 3) := by decide +kernel
theorem dX4_step_182 : decode cX4_step 182 = .ok (.bipush 10, 2) := by decide +kernel
theorem dX4_step_184 : decode cX4_step 184 = .ok (.aload_n 0, 1) := by decide +kernel
theorem dX4_step_185 : decode cX4_step 185 = .ok (.getfield 22, 3) := by decide +kernel
theorem dX4_step_188 : decode cX4_step 188 = .ok (.imul, 1) := by decide +kernel
theorem dX4_step_189 : decode cX4_step 189 = .ok (.aload_n 0, 1) := by decide +kernel
theorem dX4_step_190 : decode cX4_step 190 = .ok (.aload_n 0, 1) := by decide +kernel
theorem dX4_step_191 : decode cX4_step 191 = .ok (.getfield 19, 3) := by decide +kernel
theorem dX4_step_194 : decode cX4_step 194 = .ok (.invokevirtual 32, 3) := by decide +kernel
theorem dX4_step_197 : decode cX4_step 197 = .ok (.iadd, 1) := by decide +kernel
theorem dX4_step_198 : decode cX4_step 198 = .ok (.bipush 48, 2) := by decide +kernel
theorem dX4_step_200 : decode cX4_step 200 = .ok (.isub, 1) := by decide +kernel
theorem dX4_step_201 : decode cX4_step 201 = .ok (.invokestatic 43, 3) := by decide +kernel
theorem dX4_step_204 : decode cX4_step 204 = .ok (.putfield 22, 3) := by decide +kernel
theorem dX4_step_207 : decode cX4_step 207 = .ok (.aload_n 0, 1) := by decide +kernel
theorem dX4_step_208 : decode cX4_step 208 = .ok (.dup, 1) := by decide +kernel
theorem dX4_step_209 : decode cX4_step 209 = .ok (.getfield 19, 3) := by decide +kernel
theorem dX4_step_212 : decode cX4_step 212 = .ok (.iconst 1, 1) := by decide +kernel
theorem dX4_step_213 : decode cX4_step 213 = .ok (.iadd, 1) := by decide +kernel
theorem dX4_step_214 : decode cX4_step 214 = .ok (.putfield 19, 3) := by decide +kernel
theorem dX4_step_217 : decode cX4_step 217 = .ok (.goto (-64), 3) := by decide +kernel
theorem dX4_step_220 : decode cX4_step 220 = .ok (.aload_n 0, 1) := by decide +kernel
theorem dX4_step_221 : decode cX4_step 221 = .ok (.aload_n 0, 1) := by decide +kernel
theorem dX4_step_222 : decode cX4_step 222 = .ok (.aload_n 0, 1) := by decide +kernel
theorem dX4_step_223 : decode cX4_step 223 = .ok (.getfield 16, 3) := by decide +kernel
theorem dX4_step_226 : decode cX4_step 226 = .ok (.invokevirtual 32, 3) := by decide +kernel
theorem dX4_step_229 : decode cX4_step 229 = .ok (.bipush 59, 2) := by decide +kernel
theorem dX4_step_231 : decode cX4_step 231 = .ok (.if_icmp .ne 7, 3) := by decide +kernel
theorem dX4_step_234 : decode cX4_step 234 = .ok (.iconst 3, 1) := by decide +kernel
theorem dX4_step_235 : decode cX4_step 235 = .ok (.goto 4, 3) := by decide +kernel
theorem dX4_step_238 : decode cX4_step 238 = .ok (.iconst 4, 1) := by decide +kernel
theorem dX4_step_239 : decode cX4_step 239 = .ok (.putfield 13, 3) := by decide +kernel
theorem dX4_step_242 : decode cX4_step 242 = .ok (.aload_n 0, 1) := by decide +kernel
theorem dX4_step_243 : decode cX4_step 243 = .ok (.dup, 1) := by decide +kernel
theorem dX4_step_244 : decode cX4_step 244 = .ok (.getfield 19, 3) := by decide +kernel
theorem dX4_step_247 : decode cX4_step 247 = .ok (.iconst 1, 1) := by decide +kernel
theorem dX4_step_248 : decode cX4_step 248 = .ok (.iadd, 1) := by decide +kernel
theorem dX4_step_249 : decode cX4_step 249 = .ok (.putfield 19, 3) := by decide +kernel
theorem dX4_step_252 : decode cX4_step 252 = .ok (.return_, 1) := by decide +kernel
theorem dX4_pass_0 : decode cX4_pass 0 = .ok (.aload_n 0, 1) := by decide +kernel
theorem dX4_pass_1 : decode cX4_pass 1 = .ok (.getfield 13, 3) := by decide +kernel
theorem dX4_pass_4 : decode cX4_pass 4 = .ok (.iconst 1, 1) := by decide +kernel
theorem dX4_pass_5 : decode cX4_pass 5 = .ok (.if_icmp .ne 19, 3) := by decide +kernel
theorem dX4_pass_8 : decode cX4_pass 8 = .ok (.aload_n 0, 1) := by decide +kernel
theorem dX4_pass_9 : decode cX4_pass 9 = .ok (.getfield 19, 3) := by decide +kernel
theorem dX4_pass_12 : decode cX4_pass 12 = .ok (.aload_n 0, 1) := by decide +kernel
theorem dX4_pass_13 : decode cX4_pass 13 = .ok (.getfield 16, 3) := by decide +kernel
theorem dX4_pass_16 : decode cX4_pass 16 = .ok (.isub, 1) := by decide +kernel
theorem dX4_pass_17 : decode cX4_pass 17 = .ok (.aload_n 1, 1) := by decide +kernel
theorem dX4_pass_18 : decode cX4_pass 18 = .ok (.invokevirtual 49, 3) := by decide +kernel
theorem dX4_pass_21 : decode cX4_pass 21 = .ok (.if_icmp .eq 5, 3) := by decide +kernel
theorem dX4_pass_24 : decode cX4_pass 24 = .ok (.iconst 0, 1) := by decide +kernel
theorem dX4_pass_25 : decode cX4_pass 25 = .ok (.ireturn, 1) := by decide +kernel
theorem dX4_pass_26 : decode cX4_pass 26 = .ok (.iconst 0, 1) := by decide +kernel
theorem dX4_pass_27 : decode cX4_pass 27 = .ok (.istore_n 2, 1) := by decide +kernel
theorem dX4_pass_28 : decode cX4_pass 28 = .ok (.iload_n 2, 1) := by decide +kernel
theorem dX4_pass_29 : decode cX4_pass 29 = .ok (.aload_n 1, 1) := by decide +kernel
theorem dX4_pass_30 : decode cX4_pass 30 = .ok (.invokevirtual 49, 3) := by decide +kernel
theorem dX4_pass_33 : decode cX4_pass 33 = .ok (.if_icmp .ge 29, 3) := by decide +kernel
theorem dX4_pass_36 : decode cX4_pass 36 = .ok (.aload_n 0, 1) := by decide +kernel
theorem dX4_pass_37 : decode cX4_pass 37 = .ok (.aload_n 0, 1) := by decide +kernel
theorem dX4_pass_38 : decode cX4_pass 38 = .ok (.getfield 16, 3) := by decide +kernel
theorem dX4_pass_41 : decode cX4_pass 41 = .ok (.iload_n 2, 1) := by decide +kernel
theorem dX4_pass_42 : decode cX4_pass 42 = .ok (.iadd, 1) := by decide +kernel
theorem dX4_pass_43 : decode cX4_pass 43 = .ok (.invokevirtual 32, 3) := by decide +kernel
theorem dX4_pass_46 : decode cX4_pass 46 = .ok (.aload_n 1, 1) := by decide +kernel
theorem dX4_pass_47 : decode cX4_pass 47 = .ok (.iload_n 2, 1) := by decide +kernel
theorem dX4_pass_48 : decode cX4_pass 48 = .ok (.invokevirtual 54, 3) := by decide +kernel
theorem dX4_pass_51 : decode cX4_pass 51 = .ok (.if_icmp .eq 5, 3) := by decide +kernel
theorem dX4_pass_54 : decode cX4_pass 54 = .ok (.iconst 0, 1) := by decide +kernel
theorem dX4_pass_55 : decode cX4_pass 55 = .ok (.ireturn, 1) := by decide +kernel
theorem dX4_pass_56 : decode cX4_pass 56 = .ok (.iinc 2 1, 3) := by decide +kernel
theorem dX4_pass_59 : decode cX4_pass 59 = .ok (.goto (-31), 3) := by decide +kernel
theorem dX4_pass_62 : decode cX4_pass 62 = .ok (.aload_n 0, 1) := by decide +kernel
theorem dX4_pass_63 : decode cX4_pass 63 = .ok (.invokevirtual 29, 3) := by decide +kernel
theorem dX4_pass_66 : decode cX4_pass 66 = .ok (.iconst 1, 1) := by decide +kernel
theorem dX4_pass_67 : decode cX4_pass 67 = .ok (.ireturn, 1) := by decide +kernel
theorem dX4_passNumber_0 : decode cX4_passNumber 0 = .ok (.aload_n 0, 1) := by decide +kernel
theorem dX4_passNumber_1 : decode cX4_passNumber 1 = .ok (.getfield 13, 3) := by decide +kernel
theorem dX4_passNumber_4 : decode cX4_passNumber 4 = .ok (.iconst 2, 1) := by decide +kernel
theorem dX4_passNumber_5 : decode cX4_passNumber 5 = .ok (.if_icmp .ne 11, 3) := by decide +kernel
theorem dX4_passNumber_8 : decode cX4_passNumber 8 = .ok (.aload_n 0, 1) := by decide +kernel
theorem dX4_passNumber_9 : decode cX4_passNumber 9 = .ok (.getfield 22, 3) := by decide +kernel
theorem dX4_passNumber_12 : decode cX4_passNumber 12 = .ok (.iload_n 1, 1) := by decide +kernel
theorem dX4_passNumber_13 : decode cX4_passNumber 13 = .ok (.if_icmp .lt 5, 3) := by decide +kernel
theorem dX4_passNumber_16 : decode cX4_passNumber 16 = .ok (.iconst (-1), 1) := by decide +kernel
theorem dX4_passNumber_17 : decode cX4_passNumber 17 = .ok (.ireturn, 1) := by decide +kernel
theorem dX4_passNumber_18 : decode cX4_passNumber 18 = .ok (.aload_n 0, 1) := by decide +kernel
theorem dX4_passNumber_19 : decode cX4_passNumber 19 = .ok (.getfield 22, 3) := by decide +kernel
theorem dX4_passNumber_22 : decode cX4_passNumber 22 = .ok (.istore_n 2, 1) := by decide +kernel
theorem dX4_passNumber_23 : decode cX4_passNumber 23 = .ok (.aload_n 0, 1) := by decide +kernel
theorem dX4_passNumber_24 : decode cX4_passNumber 24 = .ok (.invokevirtual 29, 3) := by decide +kernel
theorem dX4_passNumber_27 : decode cX4_passNumber 27 = .ok (.iload_n 2, 1) := by decide +kernel
theorem dX4_passNumber_28 : decode cX4_passNumber 28 = .ok (.ireturn, 1) := by decide +kernel
theorem dX4_isLetter_0 : decode cX4_isLetter 0 = .ok (.iload_n 0, 1) := by decide +kernel
theorem dX4_isLetter_1 : decode cX4_isLetter 1 = .ok (.bipush 97, 2) := by decide +kernel
theorem dX4_isLetter_3 : decode cX4_isLetter 3 = .ok (.if_icmp .lt 13, 3) := by decide +kernel
theorem dX4_isLetter_6 : decode cX4_isLetter 6 = .ok (.iload_n 0, 1) := by decide +kernel
theorem dX4_isLetter_7 : decode cX4_isLetter 7 = .ok (.bipush 122, 2) := by decide +kernel
theorem dX4_isLetter_9 : decode cX4_isLetter 9 = .ok (.if_icmp .gt 7, 3) := by decide +kernel
theorem dX4_isLetter_12 : decode cX4_isLetter 12 = .ok (.iconst 1, 1) := by decide +kernel
theorem dX4_isLetter_13 : decode cX4_isLetter 13 = .ok (.goto 4, 3) := by decide +kernel
theorem dX4_isLetter_16 : decode cX4_isLetter 16 = .ok (.iconst 0, 1) := by decide +kernel
theorem dX4_isLetter_17 : decode cX4_isLetter 17 = .ok (.ireturn, 1) := by decide +kernel
theorem dX4_isDigit_0 : decode cX4_isDigit 0 = .ok (.iload_n 0, 1) := by decide +kernel
theorem dX4_isDigit_1 : decode cX4_isDigit 1 = .ok (.bipush 48, 2) := by decide +kernel
theorem dX4_isDigit_3 : decode cX4_isDigit 3 = .ok (.if_icmp .lt 13, 3) := by decide +kernel
theorem dX4_isDigit_6 : decode cX4_isDigit 6 = .ok (.iload_n 0, 1) := by decide +kernel
theorem dX4_isDigit_7 : decode cX4_isDigit 7 = .ok (.bipush 57, 2) := by decide +kernel
theorem dX4_isDigit_9 : decode cX4_isDigit 9 = .ok (.if_icmp .gt 7, 3) := by decide +kernel
theorem dX4_isDigit_12 : decode cX4_isDigit 12 = .ok (.iconst 1, 1) := by decide +kernel
theorem dX4_isDigit_13 : decode cX4_isDigit 13 = .ok (.goto 4, 3) := by decide +kernel
theorem dX4_isDigit_16 : decode cX4_isDigit 16 = .ok (.iconst 0, 1) := by decide +kernel
theorem dX4_isDigit_17 : decode cX4_isDigit 17 = .ok (.ireturn, 1) := by decide +kernel
theorem dX5_init_0 : decode cX5_init 0 = .ok (.aload_n 0, 1) := by decide +kernel
theorem dX5_init_1 : decode cX5_init 1 = .ok (.invokespecial 3, 3) := by decide +kernel
theorem dX5_init_4 : decode cX5_init 4 = .ok (.aload_n 0, 1) := by decide +kernel
theorem dX5_init_5 : decode cX5_init 5 = .ok (.iconst 0, 1) := by decide +kernel
theorem dX5_init_6 : decode cX5_init 6 = .ok (.putfield 9, 3) := by decide +kernel
theorem dX5_init_9 : decode cX5_init 9 = .ok (.aload_n 0, 1) := by decide +kernel
theorem dX5_init_10 : decode cX5_init 10 = .ok (.iconst 0, 1) := by decide +kernel
theorem dX5_init_11 : decode cX5_init 11 = .ok (.putfield 15, 3) := by decide +kernel
theorem dX5_init_14 : decode cX5_init 14 = .ok (.aload_n 0, 1) := by decide +kernel
theorem dX5_init_15 : decode cX5_init 15 = .ok (.iconst 0, 1) := by decide +kernel
theorem dX5_init_16 : decode cX5_init 16 = .ok (.putfield 18, 3) := by decide +kernel
theorem dX5_init_19 : decode cX5_init 19 = .ok (.aload_n 0, 1) := by decide +kernel
theorem dX5_init_20 : decode cX5_init 20 = .ok (.iconst 0, 1) := by decide +kernel
theorem dX5_init_21 : decode cX5_init 21 = .ok (.putfield 21, 3) := by decide +kernel
theorem dX5_init_24 : decode cX5_init 24 = .ok (.aload_n 0, 1) := by decide +kernel
theorem dX5_init_25 : decode cX5_init 25 = .ok (.iconst 0, 1) := by decide +kernel
theorem dX5_init_26 : decode cX5_init 26 = .ok (.putfield 24, 3) := by decide +kernel
theorem dX5_init_29 : decode cX5_init 29 = .ok (.aload_n 0, 1) := by decide +kernel
theorem dX5_init_30 : decode cX5_init 30 = .ok (.iconst 0, 1) := by decide +kernel
theorem dX5_init_31 : decode cX5_init 31 = .ok (.putfield 27, 3) := by decide +kernel
theorem dX5_init_34 : decode cX5_init 34 = .ok (.aload_n 0, 1) := by decide +kernel
theorem dX5_init_35 : decode cX5_init 35 = .ok (.iconst 0, 1) := by decide +kernel
theorem dX5_init_36 : decode cX5_init 36 = .ok (.putfield 30, 3) := by decide +kernel
theorem dX5_init_39 : decode cX5_init 39 = .ok (.aload_n 0, 1) := by decide +kernel
theorem dX5_init_40 : decode cX5_init 40 = .ok (.iconst 0, 1) := by decide +kernel
theorem dX5_init_41 : decode cX5_init 41 = .ok (.putfield 33, 3) := by decide +kernel
theorem dX5_init_44 : decode cX5_init 44 = .ok (.aload_n 0, 1) := by decide +kernel
theorem dX5_init_45 : decode cX5_init 45 = .ok (.iconst 0, 1) := by decide +kernel
theorem dX5_init_46 : decode cX5_init 46 = .ok (.putfield 36, 3) := by decide +kernel
theorem dX5_init_49 : decode cX5_init 49 = .ok (.return_, 1) := by decide +kernel
theorem dX5_goThrough_0 : decode cX5_goThrough 0 = .ok (.aload_n 0, 1) := by decide +kernel
theorem dX5_goThrough_1 : decode cX5_goThrough 1 = .ok (.aload_n 2, 1) := by decide +kernel
theorem dX5_goThrough_2 : decode cX5_goThrough 2 = .ok (.getfield 39, 3) := by decide +kernel
theorem dX5_goThrough_5 : decode cX5_goThrough 5 = .ok (.putfield 9, 3) := by decide +kernel
theorem dX5_goThrough_8 : decode cX5_goThrough 8 = .ok (.aload_n 1, 1) := by decide +kernel
theorem dX5_goThrough_9 : decode cX5_goThrough 9 = .ok (.invokevirtual 42, 3) := by decide +kernel
theorem dX5_goThrough_12 : decode cX5_goThrough 12 = .ok (.iconst 1, 1) := by decide +kernel
theorem dX5_goThrough_13 : decode cX5_goThrough 13 = .ok (.istore 4, 2) := by decide +kernel
theorem dX5_goThrough_15 : decode cX5_goThrough 15 = .ok (.iload 4, 2) := by decide +kernel
theorem dX5_goThrough_17 : decode cX5_goThrough 17 = .ok (.bipush 120, 2) := by decide +kernel
theorem dX5_goThrough_19 : decode cX5_goThrough 19 = .ok (.if_icmp .gt 54, 3) := by decide +kernel
theorem dX5_goThrough_22 : decode cX5_goThrough 22 = .ok (.aload_n 0, 1) := by decide +kernel
theorem dX5_goThrough_23 : decode cX5_goThrough 23 = .ok (.aload_n 1, 1) := by decide +kernel
theorem dX5_goThrough_24 : decode cX5_goThrough 24 = .ok (.invokevirtual 47, 3) := by decide +kernel
theorem dX5_goThrough_27 : decode cX5_goThrough 27 = .ok (.ifCond .ne 6, 3) := by decide +kernel
theorem dX5_goThrough_30 : decode cX5_goThrough 30 = .ok (.goto 43, 3) := by decide +kernel
theorem dX5_goThrough_33 : decode cX5_goThrough 33 = .ok (.iload_n 3, 1) := by decide +kernel
theorem dX5_goThrough_34 : decode cX5_goThrough 34 = .ok (.ifCond .eq 8, 3) := by decide +kernel
theorem dX5_goThrough_37 : decode cX5_goThrough 37 = .ok (.aload_n 0, 1) := by decide +kernel
theorem dX5_goThrough_38 : decode cX5_goThrough 38 = .ok (.aload_n 2, 1) := by decide +kernel
theorem dX5_goThrough_39 : decode cX5_goThrough 39 = .ok (.invokevirtual 51, 3) := by decide +kernel
theorem dX5_goThrough_42 : decode cX5_goThrough 42 = .ok (.aload_n 1, 1) := by decide +kernel
theorem dX5_goThrough_43 : decode cX5_goThrough 43 = .ok (.getfield 55, 3) := by decide +kernel
theorem dX5_goThrough_46 : decode cX5_goThrough 46 = .ok (.ifCond .ne 6, 3) := by decide +kernel
theorem dX5_goThrough_49 : decode cX5_goThrough 49 = .ok (.iload 4, 2) := by decide +kernel
theorem dX5_goThrough_51 : decode cX5_goThrough 51 = .ok (.ireturn, 1) := by decide +kernel
theorem dX5_goThrough_52 : decode cX5_goThrough 52 = .ok (.aload_n 1, 1) := by decide +kernel
theorem dX5_goThrough_53 : decode cX5_goThrough 53 = .ok (.getfield 55, 3) := by decide +kernel
theorem dX5_goThrough_56 : decode cX5_goThrough 56 = .ok (.iconst 3, 1) := by decide +kernel
theorem dX5_goThrough_57 : decode cX5_goThrough 57 = .ok (.if_icmp .eq 6, 3) := by decide +kernel
theorem dX5_goThrough_60 : decode cX5_goThrough 60 = .ok (.goto 13, 3) := by decide +kernel
theorem dX5_goThrough_63 : decode cX5_goThrough 63 = .ok (.aload_n 1, 1) := by decide +kernel
theorem dX5_goThrough_64 : decode cX5_goThrough 64 = .ok (.invokevirtual 58, 3) := by decide +kernel
theorem dX5_goThrough_67 : decode cX5_goThrough 67 = .ok (.iinc 4 1, 3) := by decide +kernel
theorem dX5_goThrough_70 : decode cX5_goThrough 70 = .ok (.goto (-55), 3) := by decide +kernel
theorem dX5_goThrough_73 : decode cX5_goThrough 73 = .ok (.iconst (-1), 1) := by decide +kernel
theorem dX5_goThrough_74 : decode cX5_goThrough 74 = .ok (.aload_n 1, 1) := by decide +kernel
theorem dX5_goThrough_75 : decode cX5_goThrough 75 = .ok (.getfield 61, 3) := by decide +kernel
theorem dX5_goThrough_78 : decode cX5_goThrough 78 = .ok (.isub, 1) := by decide +kernel
theorem dX5_goThrough_79 : decode cX5_goThrough 79 = .ok (.ireturn, 1) := by decide +kernel
theorem dX5_passItem_0 : decode cX5_passItem 0 = .ok (.aload_n 1, 1) := by decide +kernel
theorem dX5_passItem_1 : decode cX5_passItem 1 = .ok (.ldc 64, 2) := by decide +kernel
theorem dX5_passItem_3 : decode cX5_passItem 3 = .ok (.invokevirtual 66, 3) := by decide +kernel
theorem dX5_passItem_6 : decode cX5_passItem 6 = .ok (.ifCond .eq 9, 3) := by decide +kernel
theorem dX5_passItem_9 : decode cX5_passItem 9 = .ok (.aload_n 0, 1) := by decide +kernel
theorem dX5_passItem_10 : decode cX5_passItem 10 = .ok (.aload_n 1, 1) := by decide +kernel
theorem dX5_passItem_11 : decode cX5_passItem 11 = .ok (.invokevirtual 70, 3) := by decide +kernel
theorem dX5_passItem_14 : decode cX5_passItem 14 = .ok (.ireturn, 1) := by decide +kernel
theorem dX5_passItem_15 : decode cX5_passItem 15 = .ok (.aload_n 1, 1) := by decide +kernel
theorem dX5_passItem_16 : decode cX5_passItem 16 = .ok (.ldc 73, 2) := by decide +kernel
theorem dX5_passItem_18 : decode cX5_passItem 18 = .ok (.invokevirtual 66, 3) := by decide +kernel
theorem dX5_passItem_21 : decode cX5_passItem 21 = .ok (.ifCond .eq 9, 3) := by decide +kernel
theorem dX5_passItem_24 : decode cX5_passItem 24 = .ok (.aload_n 0, 1) := by decide +kernel
theorem dX5_passItem_25 : decode cX5_passItem 25 = .ok (.aload_n 1, 1) := by decide +kernel
theorem dX5_passItem_26 : decode cX5_passItem 26 = .ok (.invokevirtual 75, 3) := by decide +kernel
theorem dX5_passItem_29 : decode cX5_passItem 29 = .ok (.ireturn, 1) := by decide +kernel
theorem dX5_passItem_30 : decode cX5_passItem 30 = .ok (.aload_n 1, 1) := by decide +kernel
theorem dX5_passItem_31 : decode cX5_passItem 31 = .ok (.ldc 78, 2) := by decide +kernel
theorem dX5_passItem_33 : decode cX5_passItem 33 = .ok (.invokevirtual 66, 3) := by decide +kernel
theorem dX5_passItem_36 : decode cX5_passItem 36 = .ok (.ifCond .eq 9, 3) := by decide +kernel
theorem dX5_passItem_39 : decode cX5_passItem 39 = .ok (.aload_n 0, 1) := by decide +kernel
theorem dX5_passItem_40 : decode cX5_passItem 40 = .ok (.aload_n 1, 1) := by decide +kernel
theorem dX5_passItem_41 : decode cX5_passItem 41 = .ok (.invokevirtual 79, 3) := by decide +kernel
theorem dX5_passItem_44 : decode cX5_passItem 44 = .ok (.ireturn, 1) := by decide +kernel
theorem dX5_passItem_45 : decode cX5_passItem 45 = .ok (.iconst 0, 1) := by decide +kernel
theorem dX5_passItem_46 : decode cX5_passItem 46 = .ok (.istore_n 2, 1) := by decide +kernel
theorem dX5_passItem_47 : decode cX5_passItem 47 = .ok (.iload_n 2, 1) := by decide +kernel
theorem dX5_passItem_48 : decode cX5_passItem 48 = .ok (.bipush 6, 2) := by decide +kernel
theorem dX5_passItem_50 : decode cX5_passItem 50 = .ok (.if_icmp .ge 35, 3) := by decide +kernel
theorem dX5_passItem_53 : decode cX5_passItem 53 = .ok (.aload_n 0, 1) := by decide +kernel
theorem dX5_passItem_54 : decode cX5_passItem 54 = .ok (.getfield 9, 3) := by decide +kernel
theorem dX5_passItem_57 : decode cX5_passItem 57 = .ok (.bipush 6, 2) := by decide +kernel
theorem dX5_passItem_59 : decode cX5_passItem 59 = .ok (.if_icmp .ge 26, 3) := by decide +kernel
theorem dX5_passItem_62 : decode cX5_passItem 62 = .ok (.aload_n 1, 1) := by decide +kernel
theorem dX5_passItem_63 : decode cX5_passItem 63 = .ok (.iload_n 2, 1) := by decide +kernel
theorem dX5_passItem_64 : decode cX5_passItem 64 = .ok (.invokestatic 82, 3) := by decide +kernel
theorem dX5_passItem_67 : decode cX5_passItem 67 = .ok (.invokevirtual 66, 3) := by decide +kernel
theorem dX5_passItem_70 : decode cX5_passItem 70 = .ok (.ifCond .eq 9, 3) := by decide +kernel
theorem dX5_passItem_73 : decode cX5_passItem 73 = .ok (.aload_n 0, 1) := by decide +kernel
theorem dX5_passItem_74 : decode cX5_passItem 74 = .ok (.iload_n 2, 1) := by decide +kernel
theorem dX5_passItem_75 : decode cX5_passItem 75 = .ok (.invokevirtual 88, 3) := by decide +kernel
theorem dX5_passItem_78 : decode cX5_passItem 78 = .ok (.ireturn, 1) := by decide +kernel
theorem dX5_passItem_79 : decode cX5_passItem 79 = .ok (.iinc 2 1, 3) := by decide +kernel
theorem dX5_passItem_82 : decode cX5_passItem 82 = .ok (.goto (-35), 3) := by decide +kernel
theorem dX5_passItem_85 : decode cX5_passItem 85 = .ok (.iconst 0, 1) := by decide +kernel
theorem dX5_passItem_86 : decode cX5_passItem 86 = .ok (.ireturn, 1) := by decide +kernel
theorem dX5_passFlue_0 : decode cX5_passFlue 0 = .ok (.aload_n 0, 1) := by decide +kernel
theorem dX5_passFlue_1 : decode cX5_passFlue 1 = .ok (.iconst 0, 1) := by decide +kernel
theorem dX5_passFlue_2 : decode cX5_passFlue 2 = .ok (.putfield 15, 3) := by decide +kernel
theorem dX5_passFlue_5 : decode cX5_passFlue 5 = .ok (.aload_n 0, 1) := by decide +kernel
theorem dX5_passFlue_6 : decode cX5_passFlue 6 = .ok (.iload_n 1, 1) := by decide +kernel
theorem dX5_passFlue_7 : decode cX5_passFlue 7 = .ok (.putfield 18, 3) := by decide +kernel
theorem dX5_passFlue_10 : decode cX5_passFlue 10 = .ok (.aload_n 0, 1) := by decide +kernel
theorem dX5_passFlue_11 : decode cX5_passFlue 11 = .ok (.dup, 1) := by decide +kernel
theorem dX5_passFlue_12 : decode cX5_passFlue 12 = .ok (.getfield 9, 3) := by decide +kernel
theorem dX5_passFlue_15 : decode cX5_passFlue 15 = .ok (.iconst 1, 1) := by decide +kernel
theorem dX5_passFlue_16 : decode cX5_passFlue 16 = .ok (.iadd, 1) := by decide +kernel
theorem dX5_passFlue_17 : decode cX5_passFlue 17 = .ok (.putfield 9, 3) := by decide +kernel
theorem dX5_passFlue_20 : decode cX5_passFlue 20 = .ok (.iconst 1, 1) := by decide +kernel
theorem dX5_passFlue_21 : decode cX5_passFlue 21 = .ok (.ireturn, 1) := by decide +kernel
theorem dX5_passSaying_0 : decode cX5_passSaying 0 = .ok (.aload_n 0, 1) := by decide +kernel
theorem dX5_passSaying_1 : decode cX5_passSaying 1 = .ok (.iconst 1, 1) := by decide +kernel
theorem dX5_passSaying_2 : decode cX5_passSaying 2 = .ok (.putfield 15, 3) := by decide +kernel
theorem dX5_passSaying_5 : decode cX5_passSaying 5 = .ok (.aload_n 0, 1) := by decide +kernel
theorem dX5_passSaying_6 : decode cX5_passSaying 6 = .ok (.aload_n 1, 1) := by decide +kernel
theorem dX5_passSaying_7 : decode cX5_passSaying 7 = .ok (.aload_n 0, 1) := by decide +kernel
theorem dX5_passSaying_8 : decode cX5_passSaying 8 = .ok (.getfield 9, 3) := by decide +kernel
theorem dX5_passSaying_11 : decode cX5_passSaying 11 = .ok (.invokevirtual 92, 3) := by decide +kernel
theorem dX5_passSaying_14 : decode cX5_passSaying 14 = .ok (.putfield 21, 3) := by decide +kernel
theorem dX5_passSaying_17 : decode cX5_passSaying 17 = .ok (.aload_n 0, 1) := by decide +kernel
theorem dX5_passSaying_18 : decode cX5_passSaying 18 = .ok (.getfield 21, 3) := by decide +kernel
theorem dX5_passSaying_21 : decode cX5_passSaying 21 = .ok (.ifCond .ge 5, 3) := by decide +kernel
theorem dX5_passSaying_24 : decode cX5_passSaying 24 = .ok (.iconst 0, 1) := by decide +kernel
theorem dX5_passSaying_25 : decode cX5_passSaying 25 = .ok (.ireturn, 1) := by decide +kernel
theorem dX5_passSaying_26 : decode cX5_passSaying 26 = .ok (.aload_n 0, 1) := by decide +kernel
theorem dX5_passSaying_27 : decode cX5_passSaying 27 = .ok (.aload_n 1, 1) := by decide +kernel
theorem dX5_passSaying_28 : decode cX5_passSaying 28 = .ok (.bipush 16, 2) := by decide +kernel
theorem dX5_passSaying_30 : decode cX5_passSaying 30 = .ok (.invokevirtual 92, 3) := by decide +kernel
theorem dX5_passSaying_33 : decode cX5_passSaying 33 = .ok (.putfield 27, 3) := by decide +kernel
theorem dX5_passSaying_36 : decode cX5_passSaying 36 = .ok (.aload_n 0, 1) := by decide +kernel
theorem dX5_passSaying_37 : decode cX5_passSaying 37 = .ok (.getfield 27, 3) := by decide +kernel
theorem dX5_passSaying_40 : decode cX5_passSaying 40 = .ok (.ifCond .ge 5, 3) := by decide +kernel
theorem dX5_passSaying_43 : decode cX5_passSaying 43 = .ok (.iconst 0, 1) := by decide +kernel
theorem dX5_passSaying_44 : decode cX5_passSaying 44 = .ok (.ireturn, 1) := by decide +kernel
theorem dX5_passSaying_45 : decode cX5_passSaying 45 = .ok (.aload_n 0, 1) := by decide +kernel
theorem dX5_passSaying_46 : decode cX5_passSaying 46 = .ok (.aload_n 1, 1) := by decide +kernel
theorem dX5_passSaying_47 : decode cX5_passSaying 47 = .ok (.ldc 96, 2) := by decide +kernel
theorem dX5_passSaying_49 : decode cX5_passSaying 49 = .ok (.invokevirtual 66, 3) := by decide +kernel
theorem dX5_passSaying_52 : decode cX5_passSaying 52 = .ok (.ifCond .eq 12, 3) := by decide +kernel
theorem dX5_passSaying_55 : decode cX5_passSaying 55 = .ok (.aload_n 1, 1) := by decide +kernel
theorem dX5_passSaying_56 : decode cX5_passSaying 56 = .ok (.bipush 10, 2) := by decide +kernel
theorem dX5_passSaying_58 : decode cX5_passSaying 58 = .ok (.invokevirtual 92, 3) := by decide +kernel
theorem dX5_passSaying_61 : decode cX5_passSaying 61 = .ok (.goto 4, 3) := by decide +kernel
theorem dX5_passSaying_64 : decode cX5_passSaying 64 = .ok (.iconst 5, 1) := by decide +kernel
theorem dX5_passSaying_65 : decode cX5_passSaying 65 = .ok (.putfield 30, 3) := by decide +kernel
theorem dX5_passSaying_68 : decode cX5_passSaying 68 = .ok (.aload_n 0, 1) := by decide +kernel
theorem dX5_passSaying_69 : decode cX5_passSaying 69 = .ok (.getfield 30, 3) := by decide +kernel
theorem dX5_passSaying_72 : decode cX5_passSaying 72 = .ok (.ifCond .lt 7, 3) := by decide +kernel
theorem dX5_passSaying_75 : decode cX5_passSaying 75 = .ok (.iconst 1, 1) := by decide +kernel
theorem dX5_passSaying_76 : decode cX5_passSaying 76 = .ok (.goto 4, 3) := by decide +kernel
theorem dX5_passSaying_79 : decode cX5_passSaying 79 = .ok (.iconst 0, 1) := by decide +kernel
theorem dX5_passSaying_80 : decode cX5_passSaying 80 = .ok (.ireturn, 1) := by decide +kernel
theorem dX5_passLayer_0 : decode cX5_passLayer 0 = .ok (.aload_n 0, 1) := by decide +kernel
theorem dX5_passLayer_1 : decode cX5_passLayer 1 = .ok (.iconst 2, 1) := by decide +kernel
theorem dX5_passLayer_2 : decode cX5_passLayer 2 = .ok (.putfield 15, 3) := by decide +kernel
theorem dX5_passLayer_5 : decode cX5_passLayer 5 = .ok (.aload_n 0, 1) := by decide +kernel
theorem dX5_passLayer_6 : decode cX5_passLayer 6 = .ok (.aload_n 1, 1) := by decide +kernel
theorem dX5_passLayer_7 : decode cX5_passLayer 7 = .ok (.aload_n 0, 1) := by decide +kernel
theorem dX5_passLayer_8 : decode cX5_passLayer 8 = .ok (.getfield 9, 3) := by decide +kernel
theorem dX5_passLayer_11 : decode cX5_passLayer 11 = .ok (.invokevirtual 92, 3) := by decide +kernel
theorem dX5_passLayer_14 : decode cX5_passLayer 14 = .ok (.putfield 21, 3) := by decide +kernel
theorem dX5_passLayer_17 : decode cX5_passLayer 17 = .ok (.aload_n 0, 1) := by decide +kernel
theorem dX5_passLayer_18 : decode cX5_passLayer 18 = .ok (.getfield 21, 3) := by decide +kernel
theorem dX5_passLayer_21 : decode cX5_passLayer 21 = .ok (.ifCond .ge 5, 3) := by decide +kernel
theorem dX5_passLayer_24 : decode cX5_passLayer 24 = .ok (.iconst 0, 1) := by decide +kernel
theorem dX5_passLayer_25 : decode cX5_passLayer 25 = .ok (.ireturn, 1) := by decide +kernel
theorem dX5_passLayer_26 : decode cX5_passLayer 26 = .ok (.aload_n 0, 1) := by decide +kernel
theorem dX5_passLayer_27 : decode cX5_passLayer 27 = .ok (.aload_n 1, 1) := by decide +kernel
theorem dX5_passLayer_28 : decode cX5_passLayer 28 = .ok (.bipush 8, 2) := by decide +kernel
theorem dX5_passLayer_30 : decode cX5_passLayer 30 = .ok (.invokevirtual 92, 3) := by decide +kernel
theorem dX5_passLayer_33 : decode cX5_passLayer 33 = .ok (.putfield 24, 3) := by decide +kernel
theorem dX5_passLayer_36 : decode cX5_passLayer 36 = .ok (.aload_n 0, 1) := by decide +kernel
theorem dX5_passLayer_37 : decode cX5_passLayer 37 = .ok (.getfield 24, 3) := by decide +kernel
theorem dX5_passLayer_40 : decode cX5_passLayer 40 = .ok (.ifCond .ge 5, 3) := by decide +kernel
theorem dX5_passLayer_43 : decode cX5_passLayer 43 = .ok (.iconst 0, 1) := by decide +kernel
theorem dX5_passLayer_44 : decode cX5_passLayer 44 = .ok (.ireturn, 1) := by decide +kernel
theorem dX5_passLayer_45 : decode cX5_passLayer 45 = .ok (.aload_n 0, 1) := by decide +kernel
theorem dX5_passLayer_46 : decode cX5_passLayer 46 = .ok (.aload_n 1, 1) := by decide +kernel
theorem dX5_passLayer_47 : decode cX5_passLayer 47 = .ok (.bipush 16, 2) := by decide +kernel
theorem dX5_passLayer_49 : decode cX5_passLayer 49 = .ok (.invokevirtual 92, 3) := by decide +kernel
theorem dX5_passLayer_52 : decode cX5_passLayer 52 = .ok (.putfield 27, 3) := by decide +kernel
theorem dX5_passLayer_55 : decode cX5_passLayer 55 = .ok (.aload_n 0, 1) := by decide +kernel
theorem dX5_passLayer_56 : decode cX5_passLayer 56 = .ok (.getfield 27, 3) := by decide +kernel
theorem dX5_passLayer_59 : decode cX5_passLayer 59 = .ok (.ifCond .ge 5, 3) := by decide +kernel
theorem dX5_passLayer_62 : decode cX5_passLayer 62 = .ok (.iconst 0, 1) := by decide +kernel
theorem dX5_passLayer_63 : decode cX5_passLayer 63 = .ok (.ireturn, 1) := by decide +kernel
theorem dX5_passLayer_64 : decode cX5_passLayer 64 = .ok (.aload_n 0, 1) := by decide +kernel
theorem dX5_passLayer_65 : decode cX5_passLayer 65 = .ok (.aload_n 1, 1) := by decide +kernel
theorem dX5_passLayer_66 : decode cX5_passLayer 66 = .ok (.ldc 97, 2) := by decide +kernel
theorem dX5_passLayer_68 : decode cX5_passLayer 68 = .ok (.invokevirtual 66, 3) := by decide +kernel
theorem dX5_passLayer_71 : decode cX5_passLayer 71 = .ok (.ifCond .eq 12, 3) := by decide +kernel
theorem dX5_passLayer_74 : decode cX5_passLayer 74 = .ok (.aload_n 1, 1) := by decide +kernel
theorem dX5_passLayer_75 : decode cX5_passLayer 75 = .ok (.bipush 10, 2) := by decide +kernel
theorem dX5_passLayer_77 : decode cX5_passLayer 77 = .ok (.invokevirtual 92, 3) := by decide +kernel
theorem dX5_passLayer_80 : decode cX5_passLayer 80 = .ok (.goto 4, 3) := by decide +kernel
theorem dX5_passLayer_83 : decode cX5_passLayer 83 = .ok (.iconst 0, 1) := by decide +kernel
theorem dX5_passLayer_84 : decode cX5_passLayer 84 = .ok (.putfield 33, 3) := by decide +kernel
theorem dX5_passLayer_87 : decode cX5_passLayer 87 = .ok (.aload_n 0, 1) := by decide +kernel
theorem dX5_passLayer_88 : decode cX5_passLayer 88 = .ok (.getfield 33, 3) := by decide +kernel
theorem dX5_passLayer_91 : decode cX5_passLayer 91 = .ok (.ifCond .lt 7, 3) := by decide +kernel
theorem dX5_passLayer_94 : decode cX5_passLayer 94 = .ok (.iconst 1, 1) := by decide +kernel
theorem dX5_passLayer_95 : decode cX5_passLayer 95 = .ok (.goto 4, 3) := by decide +kernel
theorem dX5_passLayer_98 : decode cX5_passLayer 98 = .ok (.iconst 0, 1) := by decide +kernel
theorem dX5_passLayer_99 : decode cX5_passLayer 99 = .ok (.ireturn, 1) := by decide +kernel
theorem dX5_passDamp_0 : decode cX5_passDamp 0 = .ok (.aload_n 0, 1) := by decide +kernel
theorem dX5_passDamp_1 : decode cX5_passDamp 1 = .ok (.iconst 3, 1) := by decide +kernel
theorem dX5_passDamp_2 : decode cX5_passDamp 2 = .ok (.putfield 15, 3) := by decide +kernel
theorem dX5_passDamp_5 : decode cX5_passDamp 5 = .ok (.aload_n 0, 1) := by decide +kernel
theorem dX5_passDamp_6 : decode cX5_passDamp 6 = .ok (.aload_n 1, 1) := by decide +kernel
theorem dX5_passDamp_7 : decode cX5_passDamp 7 = .ok (.bipush 10, 2) := by decide +kernel
theorem dX5_passDamp_9 : decode cX5_passDamp 9 = .ok (.invokevirtual 92, 3) := by decide +kernel
theorem dX5_passDamp_12 : decode cX5_passDamp 12 = .ok (.putfield 36, 3) := by decide +kernel
theorem dX5_passDamp_15 : decode cX5_passDamp 15 = .ok (.aload_n 0, 1) := by decide +kernel
theorem dX5_passDamp_16 : decode cX5_passDamp 16 = .ok (.getfield 36, 3) := by decide +kernel
theorem dX5_passDamp_19 : decode cX5_passDamp 19 = .ok (.ifCond .lt 7, 3) := by decide +kernel
theorem dX5_passDamp_22 : decode cX5_passDamp 22 = .ok (.iconst 1, 1) := by decide +kernel
theorem dX5_passDamp_23 : decode cX5_passDamp 23 = .ok (.goto 4, 3) := by decide +kernel
theorem dX5_passDamp_26 : decode cX5_passDamp 26 = .ok (.iconst 0, 1) := by decide +kernel
theorem dX5_passDamp_27 : decode cX5_passDamp 27 = .ok (.ireturn, 1) := by decide +kernel
theorem dX5_perform_0 : decode cX5_perform 0 = .ok (.aload_n 0, 1) := by decide +kernel
theorem dX5_perform_1 : decode cX5_perform 1 = .ok (.getfield 15, 3) := by decide +kernel
theorem dX5_perform_4 : decode cX5_perform 4 = .ok (.tableswitch 82 1 3 #[28, 48, 71], 28) := by decide +kernel
theorem dX5_perform_32 : decode cX5_perform 32 = .ok (.aload_n 1, 1) := by decide +kernel
theorem dX5_perform_33 : decode cX5_perform 33 = .ok (.aload_n 0, 1) := by decide +kernel
theorem dX5_perform_34 : decode cX5_perform 34 = .ok (.getfield 21, 3) := by decide +kernel
theorem dX5_perform_37 : decode cX5_perform 37 = .ok (.aload_n 0, 1) := by decide +kernel
theorem dX5_perform_38 : decode cX5_perform 38 = .ok (.getfield 27, 3) := by decide +kernel
theorem dX5_perform_41 : decode cX5_perform 41 = .ok (.aload_n 0, 1) := by decide +kernel
theorem dX5_perform_42 : decode cX5_perform 42 = .ok (.getfield 30, 3) := by decide +kernel
theorem dX5_perform_45 : decode cX5_perform 45 = .ok (.invokevirtual 98, 3) := by decide +kernel
theorem dX5_perform_48 : decode cX5_perform 48 = .ok (.pop, 1) := by decide +kernel
theorem dX5_perform_49 : decode cX5_perform 49 = .ok (.goto 46, 3) := by decide +kernel
theorem dX5_perform_52 : decode cX5_perform 52 = .ok (.aload_n 1, 1) := by decide +kernel
theorem dX5_perform_53 : decode cX5_perform 53 = .ok (.aload_n 0, 1) := by decide +kernel
theorem dX5_perform_54 : decode cX5_perform 54 = .ok (.getfield 21, 3) := by decide +kernel
theorem dX5_perform_57 : decode cX5_perform 57 = .ok (.aload_n 0, 1) := by decide +kernel
theorem dX5_perform_58 : decode cX5_perform 58 = .ok (.getfield 24, 3) := by decide +kernel
theorem dX5_perform_61 : decode cX5_perform 61 = .ok (.aload_n 0, 1) := by decide +kernel
theorem dX5_perform_62 : decode cX5_perform 62 = .ok (.getfield 27, 3) := by decide +kernel
theorem dX5_perform_65 : decode cX5_perform 65 = .ok (.aload_n 0, 1) := by decide +kernel
theorem dX5_perform_66 : decode cX5_perform 66 = .ok (.getfield 33, 3) := by decide +kernel
theorem dX5_perform_69 : decode cX5_perform 69 = .ok (.invokevirtual 102, 3) := by decide +kernel
theorem dX5_perform_72 : decode cX5_perform 72 = .ok (.goto 23, 3) := by decide +kernel
theorem dX5_perform_75 : decode cX5_perform 75 = .ok (.aload_n 1, 1) := by decide +kernel
theorem dX5_perform_76 : decode cX5_perform 76 = .ok (.aload_n 0, 1) := by decide +kernel
theorem dX5_perform_77 : decode cX5_perform 77 = .ok (.getfield 36, 3) := by decide +kernel
theorem dX5_perform_80 : decode cX5_perform 80 = .ok (.putfield 106, 3) := by decide +kernel
theorem dX5_perform_83 : decode cX5_perform 83 = .ok (.goto 12, 3) := by decide +kernel
theorem dX5_perform_86 : decode cX5_perform 86 = .ok (.aload_n 1, 1) := by decide +kernel
theorem dX5_perform_87 : decode cX5_perform 87 = .ok (.aload_n 0, 1) := by decide +kernel
theorem dX5_perform_88 : decode cX5_perform 88 = .ok (.getfield 18, 3) := by decide +kernel
theorem dX5_perform_91 : decode cX5_perform 91 = .ok (.invokevirtual 107, 3) := by decide +kernel
theorem dX5_perform_94 : decode cX5_perform 94 = .ok (.pop, 1) := by decide +kernel
theorem dX5_perform_95 : decode cX5_perform 95 = .ok (.return_, 1) := by decide +kernel
theorem dX6_init_0 : decode cX6_init 0 = .ok (.aload_n 0, 1) := by decide +kernel
theorem dX6_init_1 : decode cX6_init 1 = .ok (.invokespecial 3, 3) := by decide +kernel
theorem dX6_init_4 : decode cX6_init 4 = .ok (.aload_n 0, 1) := by decide +kernel
theorem dX6_init_5 : decode cX6_init 5 = .ok (.iconst 0, 1) := by decide +kernel
theorem dX6_init_6 : decode cX6_init 6 = .ok (.putfield 9, 3) := by decide +kernel
theorem dX6_init_9 : decode cX6_init 9 = .ok (.aload_n 0, 1) := by decide +kernel
theorem dX6_init_10 : decode cX6_init 10 = .ok (.iconst 0, 1) := by decide +kernel
theorem dX6_init_11 : decode cX6_init 11 = .ok (.putfield 15, 3) := by decide +kernel
theorem dX6_init_14 : decode cX6_init 14 = .ok (.aload_n 0, 1) := by decide +kernel
theorem dX6_init_15 : decode cX6_init 15 = .ok (.bipush 8, 2) := by decide +kernel
theorem dX6_init_17 : decode cX6_init 17 = .ok (.newarray .int, 2) := by decide +kernel
theorem dX6_init_19 : decode cX6_init 19 = .ok (.putfield 18, 3) := by decide +kernel
theorem dX6_init_22 : decode cX6_init 22 = .ok (.return_, 1) := by decide +kernel
theorem dX6_speakAll_0 : decode cX6_speakAll 0 = .ok (.aload_n 0, 1) := by decide +kernel
theorem dX6_speakAll_1 : decode cX6_speakAll 1 = .ok (.iconst 0, 1) := by decide +kernel
theorem dX6_speakAll_2 : decode cX6_speakAll 2 = .ok (.putfield 9, 3) := by decide +kernel
theorem dX6_speakAll_5 : decode cX6_speakAll 5 = .ok (.aload_n 0, 1) := by decide +kernel
theorem dX6_speakAll_6 : decode cX6_speakAll 6 = .ok (.iconst 0, 1) := by decide +kernel
theorem dX6_speakAll_7 : decode cX6_speakAll 7 = .ok (.putfield 15, 3) := by decide +kernel
theorem dX6_speakAll_10 : decode cX6_speakAll 10 = .ok (.iconst 0, 1) := by decide +kernel
theorem dX6_speakAll_11 : decode cX6_speakAll 11 = .ok (.istore 6, 2) := by decide +kernel
