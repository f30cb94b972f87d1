theorem dX6_speakAll_13 : decode cX6_speakAll 13 = .ok (.iload 6, 2) := by decide +kernel
theorem dX6_speakAll_15 : decode cX6_speakAll 15 = .ok (.bipush 8, 2) := by decide +kernel
theorem dX6_speakAll_17 : decode cX6_speakAll 17 = .ok (.if_icmp .ge 23, 3) := by decide +kernel
theorem dX6_speakAll_20 : decode cX6_speakAll 20 = .ok (.aload_n 0, 1) := by decide +kernel
theorem dX6_speakAll_21 : decode cX6_speakAll 21 = .ok (.getfield 18, 3) := by decide +kernel
theorem dX6_speakAll_24 : decode cX6_speakAll 24 = .ok (.iload 6, 2) := by decide +kernel
theorem dX6_speakAll_26 : decode cX6_speakAll 26 = .ok (.aload_n 1, 1) := by decide +kernel
theorem dX6_speakAll_27 : decode cX6_speakAll 27 = .ok (.iload_n 2, 1) := by decide +kernel
theorem dX6_speakAll_28 : decode cX6_speakAll 28 = .ok (.iload 6, 2) := by decide +kernel
theorem dX6_speakAll_30 : decode cX6_speakAll 30 = .ok (.invokevirtual 22, 3) := by decide +kernel
theorem dX6_speakAll_33 : decode cX6_speakAll 33 = .ok (.iastore, 1) := by decide +kernel
theorem dX6_speakAll_34 : decode cX6_speakAll 34 = .ok (.iinc 6 1, 3) := by decide +kernel
theorem dX6_speakAll_37 : decode cX6_speakAll 37 = .ok (.goto (-24), 3) := by decide +kernel
theorem dX6_speakAll_40 : decode cX6_speakAll 40 = .ok (.iconst 0, 1) := by decide +kernel
theorem dX6_speakAll_41 : decode cX6_speakAll 41 = .ok (.istore 6, 2) := by decide +kernel
theorem dX6_speakAll_43 : decode cX6_speakAll 43 = .ok (.iload 6, 2) := by decide +kernel
theorem dX6_speakAll_45 : decode cX6_speakAll 45 = .ok (.bipush 16, 2) := by decide +kernel
theorem dX6_speakAll_47 : decode cX6_speakAll 47 = .ok (.if_icmp .ge 36, 3) := by decide +kernel
theorem dX6_speakAll_50 : decode cX6_speakAll 50 = .ok (.iload 4, 2) := by decide +kernel
theorem dX6_speakAll_52 : decode cX6_speakAll 52 = .ok (.iload 6, 2) := by decide +kernel
theorem dX6_speakAll_54 : decode cX6_speakAll 54 = .ok (.invokestatic 28, 3) := by decide +kernel
theorem dX6_speakAll_57 : decode cX6_speakAll 57 = .ok (.ifCond .eq 20, 3) := by decide +kernel
theorem dX6_speakAll_60 : decode cX6_speakAll 60 = .ok (.aload_n 0, 1) := by decide +kernel
theorem dX6_speakAll_61 : decode cX6_speakAll 61 = .ok (.iload_n 3, 1) := by decide +kernel
theorem dX6_speakAll_62 : decode cX6_speakAll 62 = .ok (.iload_n 3, 1) := by decide +kernel
theorem dX6_speakAll_63 : decode cX6_speakAll 63 = .ok (.iload 6, 2) := by decide +kernel
theorem dX6_speakAll_65 : decode cX6_speakAll 65 = .ok (.iload 5, 2) := by decide +kernel
theorem dX6_speakAll_67 : decode cX6_speakAll 67 = .ok (.aload_n 1, 1) := by decide +kernel
theorem dX6_speakAll_68 : decode cX6_speakAll 68 = .ok (.getfield 32, 3) := by decide +kernel
theorem dX6_speakAll_71 : decode cX6_speakAll 71 = .ok (.invokestatic 35, 3) := by decide +kernel
theorem dX6_speakAll_74 : decode cX6_speakAll 74 = .ok (.invokevirtual 41, 3) := by decide +kernel
theorem dX6_speakAll_77 : decode cX6_speakAll 77 = .ok (.iinc 6 1, 3) := by decide +kernel
theorem dX6_speakAll_80 : decode cX6_speakAll 80 = .ok (.goto (-37), 3) := by decide +kernel
theorem dX6_speakAll_83 : decode cX6_speakAll 83 = .ok (.return_, 1) := by decide +kernel
theorem dX6_settleOne_0 : decode cX6_settleOne 0 = .ok (.iload_n 1, 1) := by decide +kernel
theorem dX6_settleOne_1 : decode cX6_settleOne 1 = .ok (.iload_n 2, 1) := by decide +kernel
theorem dX6_settleOne_2 : decode cX6_settleOne 2 = .ok (.aload_n 0, 1) := by decide +kernel
theorem dX6_settleOne_3 : decode cX6_settleOne 3 = .ok (.getfield 18, 3) := by decide +kernel
theorem dX6_settleOne_6 : decode cX6_settleOne 6 = .ok (.iconst 0, 1) := by decide +kernel
theorem dX6_settleOne_7 : decode cX6_settleOne 7 = .ok (.invokestatic 45, 3) := by decide +kernel
theorem dX6_settleOne_10 : decode cX6_settleOne 10 = .ok (.istore_n 3, 1) := by decide +kernel
theorem dX6_settleOne_11 : decode cX6_settleOne 11 = .ok (.aload_n 0, 1) := by decide +kernel
theorem dX6_settleOne_12 : decode cX6_settleOne 12 = .ok (.dup, 1) := by decide +kernel
theorem dX6_settleOne_13 : decode cX6_settleOne 13 = .ok (.getfield 15, 3) := by decide +kernel
theorem dX6_settleOne_16 : decode cX6_settleOne 16 = .ok (.iload_n 3, 1) := by decide +kernel
theorem dX6_settleOne_17 : decode cX6_settleOne 17 = .ok (.iadd, 1) := by decide +kernel
theorem dX6_settleOne_18 : decode cX6_settleOne 18 = .ok (.putfield 15, 3) := by decide +kernel
theorem dX6_settleOne_21 : decode cX6_settleOne 21 = .ok (.iload_n 3, 1) := by decide +kernel
theorem dX6_settleOne_22 : decode cX6_settleOne 22 = .ok (.invokestatic 49, 3) := by decide +kernel
theorem dX6_settleOne_25 : decode cX6_settleOne 25 = .ok (.ifCond .ne 4, 3) := by decide +kernel
theorem dX6_settleOne_28 : decode cX6_settleOne 28 = .ok (.return_, 1) := by decide +kernel
theorem dX6_settleOne_29 : decode cX6_settleOne 29 = .ok (.aload_n 0, 1) := by decide +kernel
theorem dX6_settleOne_30 : decode cX6_settleOne 30 = .ok (.getfield 18, 3) := by decide +kernel
theorem dX6_settleOne_33 : decode cX6_settleOne 33 = .ok (.iload_n 3, 1) := by decide +kernel
theorem dX6_settleOne_34 : decode cX6_settleOne 34 = .ok (.dup2, 1) := by decide +kernel
theorem dX6_settleOne_35 : decode cX6_settleOne 35 = .ok (.iaload, 1) := by decide +kernel
theorem dX6_settleOne_36 : decode cX6_settleOne 36 = .ok (.iconst 1, 1) := by decide +kernel
theorem dX6_settleOne_37 : decode cX6_settleOne 37 = .ok (.iadd, 1) := by decide +kernel
theorem dX6_settleOne_38 : decode cX6_settleOne 38 = .ok (.iastore, 1) := by decide +kernel
theorem dX6_settleOne_39 : decode cX6_settleOne 39 = .ok (.aload_n 0, 1) := by decide +kernel
theorem dX6_settleOne_40 : decode cX6_settleOne 40 = .ok (.dup, 1) := by decide +kernel
theorem dX6_settleOne_41 : decode cX6_settleOne 41 = .ok (.getfield 9, 3) := by decide +kernel
theorem dX6_settleOne_44 : decode cX6_settleOne 44 = .ok (.iconst 1, 1) := by decide +kernel
theorem dX6_settleOne_45 : decode cX6_settleOne 45 = .ok (.iadd, 1) := by decide +kernel
theorem dX6_settleOne_46 : decode cX6_settleOne 46 = .ok (.putfield 9, 3) := by decide +kernel
theorem dX6_settleOne_49 : decode cX6_settleOne 49 = .ok (.return_, 1) := by decide +kernel
theorem dX7_init_0 : decode cX7_init 0 = .ok (.aload_n 0, 1) := by decide +kernel
theorem dX7_init_1 : decode cX7_init 1 = .ok (.invokespecial 1, 3) := by decide +kernel
theorem dX7_init_4 : decode cX7_init 4 = .ok (.aload_n 0, 1) := by decide +kernel
theorem dX7_init_5 : decode cX7_init 5 = .ok (.new 7, 3) := by decide +kernel
theorem dX7_init_8 : decode cX7_init 8 = .ok (.dup, 1) := by decide +kernel
theorem dX7_init_9 : decode cX7_init 9 = .ok (.invokespecial 9, 3) := by decide +kernel
theorem dX7_init_12 : decode cX7_init 12 = .ok (.putfield 10, 3) := by decide +kernel
theorem dX7_init_15 : decode cX7_init 15 = .ok (.aload_n 0, 1) := by decide +kernel
theorem dX7_init_16 : decode cX7_init 16 = .ok (.new 7, 3) := by decide +kernel
theorem dX7_init_19 : decode cX7_init 19 = .ok (.dup, 1) := by decide +kernel
theorem dX7_init_20 : decode cX7_init 20 = .ok (.invokespecial 9, 3) := by decide +kernel
theorem dX7_init_23 : decode cX7_init 23 = .ok (.putfield 16, 3) := by decide +kernel
theorem dX7_init_26 : decode cX7_init 26 = .ok (.aload_n 0, 1) := by decide +kernel
theorem dX7_init_27 : decode cX7_init 27 = .ok (.iconst 0, 1) := by decide +kernel
theorem dX7_init_28 : decode cX7_init 28 = .ok (.putfield 19, 3) := by decide +kernel
theorem dX7_init_31 : decode cX7_init 31 = .ok (.aload_n 0, 1) := by decide +kernel
theorem dX7_init_32 : decode cX7_init 32 = .ok (.new 23, 3) := by decide +kernel
theorem dX7_init_35 : decode cX7_init 35 = .ok (.dup, 1) := by decide +kernel
theorem dX7_init_36 : decode cX7_init 36 = .ok (.invokespecial 25, 3) := by decide +kernel
theorem dX7_init_39 : decode cX7_init 39 = .ok (.putfield 26, 3) := by decide +kernel
theorem dX7_init_42 : decode cX7_init 42 = .ok (.aload_n 0, 1) := by decide +kernel
theorem dX7_init_43 : decode cX7_init 43 = .ok (.new 30, 3) := by decide +kernel
theorem dX7_init_46 : decode cX7_init 46 = .ok (.dup, 1) := by decide +kernel
theorem dX7_init_47 : decode cX7_init 47 = .ok (.invokespecial 32, 3) := by decide +kernel
theorem dX7_init_50 : decode cX7_init 50 = .ok (.putfield 33, 3) := by decide +kernel
theorem dX7_init_53 : decode cX7_init 53 = .ok (.aload_n 0, 1) := by decide +kernel
theorem dX7_init_54 : decode cX7_init 54 = .ok (.new 37, 3) := by decide +kernel
theorem dX7_init_57 : decode cX7_init 57 = .ok (.dup, 1) := by decide +kernel
theorem dX7_init_58 : decode cX7_init 58 = .ok (.invokespecial 39, 3) := by decide +kernel
theorem dX7_init_61 : decode cX7_init 61 = .ok (.putfield 40, 3) := by decide +kernel
theorem dX7_init_64 : decode cX7_init 64 = .ok (.aload_n 0, 1) := by decide +kernel
theorem dX7_init_65 : decode cX7_init 65 = .ok (.new 44, 3) := by decide +kernel
theorem dX7_init_68 : decode cX7_init 68 = .ok (.dup, 1) := by decide +kernel
theorem dX7_init_69 : decode cX7_init 69 = .ok (.invokespecial 46, 3) := by decide +kernel
theorem dX7_init_72 : decode cX7_init 72 = .ok (.putfield 47, 3) := by decide +kernel
theorem dX7_init_75 : decode cX7_init 75 = .ok (.aload_n 0, 1) := by decide +kernel
theorem dX7_init_76 : decode cX7_init 76 = .ok (.new 51, 3) := by decide +kernel
theorem dX7_init_79 : decode cX7_init 79 = .ok (.dup, 1) := by decide +kernel
theorem dX7_init_80 : decode cX7_init 80 = .ok (.invokespecial 53, 3) := by decide +kernel
theorem dX7_init_83 : decode cX7_init 83 = .ok (.putfield 54, 3) := by decide +kernel
theorem dX7_init_86 : decode cX7_init 86 = .ok (.aload_n 0, 1) := by decide +kernel
theorem dX7_init_87 : decode cX7_init 87 = .ok (.bipush 7, 2) := by decide +kernel
theorem dX7_init_89 : decode cX7_init 89 = .ok (.newarray .int, 2) := by decide +kernel
theorem dX7_init_91 : decode cX7_init 91 = .ok (.putfield 58, 3) := by decide +kernel
theorem dX7_init_94 : decode cX7_init 94 = .ok (.aload_n 0, 1) := by decide +kernel
theorem dX7_init_95 : decode cX7_init 95 = .ok (.bipush 6, 2) := by decide +kernel
theorem dX7_init_97 : decode cX7_init 97 = .ok (.newarray .int, 2) := by decide +kernel
theorem dX7_init_99 : decode cX7_init 99 = .ok (.putfield 62, 3) := by decide +kernel
theorem dX7_init_102 : decode cX7_init 102 = .ok (.return_, 1) := by decide +kernel
theorem dX7_flue_0 : decode cX7_flue 0 = .ok (.iload_n 1, 1) := by decide +kernel
theorem dX7_flue_1 : decode cX7_flue 1 = .ok (.invokestatic 65, 3) := by decide +kernel
theorem dX7_flue_4 : decode cX7_flue 4 = .ok (.ifCond .ne 10, 3) := by decide +kernel
theorem dX7_flue_7 : decode cX7_flue 7 = .ok (.aload_n 0, 1) := by decide +kernel
theorem dX7_flue_8 : decode cX7_flue 8 = .ok (.ldc 69, 2) := by decide +kernel
theorem dX7_flue_10 : decode cX7_flue 10 = .ok (.invokevirtual 70, 3) := by decide +kernel
theorem dX7_flue_13 : decode cX7_flue 13 = .ok (.ireturn, 1) := by decide +kernel
theorem dX7_flue_14 : decode cX7_flue 14 = .ok (.aload_n 0, 1) := by decide +kernel
theorem dX7_flue_15 : decode cX7_flue 15 = .ok (.getfield 10, 3) := by decide +kernel
theorem dX7_flue_18 : decode cX7_flue 18 = .ok (.getfield 74, 3) := by decide +kernel
theorem dX7_flue_21 : decode cX7_flue 21 = .ok (.bipush 6, 2) := by decide +kernel
theorem dX7_flue_23 : decode cX7_flue 23 = .ok (.if_icmp .lt 10, 3) := by decide +kernel
theorem dX7_flue_26 : decode cX7_flue 26 = .ok (.aload_n 0, 1) := by decide +kernel
theorem dX7_flue_27 : decode cX7_flue 27 = .ok (.ldc 78, 2) := by decide +kernel
theorem dX7_flue_29 : decode cX7_flue 29 = .ok (.invokevirtual 70, 3) := by decide +kernel
theorem dX7_flue_32 : decode cX7_flue 32 = .ok (.ireturn, 1) := by decide +kernel
theorem dX7_flue_33 : decode cX7_flue 33 = .ok (.aload_n 0, 1) := by decide +kernel
theorem dX7_flue_34 : decode cX7_flue 34 = .ok (.getfield 10, 3) := by decide +kernel
theorem dX7_flue_37 : decode cX7_flue 37 = .ok (.iload_n 1, 1) := by decide +kernel
theorem dX7_flue_38 : decode cX7_flue 38 = .ok (.invokevirtual 79, 3) := by decide +kernel
theorem dX7_flue_41 : decode cX7_flue 41 = .ok (.ireturn, 1) := by decide +kernel
theorem dX7_of_0 : decode cX7_of 0 = .ok (.aload_n 0, 1) := by decide +kernel
theorem dX7_of_1 : decode cX7_of 1 = .ok (.getfield 10, 3) := by decide +kernel
theorem dX7_of_4 : decode cX7_of 4 = .ok (.iload_n 1, 1) := by decide +kernel
theorem dX7_of_5 : decode cX7_of 5 = .ok (.invokevirtual 82, 3) := by decide +kernel
theorem dX7_of_8 : decode cX7_of 8 = .ok (.ifCond .ne 10, 3) := by decide +kernel
theorem dX7_of_11 : decode cX7_of 11 = .ok (.aload_n 0, 1) := by decide +kernel
theorem dX7_of_12 : decode cX7_of 12 = .ok (.ldc 69, 2) := by decide +kernel
theorem dX7_of_14 : decode cX7_of 14 = .ok (.invokevirtual 70, 3) := by decide +kernel
theorem dX7_of_17 : decode cX7_of 17 = .ok (.ireturn, 1) := by decide +kernel
theorem dX7_of_18 : decode cX7_of 18 = .ok (.iload_n 2, 1) := by decide +kernel
theorem dX7_of_19 : decode cX7_of 19 = .ok (.tableswitch 88 0 4 #[33, 42, 51, 60, 69], 33) := by decide +kernel
theorem dX7_of_52 : decode cX7_of 52 = .ok (.aload_n 0, 1) := by decide +kernel
theorem dX7_of_53 : decode cX7_of 53 = .ok (.getfield 10, 3) := by decide +kernel
theorem dX7_of_56 : decode cX7_of 56 = .ok (.iload_n 1, 1) := by decide +kernel
theorem dX7_of_57 : decode cX7_of 57 = .ok (.invokevirtual 85, 3) := by decide +kernel
theorem dX7_of_60 : decode cX7_of 60 = .ok (.ireturn, 1) := by decide +kernel
theorem dX7_of_61 : decode cX7_of 61 = .ok (.aload_n 0, 1) := by decide +kernel
theorem dX7_of_62 : decode cX7_of 62 = .ok (.getfield 10, 3) := by decide +kernel
theorem dX7_of_65 : decode cX7_of 65 = .ok (.iload_n 1, 1) := by decide +kernel
theorem dX7_of_66 : decode cX7_of 66 = .ok (.invokevirtual 88, 3) := by decide +kernel
theorem dX7_of_69 : decode cX7_of 69 = .ok (.ireturn, 1) := by decide +kernel
theorem dX7_of_70 : decode cX7_of 70 = .ok (.aload_n 0, 1) := by decide +kernel
theorem dX7_of_71 : decode cX7_of 71 = .ok (.getfield 10, 3) := by decide +kernel
theorem dX7_of_74 : decode cX7_of 74 = .ok (.iload_n 1, 1) := by decide +kernel
theorem dX7_of_75 : decode cX7_of 75 = .ok (.invokevirtual 91, 3) := by decide +kernel
theorem dX7_of_78 : decode cX7_of 78 = .ok (.ireturn, 1) := by decide +kernel
theorem dX7_of_79 : decode cX7_of 79 = .ok (.aload_n 0, 1) := by decide +kernel
theorem dX7_of_80 : decode cX7_of 80 = .ok (.getfield 10, 3) := by decide +kernel
theorem dX7_of_83 : decode cX7_of 83 = .ok (.iload_n 1, 1) := by decide +kernel
theorem dX7_of_84 : decode cX7_of 84 = .ok (.invokevirtual 94, 3) := by decide +kernel
theorem dX7_of_87 : decode cX7_of 87 = .ok (.ireturn, 1) := by decide +kernel
theorem dX7_of_88 : decode cX7_of 88 = .ok (.aload_n 0, 1) := by decide +kernel
theorem dX7_of_89 : decode cX7_of 89 = .ok (.getfield 10, 3) := by decide +kernel
theorem dX7_of_92 : decode cX7_of 92 = .ok (.iload_n 1, 1) := by decide +kernel
theorem dX7_of_93 : decode cX7_of 93 = .ok (.invokevirtual 85, 3) := by decide +kernel
theorem dX7_of_96 : decode cX7_of 96 = .ok (.aload_n 0, 1) := by decide +kernel
theorem dX7_of_97 : decode cX7_of 97 = .ok (.getfield 10, 3) := by decide +kernel
theorem dX7_of_100 : decode cX7_of 100 = .ok (.getfield 97, 3) := by decide +kernel
theorem dX7_of_103 : decode cX7_of 103 = .ok (.invokestatic 100, 3) := by decide +kernel
theorem dX7_of_106 : decode cX7_of 106 = .ok (.ireturn, 1) := by decide +kernel
theorem dX7_of_107 : decode cX7_of 107 = .ok (.aload_n 0, 1) := by decide +kernel
theorem dX7_of_108 : decode cX7_of 108 = .ok (.ldc 69, 2) := by decide +kernel
theorem dX7_of_110 : decode cX7_of 110 = .ok (.invokevirtual 70, 3) := by decide +kernel
theorem dX7_of_113 : decode cX7_of 113 = .ok (.ireturn, 1) := by decide +kernel
theorem dX7_bend_0 : decode cX7_bend 0 = .ok (.aload_n 0, 1) := by decide +kernel
theorem dX7_bend_1 : decode cX7_bend 1 = .ok (.iload_n 1, 1) := by decide +kernel
theorem dX7_bend_2 : decode cX7_bend 2 = .ok (.iload_n 2, 1) := by decide +kernel
theorem dX7_bend_3 : decode cX7_bend 3 = .ok (.invokevirtual 106, 3) := by decide +kernel
theorem dX7_bend_6 : decode cX7_bend 6 = .ok (.ifCond .ne 10, 3) := by decide +kernel
theorem dX7_bend_9 : decode cX7_bend 9 = .ok (.aload_n 0, 1) := by decide +kernel
theorem dX7_bend_10 : decode cX7_bend 10 = .ok (.ldc 69, 2) := by decide +kernel
theorem dX7_bend_12 : decode cX7_bend 12 = .ok (.invokevirtual 70, 3) := by decide +kernel
theorem dX7_bend_15 : decode cX7_bend 15 = .ok (.ireturn, 1) := by decide +kernel
theorem dX7_bend_16 : decode cX7_bend 16 = .ok (.iload_n 3, 1) := by decide +kernel
theorem dX7_bend_17 : decode cX7_bend 17 = .ok (.tableswitch 60 0 2 #[27, 37, 50], 27) := by decide +kernel
theorem dX7_bend_44 : decode cX7_bend 44 = .ok (.aload_n 0, 1) := by decide +kernel
theorem dX7_bend_45 : decode cX7_bend 45 = .ok (.getfield 10, 3) := by decide +kernel
theorem dX7_bend_48 : decode cX7_bend 48 = .ok (.iload_n 1, 1) := by decide +kernel
theorem dX7_bend_49 : decode cX7_bend 49 = .ok (.iload_n 2, 1) := by decide +kernel
theorem dX7_bend_50 : decode cX7_bend 50 = .ok (.invokevirtual 110, 3) := by decide +kernel
theorem dX7_bend_53 : decode cX7_bend 53 = .ok (.ireturn, 1) := by decide +kernel
theorem dX7_bend_54 : decode cX7_bend 54 = .ok (.aload_n 0, 1) := by decide +kernel
theorem dX7_bend_55 : decode cX7_bend 55 = .ok (.getfield 10, 3) := by decide +kernel
theorem dX7_bend_58 : decode cX7_bend 58 = .ok (.iload_n 1, 1) := by decide +kernel
theorem dX7_bend_59 : decode cX7_bend 59 = .ok (.invokevirtual 85, 3) := by decide +kernel
theorem dX7_bend_62 : decode cX7_bend 62 = .ok (.iload_n 2, 1) := by decide +kernel
theorem dX7_bend_63 : decode cX7_bend 63 = .ok (.invokestatic 113, 3) := by decide +kernel
theorem dX7_bend_66 : decode cX7_bend 66 = .ok (.ireturn, 1) := by decide +kernel
theorem dX7_bend_67 : decode cX7_bend 67 = .ok (.aload_n 0, 1) := by decide +kernel
theorem dX7_bend_68 : decode cX7_bend 68 = .ok (.getfield 10, 3) := by decide +kernel
theorem dX7_bend_71 : decode cX7_bend 71 = .ok (.iload_n 1, 1) := by decide +kernel
theorem dX7_bend_72 : decode cX7_bend 72 = .ok (.iload_n 2, 1) := by decide +kernel
theorem dX7_bend_73 : decode cX7_bend 73 = .ok (.invokevirtual 116, 3) := by decide +kernel
theorem dX7_bend_76 : decode cX7_bend 76 = .ok (.ireturn, 1) := by decide +kernel
theorem dX7_bend_77 : decode cX7_bend 77 = .ok (.aload_n 0, 1) := by decide +kernel
theorem dX7_bend_78 : decode cX7_bend 78 = .ok (.ldc 69, 2) := by decide +kernel
theorem dX7_bend_80 : decode cX7_bend 80 = .ok (.invokevirtual 70, 3) := by decide +kernel
theorem dX7_bend_83 : decode cX7_bend 83 = .ok (.ireturn, 1) := by decide +kernel
theorem dX7_layer_0 : decode cX7_layer 0 = .ok (.aload_n 0, 1) := by decide +kernel
theorem dX7_layer_1 : decode cX7_layer 1 = .ok (.iload_n 1, 1) := by decide +kernel
theorem dX7_layer_2 : decode cX7_layer 2 = .ok (.iload_n 2, 1) := by decide +kernel
theorem dX7_layer_3 : decode cX7_layer 3 = .ok (.invokevirtual 106, 3) := by decide +kernel
theorem dX7_layer_6 : decode cX7_layer 6 = .ok (.ifCond .eq 12, 3) := by decide +kernel
theorem dX7_layer_9 : decode cX7_layer 9 = .ok (.iload 4, 2) := by decide +kernel
theorem dX7_layer_11 : decode cX7_layer 11 = .ok (.iconst 2, 1) := by decide +kernel
theorem dX7_layer_12 : decode cX7_layer 12 = .ok (.invokestatic 119, 3) := by decide +kernel
theorem dX7_layer_15 : decode cX7_layer 15 = .ok (.ifCond .ne 10, 3) := by decide +kernel
theorem dX7_layer_18 : decode cX7_layer 18 = .ok (.aload_n 0, 1) := by decide +kernel
theorem dX7_layer_19 : decode cX7_layer 19 = .ok (.ldc 69, 2) := by decide +kernel
theorem dX7_layer_21 : decode cX7_layer 21 = .ok (.invokevirtual 70, 3) := by decide +kernel
theorem dX7_layer_24 : decode cX7_layer 24 = .ok (.ireturn, 1) := by decide +kernel
theorem dX7_layer_25 : decode cX7_layer 25 = .ok (.aload_n 0, 1) := by decide +kernel
theorem dX7_layer_26 : decode cX7_layer 26 = .ok (.getfield 10, 3) := by decide +kernel
theorem dX7_layer_29 : decode cX7_layer 29 = .ok (.iload_n 1, 1) := by decide +kernel
theorem dX7_layer_30 : decode cX7_layer 30 = .ok (.iload_n 2, 1) := by decide +kernel
theorem dX7_layer_31 : decode cX7_layer 31 = .ok (.iload_n 3, 1) := by decide +kernel
theorem dX7_layer_32 : decode cX7_layer 32 = .ok (.invokevirtual 122, 3) := by decide +kernel
theorem dX7_layer_35 : decode cX7_layer 35 = .ok (.ifCond .ne 10, 3) := by decide +kernel
theorem dX7_layer_38 : decode cX7_layer 38 = .ok (.aload_n 0, 1) := by decide +kernel
theorem dX7_layer_39 : decode cX7_layer 39 = .ok (.ldc 126, 2) := by decide +kernel
theorem dX7_layer_41 : decode cX7_layer 41 = .ok (.invokevirtual 70, 3) := by decide +kernel
theorem dX7_layer_44 : decode cX7_layer 44 = .ok (.ireturn, 1) := by decide +kernel
theorem dX7_layer_45 : decode cX7_layer 45 = .ok (.iload 4, 2) := by decide +kernel
theorem dX7_layer_47 : decode cX7_layer 47 = .ok (.ifCond .ne 16, 3) := by decide +kernel
theorem dX7_layer_50 : decode cX7_layer 50 = .ok (.aload_n 0, 1) := by decide +kernel
theorem dX7_layer_51 : decode cX7_layer 51 = .ok (.getfield 10, 3) := by decide +kernel
theorem dX7_layer_54 : decode cX7_layer 54 = .ok (.iload_n 1, 1) := by decide +kernel
theorem dX7_layer_55 : decode cX7_layer 55 = .ok (.iload_n 2, 1) := by decide +kernel
theorem dX7_layer_56 : decode cX7_layer 56 = .ok (.iload_n 3, 1) := by decide +kernel
theorem dX7_layer_57 : decode cX7_layer 57 = .ok (.invokevirtual 127, 3) := by decide +kernel
theorem dX7_layer_60 : decode cX7_layer 60 = .ok (.goto 13, 3) := by decide +kernel
theorem dX7_layer_63 : decode cX7_layer 63 = .ok (.aload_n 0, 1) := by decide +kernel
theorem dX7_layer_64 : decode cX7_layer 64 = .ok (.getfield 10, 3) := by decide +kernel
theorem dX7_layer_67 : decode cX7_layer 67 = .ok (.iload_n 1, 1) := by decide +kernel
theorem dX7_layer_68 : decode cX7_layer 68 = .ok (.iload_n 2, 1) := by decide +kernel
theorem dX7_layer_69 : decode cX7_layer 69 = .ok (.iload_n 3, 1) := by decide +kernel
theorem dX7_layer_70 : decode cX7_layer 70 = .ok (.invokevirtual 131, 3) := by decide +kernel
theorem dX7_layer_73 : decode cX7_layer 73 = .ok (.ireturn, 1) := by decide +kernel
theorem dX7_turn_0 : decode cX7_turn 0 = .ok (.aload_n 0, 1) := by decide +kernel
theorem dX7_turn_1 : decode cX7_turn 1 = .ok (.getfield 10, 3) := by decide +kernel
theorem dX7_turn_4 : decode cX7_turn 4 = .ok (.iload_n 1, 1) := by decide +kernel
theorem dX7_turn_5 : decode cX7_turn 5 = .ok (.invokevirtual 82, 3) := by decide +kernel
theorem dX7_turn_8 : decode cX7_turn 8 = .ok (.ifCond .eq 10, 3) := by decide +kernel
theorem dX7_turn_11 : decode cX7_turn 11 = .ok (.iload_n 2, 1) := by decide +kernel
theorem dX7_turn_12 : decode cX7_turn 12 = .ok (.invokestatic 65, 3) := by decide +kernel
theorem dX7_turn_15 : decode cX7_turn 15 = .ok (.ifCond .ne 10, 3) := by decide +kernel
theorem dX7_turn_18 : decode cX7_turn 18 = .ok (.aload_n 0, 1) := by decide +kernel
theorem dX7_turn_19 : decode cX7_turn 19 = .ok (.ldc 69, 2) := by decide +kernel
theorem dX7_turn_21 : decode cX7_turn 21 = .ok (.invokevirtual 70, 3) := by decide +kernel
theorem dX7_turn_24 : decode cX7_turn 24 = .ok (.ireturn, 1) := by decide +kernel
theorem dX7_turn_25 : decode cX7_turn 25 = .ok (.aload_n 0, 1) := by decide +kernel
theorem dX7_turn_26 : decode cX7_turn 26 = .ok (.getfield 10, 3) := by decide +kernel
theorem dX7_turn_29 : decode cX7_turn 29 = .ok (.iload_n 1, 1) := by decide +kernel
theorem dX7_turn_30 : decode cX7_turn 30 = .ok (.invokevirtual 85, 3) := by decide +kernel
theorem dX7_turn_33 : decode cX7_turn 33 = .ok (.istore_n 3, 1) := by decide +kernel
theorem dX7_turn_34 : decode cX7_turn 34 = .ok (.aload_n 0, 1) := by decide +kernel
theorem dX7_turn_35 : decode cX7_turn 35 = .ok (.getfield 10, 3) := by decide +kernel
theorem dX7_turn_38 : decode cX7_turn 38 = .ok (.iload_n 1, 1) := by decide +kernel
theorem dX7_turn_39 : decode cX7_turn 39 = .ok (.iload_n 2, 1) := by decide +kernel
theorem dX7_turn_40 : decode cX7_turn 40 = .ok (.invokevirtual 134, 3) := by decide +kernel
theorem dX7_turn_43 : decode cX7_turn 43 = .ok (.iload_n 3, 1) := by decide +kernel
theorem dX7_turn_44 : decode cX7_turn 44 = .ok (.ireturn, 1) := by decide +kernel
theorem dX7_as_0 : decode cX7_as 0 = .ok (.aload_n 0, 1) := by decide +kernel
theorem dX7_as_1 : decode cX7_as 1 = .ok (.getfield 10, 3) := by decide +kernel
theorem dX7_as_4 : decode cX7_as 4 = .ok (.iload_n 1, 1) := by decide +kernel
theorem dX7_as_5 : decode cX7_as 5 = .ok (.invokevirtual 82, 3) := by decide +kernel
theorem dX7_as_8 : decode cX7_as 8 = .ok (.ifCond .eq 10, 3) := by decide +kernel
theorem dX7_as_11 : decode cX7_as 11 = .ok (.iload_n 2, 1) := by decide +kernel
theorem dX7_as_12 : decode cX7_as 12 = .ok (.invokestatic 65, 3) := by decide +kernel
theorem dX7_as_15 : decode cX7_as 15 = .ok (.ifCond .ne 10, 3) := by decide +kernel
theorem dX7_as_18 : decode cX7_as 18 = .ok (.aload_n 0, 1) := by decide +kernel
theorem dX7_as_19 : decode cX7_as 19 = .ok (.ldc 69, 2) := by decide +kernel
theorem dX7_as_21 : decode cX7_as 21 = .ok (.invokevirtual 70, 3) := by decide +kernel
theorem dX7_as_24 : decode cX7_as 24 = .ok (.ireturn, 1) := by decide +kernel
theorem dX7_as_25 : decode cX7_as 25 = .ok (.aload_n 0, 1) := by decide +kernel
theorem dX7_as_26 : decode cX7_as 26 = .ok (.getfield 10, 3) := by decide +kernel
theorem dX7_as_29 : decode cX7_as 29 = .ok (.iload_n 1, 1) := by decide +kernel
theorem dX7_as_30 : decode cX7_as 30 = .ok (.invokevirtual 85, 3) := by decide +kernel
theorem dX7_as_33 : decode cX7_as 33 = .ok (.iload_n 2, 1) := by decide +kernel
theorem dX7_as_34 : decode cX7_as 34 = .ok (.invokestatic 138, 3) := by decide +kernel
theorem dX7_as_37 : decode cX7_as 37 = .ok (.ifCond .ne 10, 3) := by decide +kernel
theorem dX7_as_40 : decode cX7_as 40 = .ok (.aload_n 0, 1) := by decide +kernel
theorem dX7_as_41 : decode cX7_as 41 = .ok (.ldc 141, 2) := by decide +kernel
theorem dX7_as_43 : decode cX7_as 43 = .ok (.invokevirtual 70, 3) := by decide +kernel
theorem dX7_as_46 : decode cX7_as 46 = .ok (.ireturn, 1) := by decide +kernel
theorem dX7_as_47 : decode cX7_as 47 = .ok (.aload_n 0, 1) := by decide +kernel
theorem dX7_as_48 : decode cX7_as 48 = .ok (.getfield 10, 3) := by decide +kernel
theorem dX7_as_51 : decode cX7_as 51 = .ok (.iload_n 1, 1) := by decide +kernel
theorem dX7_as_52 : decode cX7_as 52 = .ok (.invokevirtual 88, 3) := by decide +kernel
theorem dX7_as_55 : decode cX7_as 55 = .ok (.ireturn, 1) := by decide +kernel
theorem dX7_damp_0 : decode cX7_damp 0 = .ok (.iload_n 1, 1) := by decide +kernel
theorem dX7_damp_1 : decode cX7_damp 1 = .ok (.bipush 10, 2) := by decide +kernel
theorem dX7_damp_3 : decode cX7_damp 3 = .ok (.invokestatic 119, 3) := by decide +kernel
theorem dX7_damp_6 : decode cX7_damp 6 = .ok (.ifCond .ne 10, 3) := by decide +kernel
theorem dX7_damp_9 : decode cX7_damp 9 = .ok (.aload_n 0, 1) := by decide +kernel
theorem dX7_damp_10 : decode cX7_damp 10 = .ok (.ldc 69, 2) := by decide +kernel
theorem dX7_damp_12 : decode cX7_damp 12 = .ok (.invokevirtual 70, 3) := by decide +kernel
theorem dX7_damp_15 : decode cX7_damp 15 = .ok (.ireturn, 1) := by decide +kernel
theorem dX7_damp_16 : decode cX7_damp 16 = .ok (.aload_n 0, 1) := by decide +kernel
theorem dX7_damp_17 : decode cX7_damp 17 = .ok (.getfield 10, 3) := by decide +kernel
theorem dX7_damp_20 : decode cX7_damp 20 = .ok (.getfield 97, 3) := by decide +kernel
theorem dX7_damp_23 : decode cX7_damp 23 = .ok (.istore_n 2, 1) := by decide +kernel
theorem dX7_damp_24 : decode cX7_damp 24 = .ok (.aload_n 0, 1) := by decide +kernel
theorem dX7_damp_25 : decode cX7_damp 25 = .ok (.getfield 10, 3) := by decide +kernel
theorem dX7_damp_28 : decode cX7_damp 28 = .ok (.iload_n 1, 1) := by decide +kernel
theorem dX7_damp_29 : decode cX7_damp 29 = .ok (.putfield 97, 3) := by decide +kernel
theorem dX7_damp_32 : decode cX7_damp 32 = .ok (.iload_n 2, 1) := by decide +kernel
theorem dX7_damp_33 : decode cX7_damp 33 = .ok (.ireturn, 1) := by decide +kernel
theorem dX7_rises_0 : decode cX7_rises 0 = .ok (.aload_n 0, 1) := by decide +kernel
theorem dX7_rises_1 : decode cX7_rises 1 = .ok (.getfield 10, 3) := by decide +kernel
theorem dX7_rises_4 : decode cX7_rises 4 = .ok (.iload_n 1, 1) := by decide +kernel
theorem dX7_rises_5 : decode cX7_rises 5 = .ok (.invokevirtual 82, 3) := by decide +kernel
theorem dX7_rises_8 : decode cX7_rises 8 = .ok (.ifCond .eq 17, 3) := by decide +kernel
theorem dX7_rises_11 : decode cX7_rises 11 = .ok (.iload_n 2, 1) := by decide +kernel
theorem dX7_rises_12 : decode cX7_rises 12 = .ok (.invokestatic 142, 3) := by decide +kernel
theorem dX7_rises_15 : decode cX7_rises 15 = .ok (.ifCond .eq 10, 3) := by decide +kernel
theorem dX7_rises_18 : decode cX7_rises 18 = .ok (.iload_n 3, 1) := by decide +kernel
theorem dX7_rises_19 : decode cX7_rises 19 = .ok (.invokestatic 145, 3) := by decide +kernel
theorem dX7_rises_22 : decode cX7_rises 22 = .ok (.ifCond .ne 10, 3) := by decide +kernel
theorem dX7_rises_25 : decode cX7_rises 25 = .ok (.aload_n 0, 1) := by decide +kernel
theorem dX7_rises_26 : decode cX7_rises 26 = .ok (.ldc 69, 2) := by decide +kernel
theorem dX7_rises_28 : decode cX7_rises 28 = .ok (.invokevirtual 70, 3) := by decide +kernel
theorem dX7_rises_31 : decode cX7_rises 31 = .ok (.ireturn, 1) := by decide +kernel
theorem dX7_rises_32 : decode cX7_rises 32 = .ok (.aload_n 0, 1) := by decide +kernel
theorem dX7_rises_33 : decode cX7_rises 33 = .ok (.getfield 10, 3) := by decide +kernel
theorem dX7_rises_36 : decode cX7_rises 36 = .ok (.iload_n 1, 1) := by decide +kernel
theorem dX7_rises_37 : decode cX7_rises 37 = .ok (.invokevirtual 85, 3) := by decide +kernel
theorem dX7_rises_40 : decode cX7_rises 40 = .ok (.iload_n 2, 1) := by decide +kernel
theorem dX7_rises_41 : decode cX7_rises 41 = .ok (.iload_n 3, 1) := by decide +kernel
theorem dX7_rises_42 : decode cX7_rises 42 = .ok (.aload_n 0, 1) := by decide +kernel
theorem dX7_rises_43 : decode cX7_rises 43 = .ok (.getfield 10, 3) := by decide +kernel
theorem dX7_rises_46 : decode cX7_rises 46 = .ok (.getfield 148, 3) := by decide +kernel
theorem dX7_rises_49 : decode cX7_rises 49 = .ok (.invokestatic 151, 3) := by decide +kernel
theorem dX7_rises_52 : decode cX7_rises 52 = .ok (.istore 4, 2) := by decide +kernel
theorem dX7_rises_54 : decode cX7_rises 54 = .ok (.iload 4, 2) := by decide +kernel
theorem dX7_rises_56 : decode cX7_rises 56 = .ok (.iconst (-1), 1) := by decide +kernel
theorem dX7_rises_57 : decode cX7_rises 57 = .ok (.if_icmp .ne 12, 3) := by decide +kernel
theorem dX7_rises_60 : decode cX7_rises 60 = .ok (.aload_n 0, 1) := by decide +kernel
theorem dX7_rises_61 : decode cX7_rises 61 = .ok (.ldc 126, 2) := by decide +kernel
theorem dX7_rises_63 : decode cX7_rises 63 = .ok (.invokevirtual 70, 3) := by decide +kernel
theorem dX7_rises_66 : decode cX7_rises 66 = .ok (.goto 5, 3) := by decide +kernel
theorem dX7_rises_69 : decode cX7_rises 69 = .ok (.iload 4, 2) := by decide +kernel
theorem dX7_rises_71 : decode cX7_rises 71 = .ok (.ireturn, 1) := by decide +kernel
theorem dX7_say_0 : decode cX7_say 0 = .ok (.aload_n 0, 1) := by decide +kernel
theorem dX7_say_1 : decode cX7_say 1 = .ok (.getfield 10, 3) := by decide +kernel
theorem dX7_say_4 : decode cX7_say 4 = .ok (.iload_n 1, 1) := by decide +kernel
theorem dX7_say_5 : decode cX7_say 5 = .ok (.invokevirtual 82, 3) := by decide +kernel
theorem dX7_say_8 : decode cX7_say 8 = .ok (.ifCond .eq 17, 3) := by decide +kernel
theorem dX7_say_11 : decode cX7_say 11 = .ok (.iload_n 2, 1) := by decide +kernel
theorem dX7_say_12 : decode cX7_say 12 = .ok (.invokestatic 142, 3) := by decide +kernel
theorem dX7_say_15 : decode cX7_say 15 = .ok (.ifCond .eq 10, 3) := by decide +kernel
theorem dX7_say_18 : decode cX7_say 18 = .ok (.iload_n 3, 1) := by decide +kernel
theorem dX7_say_19 : decode cX7_say 19 = .ok (.invokestatic 145, 3) := by decide +kernel
theorem dX7_say_22 : decode cX7_say 22 = .ok (.ifCond .ne 10, 3) := by decide +kernel
theorem dX7_say_25 : decode cX7_say 25 = .ok (.aload_n 0, 1) := by decide +kernel
theorem dX7_say_26 : decode cX7_say 26 = .ok (.ldc 69, 2) := by decide +kernel
theorem dX7_say_28 : decode cX7_say 28 = .ok (.invokevirtual 70, 3) := by decide +kernel
theorem dX7_say_31 : decode cX7_say 31 = .ok (.ireturn, 1) := by decide +kernel
theorem dX7_say_32 : decode cX7_say 32 = .ok (.aload_n 0, 1) := by decide +kernel
theorem dX7_say_33 : decode cX7_say 33 = .ok (.getfield 10, 3) := by decide +kernel
theorem dX7_say_36 : decode cX7_say 36 = .ok (.iload_n 1, 1) := by decide +kernel
theorem dX7_say_37 : decode cX7_say 37 = .ok (.iload_n 2, 1) := by decide +kernel
theorem dX7_say_38 : decode cX7_say 38 = .ok (.iload_n 3, 1) := by decide +kernel
theorem dX7_say_39 : decode cX7_say 39 = .ok (.invokevirtual 155, 3) := by decide +kernel
theorem dX7_say_42 : decode cX7_say 42 = .ok (.ireturn, 1) := by decide +kernel
theorem dX7_cake_0 : decode cX7_cake 0 = .ok (.aload_n 0, 1) := by decide +kernel
theorem dX7_cake_1 : decode cX7_cake 1 = .ok (.iload_n 1, 1) := by decide +kernel
theorem dX7_cake_2 : decode cX7_cake 2 = .ok (.iload_n 2, 1) := by decide +kernel
theorem dX7_cake_3 : decode cX7_cake 3 = .ok (.invokevirtual 106, 3) := by decide +kernel
theorem dX7_cake_6 : decode cX7_cake 6 = .ok (.ifCond .eq 13, 3) := by decide +kernel
theorem dX7_cake_9 : decode cX7_cake 9 = .ok (.iload 4, 2) := by decide +kernel
theorem dX7_cake_11 : decode cX7_cake 11 = .ok (.bipush 10, 2) := by decide +kernel
theorem dX7_cake_13 : decode cX7_cake 13 = .ok (.invokestatic 119, 3) := by decide +kernel
theorem dX7_cake_16 : decode cX7_cake 16 = .ok (.ifCond .ne 10, 3) := by decide +kernel
theorem dX7_cake_19 : decode cX7_cake 19 = .ok (.aload_n 0, 1) := by decide +kernel
theorem dX7_cake_20 : decode cX7_cake 20 = .ok (.ldc 69, 2) := by decide +kernel
theorem dX7_cake_22 : decode cX7_cake 22 = .ok (.invokevirtual 70, 3) := by decide +kernel
theorem dX7_cake_25 : decode cX7_cake 25 = .ok (.ireturn, 1) := by decide +kernel
theorem dX7_cake_26 : decode cX7_cake 26 = .ok (.aload_n 0, 1) := by decide +kernel
theorem dX7_cake_27 : decode cX7_cake 27 = .ok (.getfield 10, 3) := by decide +kernel
theorem dX7_cake_30 : decode cX7_cake 30 = .ok (.iload_n 1, 1) := by decide +kernel
theorem dX7_cake_31 : decode cX7_cake 31 = .ok (.iload_n 2, 1) := by decide +kernel
theorem dX7_cake_32 : decode cX7_cake 32 = .ok (.iload_n 3, 1) := by decide +kernel
theorem dX7_cake_33 : decode cX7_cake 33 = .ok (.invokevirtual 122, 3) := by decide +kernel
theorem dX7_cake_36 : decode cX7_cake 36 = .ok (.ifCond .ne 10, 3) := by decide +kernel
theorem dX7_cake_39 : decode cX7_cake 39 = .ok (.aload_n 0, 1) := by decide +kernel
theorem dX7_cake_40 : decode cX7_cake 40 = .ok (.ldc 126, 2) := by decide +kernel
theorem dX7_cake_42 : decode cX7_cake 42 = .ok (.invokevirtual 70, 3) := by decide +kernel
theorem dX7_cake_45 : decode cX7_cake 45 = .ok (.ireturn, 1) := by decide +kernel
theorem dX7_cake_46 : decode cX7_cake 46 = .ok (.aload_n 0, 1) := by decide +kernel
theorem dX7_cake_47 : decode cX7_cake 47 = .ok (.getfield 10, 3) := by decide +kernel
theorem dX7_cake_50 : decode cX7_cake 50 = .ok (.iload_n 1, 1) := by decide +kernel
theorem dX7_cake_51 : decode cX7_cake 51 = .ok (.iload_n 2, 1) := by decide +kernel
theorem dX7_cake_52 : decode cX7_cake 52 = .ok (.iload_n 3, 1) := by decide +kernel
theorem dX7_cake_53 : decode cX7_cake 53 = .ok (.invokevirtual 131, 3) := by decide +kernel
theorem dX7_cake_56 : decode cX7_cake 56 = .ok (.istore 5, 2) := by decide +kernel
theorem dX7_cake_58 : decode cX7_cake 58 = .ok (.aload_n 0, 1) := by decide +kernel
theorem dX7_cake_59 : decode cX7_cake 59 = .ok (.getfield 10, 3) := by decide +kernel
theorem dX7_cake_62 : decode cX7_cake 62 = .ok (.iload_n 1, 1) := by decide +kernel
theorem dX7_cake_63 : decode cX7_cake 63 = .ok (.iload_n 2, 1) := by decide +kernel
theorem dX7_cake_64 : decode cX7_cake 64 = .ok (.iload_n 3, 1) := by decide +kernel
theorem dX7_cake_65 : decode cX7_cake 65 = .ok (.iload 4, 2) := by decide +kernel
theorem dX7_cake_67 : decode cX7_cake 67 = .ok (.invokevirtual 158, 3) := by decide +kernel
theorem dX7_cake_70 : decode cX7_cake 70 = .ok (.iload 5, 2) := by decide +kernel
theorem dX7_cake_72 : decode cX7_cake 72 = .ok (.ireturn, 1) := by decide +kernel
theorem dX7_days_0 : decode cX7_days 0 = .ok (.iload_n 1, 1) := by decide +kernel
theorem dX7_days_1 : decode cX7_days 1 = .ok (.iconst 1, 1) := by decide +kernel
theorem dX7_days_2 : decode cX7_days 2 = .ok (.if_icmp .lt 9, 3) := by decide +kernel
theorem dX7_days_5 : decode cX7_days 5 = .ok (.iload_n 1, 1) := by decide +kernel
theorem dX7_days_6 : decode cX7_days 6 = .ok (.bipush 60, 2) := by decide +kernel
theorem dX7_days_8 : decode cX7_days 8 = .ok (.if_icmp .le 10, 3) := by decide +kernel
theorem dX7_days_11 : decode cX7_days 11 = .ok (.aload_n 0, 1) := by decide +kernel
theorem dX7_days_12 : decode cX7_days 12 = .ok (.ldc 69, 2) := by decide +kernel
theorem dX7_days_14 : decode cX7_days 14 = .ok (.invokevirtual 70, 3) := by decide +kernel
theorem dX7_days_17 : decode cX7_days 17 = .ok (.ireturn, 1) := by decide +kernel
theorem dX7_days_18 : decode cX7_days 18 = .ok (.aload_n 0, 1) := by decide +kernel
theorem dX7_days_19 : decode cX7_days 19 = .ok (.getfield 10, 3) := by decide +kernel
theorem dX7_days_22 : decode cX7_days 22 = .ok (.getfield 148, 3) := by decide +kernel
theorem dX7_days_25 : decode cX7_days 25 = .ok (.iload_n 1, 1) := by decide +kernel
theorem dX7_days_26 : decode cX7_days 26 = .ok (.iadd, 1) := by decide +kernel
theorem dX7_days_27 : decode cX7_days 27 = .ok (.sipush 9999, 3) := by decide +kernel
theorem dX7_days_30 : decode cX7_days 30 = .ok (.if_icmp .le 10, 3) := by decide +kernel
theorem dX7_days_33 : decode cX7_days 33 = .ok (.aload_n 0, 1) := by decide +kernel
theorem dX7_days_34 : decode cX7_days 34 = .ok (.ldc 162, 2) := by decide +kernel
theorem dX7_days_36 : decode cX7_days 36 = .ok (.invokevirtual 70, 3) := by decide +kernel
theorem dX7_days_39 : decode cX7_days 39 = .ok (.ireturn, 1) := by decide +kernel
theorem dX7_days_40 : decode cX7_days 40 = .ok (.aload_n 0, 1) := by decide +kernel
theorem dX7_days_41 : decode cX7_days 41 = .ok (.getfield 10, 3) := by decide +kernel
theorem dX7_days_44 : decode cX7_days 44 = .ok (.iload_n 1, 1) := by decide +kernel
theorem dX7_days_45 : decode cX7_days 45 = .ok (.invokevirtual 163, 3) := by decide +kernel
theorem dX7_days_48 : decode cX7_days 48 = .ok (.aload_n 0, 1) := by decide +kernel
theorem dX7_days_49 : decode cX7_days 49 = .ok (.getfield 10, 3) := by decide +kernel
theorem dX7_days_52 : decode cX7_days 52 = .ok (.bipush 9, 2) := by decide +kernel
theorem dX7_days_54 : decode cX7_days 54 = .ok (.invokevirtual 167, 3) := by decide +kernel
theorem dX7_days_57 : decode cX7_days 57 = .ok (.ireturn, 1) := by decide +kernel
theorem dX7_now_0 : decode cX7_now 0 = .ok (.iload_n 1, 1) := by decide +kernel
theorem dX7_now_1 : decode cX7_now 1 = .ok (.tableswitch 75 0 4 #[35, 43, 51, 59, 67], 35) := by decide +kernel
theorem dX7_now_36 : decode cX7_now 36 = .ok (.aload_n 0, 1) := by decide +kernel
theorem dX7_now_37 : decode cX7_now 37 = .ok (.getfield 10, 3) := by decide +kernel
theorem dX7_now_40 : decode cX7_now 40 = .ok (.getfield 148, 3) := by decide +kernel
theorem dX7_now_43 : decode cX7_now 43 = .ok (.ireturn, 1) := by decide +kernel
theorem dX7_now_44 : decode cX7_now 44 = .ok (.aload_n 0, 1) := by decide +kernel
theorem dX7_now_45 : decode cX7_now 45 = .ok (.getfield 10, 3) := by decide +kernel
theorem dX7_now_48 : decode cX7_now 48 = .ok (.getfield 97, 3) := by decide +kernel
theorem dX7_now_51 : decode cX7_now 51 = .ok (.ireturn, 1) := by decide +kernel
theorem dX7_now_52 : decode cX7_now 52 = .ok (.aload_n 0, 1) := by decide +kernel
theorem dX7_now_53 : decode cX7_now 53 = .ok (.getfield 10, 3) := by decide +kernel
theorem dX7_now_56 : decode cX7_now 56 = .ok (.invokevirtual 170, 3) := by decide +kernel
theorem dX7_now_59 : decode cX7_now 59 = .ok (.ireturn, 1) := by decide +kernel
theorem dX7_now_60 : decode cX7_now 60 = .ok (.aload_n 0, 1) := by decide +kernel
theorem dX7_now_61 : decode cX7_now 61 = .ok (.getfield 10, 3) := by decide +kernel
theorem dX7_now_64 : decode cX7_now 64 = .ok (.invokevirtual 174, 3) := by decide +kernel
theorem dX7_now_67 : decode cX7_now 67 = .ok (.ireturn, 1) := by decide +kernel
theorem dX7_now_68 : decode cX7_now 68 = .ok (.aload_n 0, 1) := by decide +kernel
theorem dX7_now_69 : decode cX7_now 69 = .ok (.getfield 10, 3) := by decide +kernel
theorem dX7_now_72 : decode cX7_now 72 = .ok (.invokevirtual 177, 3) := by decide +kernel
theorem dX7_now_75 : decode cX7_now 75 = .ok (.ireturn, 1) := by decide +kernel
theorem dX7_now_76 : decode cX7_now 76 = .ok (.aload_n 0, 1) := by decide +kernel
theorem dX7_now_77 : decode cX7_now 77 = .ok (.ldc 69, 2) := by decide +kernel
theorem dX7_now_79 : decode cX7_now 79 = .ok (.invokevirtual 70, 3) := by decide +kernel
theorem dX7_now_82 : decode cX7_now 82 = .ok (.ireturn, 1) := by decide +kernel
theorem dX7_sweep_0 : decode cX7_sweep 0 = .ok (.aload_n 0, 1) := by decide +kernel
theorem dX7_sweep_1 : decode cX7_sweep 1 = .ok (.iload_n 1, 1) := by decide +kernel
theorem dX7_sweep_2 : decode cX7_sweep 2 = .ok (.iload_n 2, 1) := by decide +kernel
theorem dX7_sweep_3 : decode cX7_sweep 3 = .ok (.invokevirtual 106, 3) := by decide +kernel
theorem dX7_sweep_6 : decode cX7_sweep 6 = .ok (.ifCond .eq 10, 3) := by decide +kernel
theorem dX7_sweep_9 : decode cX7_sweep 9 = .ok (.iload_n 3, 1) := by decide +kernel
theorem dX7_sweep_10 : decode cX7_sweep 10 = .ok (.invokestatic 180, 3) := by decide +kernel
theorem dX7_sweep_13 : decode cX7_sweep 13 = .ok (.ifCond .ne 10, 3) := by decide +kernel
theorem dX7_sweep_16 : decode cX7_sweep 16 = .ok (.aload_n 0, 1) := by decide +kernel
theorem dX7_sweep_17 : decode cX7_sweep 17 = .ok (.ldc 69, 2) := by decide +kernel
theorem dX7_sweep_19 : decode cX7_sweep 19 = .ok (.invokevirtual 70, 3) := by decide +kernel
theorem dX7_sweep_22 : decode cX7_sweep 22 = .ok (.ireturn, 1) := by decide +kernel
theorem dX7_sweep_23 : decode cX7_sweep 23 = .ok (.aload_n 0, 1) := by decide +kernel
theorem dX7_sweep_24 : decode cX7_sweep 24 = .ok (.getfield 10, 3) := by decide +kernel
theorem dX7_sweep_27 : decode cX7_sweep 27 = .ok (.iload_n 1, 1) := by decide +kernel
theorem dX7_sweep_28 : decode cX7_sweep 28 = .ok (.iload_n 2, 1) := by decide +kernel
theorem dX7_sweep_29 : decode cX7_sweep 29 = .ok (.iload_n 3, 1) := by decide +kernel
theorem dX7_sweep_30 : decode cX7_sweep 30 = .ok (.invokevirtual 183, 3) := by decide +kernel
theorem dX7_sweep_33 : decode cX7_sweep 33 = .ok (.ireturn, 1) := by decide +kernel
theorem dX7_brought_0 : decode cX7_brought 0 = .ok (.aload_n 0, 1) := by decide +kernel
theorem dX7_brought_1 : decode cX7_brought 1 = .ok (.iload_n 1, 1) := by decide +kernel
theorem dX7_brought_2 : decode cX7_brought 2 = .ok (.iload_n 2, 1) := by decide +kernel
theorem dX7_brought_3 : decode cX7_brought 3 = .ok (.invokevirtual 106, 3) := by decide +kernel
theorem dX7_brought_6 : decode cX7_brought 6 = .ok (.ifCond .eq 10, 3) := by decide +kernel
theorem dX7_brought_9 : decode cX7_brought 9 = .ok (.iload_n 3, 1) := by decide +kernel
theorem dX7_brought_10 : decode cX7_brought 10 = .ok (.invokestatic 180, 3) := by decide +kernel
theorem dX7_brought_13 : decode cX7_brought 13 = .ok (.ifCond .ne 10, 3) := by decide +kernel
theorem dX7_brought_16 : decode cX7_brought 16 = .ok (.aload_n 0, 1) := by decide +kernel
theorem dX7_brought_17 : decode cX7_brought 17 = .ok (.ldc 69, 2) := by decide +kernel
theorem dX7_brought_19 : decode cX7_brought 19 = .ok (.invokevirtual 70, 3) := by decide +kernel
theorem dX7_brought_22 : decode cX7_brought 22 = .ok (.ireturn, 1) := by decide +kernel
theorem dX7_brought_23 : decode cX7_brought 23 = .ok (.aload_n 0, 1) := by decide +kernel
theorem dX7_brought_24 : decode cX7_brought 24 = .ok (.getfield 26, 3) := by decide +kernel
theorem dX7_brought_27 : decode cX7_brought 27 = .ok (.aload_n 0, 1) := by decide +kernel
theorem dX7_brought_28 : decode cX7_brought 28 = .ok (.getfield 10, 3) := by decide +kernel
theorem dX7_brought_31 : decode cX7_brought 31 = .ok (.iload_n 1, 1) := by decide +kernel
theorem dX7_brought_32 : decode cX7_brought 32 = .ok (.iload_n 2, 1) := by decide +kernel
theorem dX7_brought_33 : decode cX7_brought 33 = .ok (.iload_n 3, 1) := by decide +kernel
theorem dX7_brought_34 : decode cX7_brought 34 = .ok (.iconst 0, 1) := by decide +kernel
theorem dX7_brought_35 : decode cX7_brought 35 = .ok (.invokevirtual 186, 3) := by decide +kernel
theorem dX7_brought_38 : decode cX7_brought 38 = .ok (.aload_n 0, 1) := by decide +kernel
theorem dX7_brought_39 : decode cX7_brought 39 = .ok (.getfield 26, 3) := by decide +kernel
theorem dX7_brought_42 : decode cX7_brought 42 = .ok (.getfield 190, 3) := by decide +kernel
theorem dX7_brought_45 : decode cX7_brought 45 = .ok (.ireturn, 1) := by decide +kernel
theorem dX7_order_0 : decode cX7_order 0 = .ok (.aload_n 0, 1) := by decide +kernel
theorem dX7_order_1 : decode cX7_order 1 = .ok (.iload_n 1, 1) := by decide +kernel
theorem dX7_order_2 : decode cX7_order 2 = .ok (.iload_n 2, 1) := by decide +kernel
theorem dX7_order_3 : decode cX7_order 3 = .ok (.invokevirtual 106, 3) := by decide +kernel
theorem dX7_order_6 : decode cX7_order 6 = .ok (.ifCond .eq 15, 3) := by decide +kernel
theorem dX7_order_9 : decode cX7_order 9 = .ok (.iload_n 3, 1) := by decide +kernel
theorem dX7_order_10 : decode cX7_order 10 = .ok (.invokestatic 180, 3) := by decide +kernel
theorem dX7_order_13 : decode cX7_order 13 = .ok (.ifCond .eq 8, 3) := by decide +kernel
theorem dX7_order_16 : decode cX7_order 16 = .ok (.iload 4, 2) := by decide +kernel
theorem dX7_order_18 : decode cX7_order 18 = .ok (.ifCond .ge 10, 3) := by decide +kernel
theorem dX7_order_21 : decode cX7_order 21 = .ok (.aload_n 0, 1) := by decide +kernel
theorem dX7_order_22 : decode cX7_order 22 = .ok (.ldc 69, 2) := by decide +kernel
theorem dX7_order_24 : decode cX7_order 24 = .ok (.invokevirtual 70, 3) := by decide +kernel
theorem dX7_order_27 : decode cX7_order 27 = .ok (.ireturn, 1) := by decide +kernel
theorem dX7_order_28 : decode cX7_order 28 = .ok (.aload_n 0, 1) := by decide +kernel
theorem dX7_order_29 : decode cX7_order 29 = .ok (.getfield 26, 3) := by decide +kernel
theorem dX7_order_32 : decode cX7_order 32 = .ok (.aload_n 0, 1) := by decide +kernel
theorem dX7_order_33 : decode cX7_order 33 = .ok (.getfield 10, 3) := by decide +kernel
theorem dX7_order_36 : decode cX7_order 36 = .ok (.iload_n 1, 1) := by decide +kernel
theorem dX7_order_37 : decode cX7_order 37 = .ok (.iload_n 2, 1) := by decide +kernel
theorem dX7_order_38 : decode cX7_order 38 = .ok (.iload_n 3, 1) := by decide +kernel
theorem dX7_order_39 : decode cX7_order 39 = .ok (.iconst 0, 1) := by decide +kernel
theorem dX7_order_40 : decode cX7_order 40 = .ok (.invokevirtual 186, 3) := by decide +kernel
theorem dX7_order_43 : decode cX7_order 43 = .ok (.iload 4, 2) := by decide +kernel
theorem dX7_order_45 : decode cX7_order 45 = .ok (.aload_n 0, 1) := by decide +kernel
theorem dX7_order_46 : decode cX7_order 46 = .ok (.getfield 26, 3) := by decide +kernel
theorem dX7_order_49 : decode cX7_order 49 = .ok (.getfield 193, 3) := by decide +kernel
theorem dX7_order_52 : decode cX7_order 52 = .ok (.if_icmp .ge 15, 3) := by decide +kernel
theorem dX7_order_55 : decode cX7_order 55 = .ok (.aload_n 0, 1) := by decide +kernel
theorem dX7_order_56 : decode cX7_order 56 = .ok (.getfield 26, 3) := by decide +kernel
theorem dX7_order_59 : decode cX7_order 59 = .ok (.iload 4, 2) := by decide +kernel
theorem dX7_order_61 : decode cX7_order 61 = .ok (.invokevirtual 196, 3) := by decide +kernel
theorem dX7_order_64 : decode cX7_order 64 = .ok (.goto 9, 3) := by decide +kernel
theorem dX7_order_67 : decode cX7_order 67 = .ok (.aload_n 0, 1) := by decide +kernel
theorem dX7_order_68 : decode cX7_order 68 = .ok (.ldc 126, 2) := by decide +kernel
theorem dX7_order_70 : decode cX7_order 70 = .ok (.invokevirtual 70, 3) := by decide +kernel
theorem dX7_order_73 : decode cX7_order 73 = .ok (.ireturn, 1) := by decide +kernel
theorem dX7_on_0 : decode cX7_on 0 = .ok (.aload_n 0, 1) := by decide +kernel
theorem dX7_on_1 : decode cX7_on 1 = .ok (.iload_n 1, 1) := by decide +kernel
theorem dX7_on_2 : decode cX7_on 2 = .ok (.iload_n 2, 1) := by decide +kernel
theorem dX7_on_3 : decode cX7_on 3 = .ok (.invokevirtual 106, 3) := by decide +kernel
theorem dX7_on_6 : decode cX7_on 6 = .ok (.ifCond .eq 20, 3) := by decide +kernel
theorem dX7_on_9 : decode cX7_on 9 = .ok (.iload_n 3, 1) := by decide +kernel
theorem dX7_on_10 : decode cX7_on 10 = .ok (.invokestatic 180, 3) := by decide +kernel
theorem dX7_on_13 : decode cX7_on 13 = .ok (.ifCond .eq 13, 3) := by decide +kernel
theorem dX7_on_16 : decode cX7_on 16 = .ok (.iload 4, 2) := by decide +kernel
theorem dX7_on_18 : decode cX7_on 18 = .ok (.bipush 61, 2) := by decide +kernel
theorem dX7_on_20 : decode cX7_on 20 = .ok (.invokestatic 119, 3) := by decide +kernel
theorem dX7_on_23 : decode cX7_on 23 = .ok (.ifCond .ne 10, 3) := by decide +kernel
theorem dX7_on_26 : decode cX7_on 26 = .ok (.aload_n 0, 1) := by decide +kernel
theorem dX7_on_27 : decode cX7_on 27 = .ok (.ldc 69, 2) := by decide +kernel
theorem dX7_on_29 : decode cX7_on 29 = .ok (.invokevirtual 70, 3) := by decide +kernel
theorem dX7_on_32 : decode cX7_on 32 = .ok (.ireturn, 1) := by decide +kernel
theorem dX7_on_33 : decode cX7_on 33 = .ok (.aload_n 0, 1) := by decide +kernel
theorem dX7_on_34 : decode cX7_on 34 = .ok (.getfield 26, 3) := by decide +kernel
theorem dX7_on_37 : decode cX7_on 37 = .ok (.aload_n 0, 1) := by decide +kernel
theorem dX7_on_38 : decode cX7_on 38 = .ok (.getfield 10, 3) := by decide +kernel
theorem dX7_on_41 : decode cX7_on 41 = .ok (.iload_n 1, 1) := by decide +kernel
theorem dX7_on_42 : decode cX7_on 42 = .ok (.iload_n 2, 1) := by decide +kernel
theorem dX7_on_43 : decode cX7_on 43 = .ok (.iload_n 3, 1) := by decide +kernel
theorem dX7_on_44 : decode cX7_on 44 = .ok (.iload 4, 2) := by decide +kernel
theorem dX7_on_46 : decode cX7_on 46 = .ok (.invokevirtual 186, 3) := by decide +kernel
theorem dX7_on_49 : decode cX7_on 49 = .ok (.aload_n 0, 1) := by decide +kernel
theorem dX7_on_50 : decode cX7_on 50 = .ok (.getfield 26, 3) := by decide +kernel
theorem dX7_on_53 : decode cX7_on 53 = .ok (.getfield 193, 3) := by decide +kernel
theorem dX7_on_56 : decode cX7_on 56 = .ok (.ireturn, 1) := by decide +kernel
theorem dX7_reach_0 : decode cX7_reach 0 = .ok (.aload_n 0, 1) := by decide +kernel
theorem dX7_reach_1 : decode cX7_reach 1 = .ok (.getfield 10, 3) := by decide +kernel
theorem dX7_reach_4 : decode cX7_reach 4 = .ok (.iload_n 1, 1) := by decide +kernel
theorem dX7_reach_5 : decode cX7_reach 5 = .ok (.invokevirtual 82, 3) := by decide +kernel
theorem dX7_reach_8 : decode cX7_reach 8 = .ok (.ifCond .eq 17, 3) := by decide +kernel
theorem dX7_reach_11 : decode cX7_reach 11 = .ok (.iload_n 2, 1) := by decide +kernel
theorem dX7_reach_12 : decode cX7_reach 12 = .ok (.invokestatic 199, 3) := by decide +kernel
theorem dX7_reach_15 : decode cX7_reach 15 = .ok (.ifCond .eq 10, 3) := by decide +kernel
theorem dX7_reach_18 : decode cX7_reach 18 = .ok (.iload_n 3, 1) := by decide +kernel
theorem dX7_reach_19 : decode cX7_reach 19 = .ok (.invokestatic 180, 3) := by decide +kernel
theorem dX7_reach_22 : decode cX7_reach 22 = .ok (.ifCond .ne 10, 3) := by decide +kernel
theorem dX7_reach_25 : decode cX7_reach 25 = .ok (.aload_n 0, 1) := by decide +kernel
theorem dX7_reach_26 : decode cX7_reach 26 = .ok (.ldc 69, 2) := by decide +kernel
theorem dX7_reach_28 : decode cX7_reach 28 = .ok (.invokevirtual 70, 3) := by decide +kernel
theorem dX7_reach_31 : decode cX7_reach 31 = .ok (.ireturn, 1) := by decide +kernel
theorem dX7_reach_32 : decode cX7_reach 32 = .ok (.iconst 0, 1) := by decide +kernel
theorem dX7_reach_33 : decode cX7_reach 33 = .ok (.istore 4, 2) := by decide +kernel
theorem dX7_reach_35 : decode cX7_reach 35 = .ok (.iload 4, 2) := by decide +kernel
theorem dX7_reach_37 : decode cX7_reach 37 = .ok (.bipush 8, 2) := by decide +kernel
theorem dX7_reach_39 : decode cX7_reach 39 = .ok (.if_icmp .ge 39, 3) := by decide +kernel
theorem dX7_reach_42 : decode cX7_reach 42 = .ok (.aload_n 0, 1) := by decide +kernel
theorem dX7_reach_43 : decode cX7_reach 43 = .ok (.getfield 26, 3) := by decide +kernel
theorem dX7_reach_46 : decode cX7_reach 46 = .ok (.aload_n 0, 1) := by decide +kernel
theorem dX7_reach_47 : decode cX7_reach 47 = .ok (.getfield 10, 3) := by decide +kernel
theorem dX7_reach_50 : decode cX7_reach 50 = .ok (.iload_n 1, 1) := by decide +kernel
theorem dX7_reach_51 : decode cX7_reach 51 = .ok (.iload 4, 2) := by decide +kernel
theorem dX7_reach_53 : decode cX7_reach 53 = .ok (.iload_n 3, 1) := by decide +kernel
theorem dX7_reach_54 : decode cX7_reach 54 = .ok (.iconst 0, 1) := by decide +kernel
theorem dX7_reach_55 : decode cX7_reach 55 = .ok (.invokevirtual 186, 3) := by decide +kernel
theorem dX7_reach_58 : decode cX7_reach 58 = .ok (.aload_n 0, 1) := by decide +kernel
theorem dX7_reach_59 : decode cX7_reach 59 = .ok (.getfield 26, 3) := by decide +kernel
theorem dX7_reach_62 : decode cX7_reach 62 = .ok (.iload_n 2, 1) := by decide +kernel
theorem dX7_reach_63 : decode cX7_reach 63 = .ok (.invokevirtual 202, 3) := by decide +kernel
theorem dX7_reach_66 : decode cX7_reach 66 = .ok (.ifCond .eq 6, 3) := by decide +kernel
theorem dX7_reach_69 : decode cX7_reach 69 = .ok (.iload 4, 2) := by decide +kernel
theorem dX7_reach_71 : decode cX7_reach 71 = .ok (.ireturn, 1) := by decide +kernel
theorem dX7_reach_72 : decode cX7_reach 72 = .ok (.iinc 4 1, 3) := by decide +kernel
theorem dX7_reach_75 : decode cX7_reach 75 = .ok (.goto (-40), 3) := by decide +kernel
theorem dX7_reach_78 : decode cX7_reach 78 = .ok (.aload_n 0, 1) := by decide +kernel
theorem dX7_reach_79 : decode cX7_reach 79 = .ok (.ldc 126, 2) := by decide +kernel
theorem dX7_reach_81 : decode cX7_reach 81 = .ok (.invokevirtual 70, 3) := by decide +kernel
theorem dX7_reach_84 : decode cX7_reach 84 = .ok (.ireturn, 1) := by decide +kernel
theorem dX7_strength_0 : decode cX7_strength 0 = .ok (.aload_n 0, 1) := by decide +kernel
theorem dX7_strength_1 : decode cX7_strength 1 = .ok (.iload_n 1, 1) := by decide +kernel
theorem dX7_strength_2 : decode cX7_strength 2 = .ok (.iload_n 2, 1) := by decide +kernel
theorem dX7_strength_3 : decode cX7_strength 3 = .ok (.invokevirtual 106, 3) := by decide +kernel
theorem dX7_strength_6 : decode cX7_strength 6 = .ok (.ifCond .eq 10, 3) := by decide +kernel
theorem dX7_strength_9 : decode cX7_strength 9 = .ok (.iload_n 3, 1) := by decide +kernel
theorem dX7_strength_10 : decode cX7_strength 10 = .ok (.invokestatic 199, 3) := by decide +kernel
theorem dX7_strength_13 : decode cX7_strength 13 = .ok (.ifCond .ne 10, 3) := by decide +kernel
theorem dX7_strength_16 : decode cX7_strength 16 = .ok (.aload_n 0, 1) := by decide +kernel
theorem dX7_strength_17 : decode cX7_strength 17 = .ok (.ldc 69, 2) := by decide +kernel
theorem dX7_strength_19 : decode cX7_strength 19 = .ok (.invokevirtual 70, 3) := by decide +kernel
theorem dX7_strength_22 : decode cX7_strength 22 = .ok (.ireturn, 1) := by decide +kernel
theorem dX7_strength_23 : decode cX7_strength 23 = .ok (.iconst 1, 1) := by decide +kernel
theorem dX7_strength_24 : decode cX7_strength 24 = .ok (.istore 4, 2) := by decide +kernel
theorem dX7_strength_26 : decode cX7_strength 26 = .ok (.iload 4, 2) := by decide +kernel
theorem dX7_strength_28 : decode cX7_strength 28 = .ok (.bipush 9, 2) := by decide +kernel
theorem dX7_strength_30 : decode cX7_strength 30 = .ok (.if_icmp .gt 39, 3) := by decide +kernel
theorem dX7_strength_33 : decode cX7_strength 33 = .ok (.aload_n 0, 1) := by decide +kernel
theorem dX7_strength_34 : decode cX7_strength 34 = .ok (.getfield 26, 3) := by decide +kernel
theorem dX7_strength_37 : decode cX7_strength 37 = .ok (.aload_n 0, 1) := by decide +kernel
theorem dX7_strength_38 : decode cX7_strength 38 = .ok (.getfield 10, 3) := by decide +kernel
theorem dX7_strength_41 : decode cX7_strength 41 = .ok (.iload_n 1, 1) := by decide +kernel
theorem dX7_strength_42 : decode cX7_strength 42 = .ok (.iload_n 2, 1) := by decide +kernel
theorem dX7_strength_43 : decode cX7_strength 43 = .ok (.iload 4, 2) := by decide +kernel
theorem dX7_strength_45 : decode cX7_strength 45 = .ok (.iconst 0, 1) := by decide +kernel
theorem dX7_strength_46 : decode cX7_strength 46 = .ok (.invokevirtual 186, 3) := by decide +kernel
theorem dX7_strength_49 : decode cX7_strength 49 = .ok (.aload_n 0, 1) := by decide +kernel
theorem dX7_strength_50 : decode cX7_strength 50 = .ok (.getfield 26, 3) := by decide +kernel
theorem dX7_strength_53 : decode cX7_strength 53 = .ok (.iload_n 3, 1) := by decide +kernel
theorem dX7_strength_54 : decode cX7_strength 54 = .ok (.invokevirtual 202, 3) := by decide +kernel
theorem dX7_strength_57 : decode cX7_strength 57 = .ok (.ifCond .eq 6, 3) := by decide +kernel
theorem dX7_strength_60 : decode cX7_strength 60 = .ok (.iload 4, 2) := by decide +kernel
theorem dX7_strength_62 : decode cX7_strength 62 = .ok (.ireturn, 1) := by decide +kernel
theorem dX7_strength_63 : decode cX7_strength 63 = .ok (.iinc 4 1, 3) := by decide +kernel
theorem dX7_strength_66 : decode cX7_strength 66 = .ok (.goto (-40), 3) := by decide +kernel
theorem dX7_strength_69 : decode cX7_strength 69 = .ok (.aload_n 0, 1) := by decide +kernel
theorem dX7_strength_70 : decode cX7_strength 70 = .ok (.ldc 126, 2) := by decide +kernel
theorem dX7_strength_72 : decode cX7_strength 72 = .ok (.invokevirtual 70, 3) := by decide +kernel
theorem dX7_strength_75 : decode cX7_strength 75 = .ok (.ireturn, 1) := by decide +kernel
theorem dX7_secret_0 : decode cX7_secret 0 = .ok (.aload_n 0, 1) := by decide +kernel
theorem dX7_secret_1 : decode cX7_secret 1 = .ok (.getfield 10, 3) := by decide +kernel
theorem dX7_secret_4 : decode cX7_secret 4 = .ok (.iload_n 1, 1) := by decide +kernel
theorem dX7_secret_5 : decode cX7_secret 5 = .ok (.invokevirtual 82, 3) := by decide +kernel
theorem dX7_secret_8 : decode cX7_secret 8 = .ok (.ifCond .eq 17, 3) := by decide +kernel
theorem dX7_secret_11 : decode cX7_secret 11 = .ok (.iload_n 2, 1) := by decide +kernel
theorem dX7_secret_12 : decode cX7_secret 12 = .ok (.invokestatic 199, 3) := by decide +kernel
theorem dX7_secret_15 : decode cX7_secret 15 = .ok (.ifCond .eq 10, 3) := by decide +kernel
theorem dX7_secret_18 : decode cX7_secret 18 = .ok (.iload_n 3, 1) := by decide +kernel
theorem dX7_secret_19 : decode cX7_secret 19 = .ok (.invokestatic 199, 3) := by decide +kernel
theorem dX7_secret_22 : decode cX7_secret 22 = .ok (.ifCond .ne 10, 3) := by decide +kernel
theorem dX7_secret_25 : decode cX7_secret 25 = .ok (.aload_n 0, 1) := by decide +kernel
theorem dX7_secret_26 : decode cX7_secret 26 = .ok (.ldc 69, 2) := by decide +kernel
theorem dX7_secret_28 : decode cX7_secret 28 = .ok (.invokevirtual 70, 3) := by decide +kernel
theorem dX7_secret_31 : decode cX7_secret 31 = .ok (.ireturn, 1) := by decide +kernel
theorem dX7_secret_32 : decode cX7_secret 32 = .ok (.iconst 0, 1) := by decide +kernel
theorem dX7_secret_33 : decode cX7_secret 33 = .ok (.istore 4, 2) := by decide +kernel
theorem dX7_secret_35 : decode cX7_secret 35 = .ok (.iload 4, 2) := by decide +kernel
theorem dX7_secret_37 : decode cX7_secret 37 = .ok (.bipush 8, 2) := by decide +kernel
theorem dX7_secret_39 : decode cX7_secret 39 = .ok (.if_icmp .ge 74, 3) := by decide +kernel
theorem dX7_secret_42 : decode cX7_secret 42 = .ok (.iconst 1, 1) := by decide +kernel
theorem dX7_secret_43 : decode cX7_secret 43 = .ok (.istore 5, 2) := by decide +kernel
theorem dX7_secret_45 : decode cX7_secret 45 = .ok (.iload 5, 2) := by decide +kernel
theorem dX7_secret_47 : decode cX7_secret 47 = .ok (.bipush 9, 2) := by decide +kernel
theorem dX7_secret_49 : decode cX7_secret 49 = .ok (.if_icmp .gt 58, 3) := by decide +kernel
theorem dX7_secret_52 : decode cX7_secret 52 = .ok (.aload_n 0, 1) := by decide +kernel
theorem dX7_secret_53 : decode cX7_secret 53 = .ok (.getfield 26, 3) := by decide +kernel
theorem dX7_secret_56 : decode cX7_secret 56 = .ok (.aload_n 0, 1) := by decide +kernel
theorem dX7_secret_57 : decode cX7_secret 57 = .ok (.getfield 10, 3) := by decide +kernel
theorem dX7_secret_60 : decode cX7_secret 60 = .ok (.iload_n 1, 1) := by decide +kernel
theorem dX7_secret_61 : decode cX7_secret 61 = .ok (.iload 4, 2) := by decide +kernel
theorem dX7_secret_63 : decode cX7_secret 63 = .ok (.iload 5, 2) := by decide +kernel
theorem dX7_secret_65 : decode cX7_secret 65 = .ok (.iconst 0, 1) := by decide +kernel
theorem dX7_secret_66 : decode cX7_secret 66 = .ok (.invokevirtual 186, 3) := by decide +kernel
theorem dX7_secret_69 : decode cX7_secret 69 = .ok (.aload_n 0, 1) := by decide +kernel
theorem dX7_secret_70 : decode cX7_secret 70 = .ok (.getfield 26, 3) := by decide +kernel
theorem dX7_secret_73 : decode cX7_secret 73 = .ok (.iload_n 2, 1) := by decide +kernel
theorem dX7_secret_74 : decode cX7_secret 74 = .ok (.invokevirtual 202, 3) := by decide +kernel
theorem dX7_secret_77 : decode cX7_secret 77 = .ok (.ifCond .eq 24, 3) := by decide +kernel
theorem dX7_secret_80 : decode cX7_secret 80 = .ok (.aload_n 0, 1) := by decide +kernel
theorem dX7_secret_81 : decode cX7_secret 81 = .ok (.getfield 26, 3) := by decide +kernel
theorem dX7_secret_84 : decode cX7_secret 84 = .ok (.getfield 190, 3) := by decide +kernel
theorem dX7_secret_87 : decode cX7_secret 87 = .ok (.iload_n 3, 1) := by decide +kernel
theorem dX7_secret_88 : decode cX7_secret 88 = .ok (.iand, 1) := by decide +kernel
theorem dX7_secret_89 : decode cX7_secret 89 = .ok (.ifCond .ne 12, 3) := by decide +kernel
theorem dX7_secret_92 : decode cX7_secret 92 = .ok (.bipush 10, 2) := by decide +kernel
theorem dX7_secret_94 : decode cX7_secret 94 = .ok (.iload 4, 2) := by decide +kernel
theorem dX7_secret_96 : decode cX7_secret 96 = .ok (.imul, 1) := by decide +kernel
theorem dX7_secret_97 : decode cX7_secret 97 = .ok (.iload 5, 2) := by decide +kernel
theorem dX7_secret_99 : decode cX7_secret 99 = .ok (.iadd, 1) := by decide +kernel
theorem dX7_secret_100 : decode cX7_secret 100 = .ok (.ireturn, 1) := by decide +kernel
theorem dX7_secret_101 : decode cX7_secret 101 = .ok (.iinc 5 1, 3) := by decide +kernel
theorem dX7_secret_104 : decode cX7_secret 104 = .ok (.goto (-59), 3) := by decide +kernel
theorem dX7_secret_107 : decode cX7_secret 107 = .ok (.iinc 4 1, 3) := by decide +kernel
theorem dX7_secret_110 : decode cX7_secret 110 = .ok (.goto (-75), 3) := by decide +kernel
theorem dX7_secret_113 : decode cX7_secret 113 = .ok (.aload_n 0, 1) := by decide +kernel
theorem dX7_secret_114 : decode cX7_secret 114 = .ok (.ldc 126, 2) := by decide +kernel
theorem dX7_secret_116 : decode cX7_secret 116 = .ok (.invokevirtual 70, 3) := by decide +kernel
theorem dX7_secret_119 : decode cX7_secret 119 = .ok (.ireturn, 1) := by decide +kernel
theorem dX7_fewest_0 : decode cX7_fewest 0 = .ok (.iload_n 1, 1) := by decide +kernel
theorem dX7_fewest_1 : decode cX7_fewest 1 = .ok (.invokestatic 199, 3) := by decide +kernel
theorem dX7_fewest_4 : decode cX7_fewest 4 = .ok (.ifCond .eq 10, 3) := by decide +kernel
theorem dX7_fewest_7 : decode cX7_fewest 7 = .ok (.iload_n 2, 1) := by decide +kernel
theorem dX7_fewest_8 : decode cX7_fewest 8 = .ok (.invokestatic 180, 3) := by decide +kernel
theorem dX7_fewest_11 : decode cX7_fewest 11 = .ok (.ifCond .ne 10, 3) := by decide +kernel
theorem dX7_fewest_14 : decode cX7_fewest 14 = .ok (.aload_n 0, 1) := by decide +kernel
theorem dX7_fewest_15 : decode cX7_fewest 15 = .ok (.ldc 69, 2) := by decide +kernel
theorem dX7_fewest_17 : decode cX7_fewest 17 = .ok (.invokevirtual 70, 3) := by decide +kernel
theorem dX7_fewest_20 : decode cX7_fewest 20 = .ok (.ireturn, 1) := by decide +kernel
theorem dX7_fewest_21 : decode cX7_fewest 21 = .ok (.iconst 0, 1) := by decide +kernel
theorem dX7_fewest_22 : decode cX7_fewest 22 = .ok (.istore_n 3, 1) := by decide +kernel
theorem dX7_fewest_23 : decode cX7_fewest 23 = .ok (.iload_n 3, 1) := by decide +kernel
theorem dX7_fewest_24 : decode cX7_fewest 24 = .ok (.aload_n 0, 1) := by decide +kernel
theorem dX7_fewest_25 : decode cX7_fewest 25 = .ok (.getfield 10, 3) := by decide +kernel
theorem dX7_fewest_28 : decode cX7_fewest 28 = .ok (.getfield 74, 3) := by decide +kernel
theorem dX7_fewest_31 : decode cX7_fewest 31 = .ok (.if_icmp .ge 44, 3) := by decide +kernel
theorem dX7_fewest_34 : decode cX7_fewest 34 = .ok (.iload_n 3, 1) := by decide +kernel
theorem dX7_fewest_35 : decode cX7_fewest 35 = .ok (.bipush 6, 2) := by decide +kernel
theorem dX7_fewest_37 : decode cX7_fewest 37 = .ok (.if_icmp .ge 38, 3) := by decide +kernel
theorem dX7_fewest_40 : decode cX7_fewest 40 = .ok (.aload_n 0, 1) := by decide +kernel
theorem dX7_fewest_41 : decode cX7_fewest 41 = .ok (.getfield 26, 3) := by decide +kernel
theorem dX7_fewest_44 : decode cX7_fewest 44 = .ok (.aload_n 0, 1) := by decide +kernel
theorem dX7_fewest_45 : decode cX7_fewest 45 = .ok (.getfield 10, 3) := by decide +kernel
theorem dX7_fewest_48 : decode cX7_fewest 48 = .ok (.iload_n 3, 1) := by decide +kernel
theorem dX7_fewest_49 : decode cX7_fewest 49 = .ok (.bipush 7, 2) := by decide +kernel
theorem dX7_fewest_51 : decode cX7_fewest 51 = .ok (.iload_n 2, 1) := by decide +kernel
theorem dX7_fewest_52 : decode cX7_fewest 52 = .ok (.iconst 0, 1) := by decide +kernel
theorem dX7_fewest_53 : decode cX7_fewest 53 = .ok (.invokevirtual 186, 3) := by decide +kernel
theorem dX7_fewest_56 : decode cX7_fewest 56 = .ok (.aload_n 0, 1) := by decide +kernel
theorem dX7_fewest_57 : decode cX7_fewest 57 = .ok (.getfield 62, 3) := by decide +kernel
theorem dX7_fewest_60 : decode cX7_fewest 60 = .ok (.iload_n 3, 1) := by decide +kernel
theorem dX7_fewest_61 : decode cX7_fewest 61 = .ok (.aload_n 0, 1) := by decide +kernel
theorem dX7_fewest_62 : decode cX7_fewest 62 = .ok (.getfield 26, 3) := by decide +kernel
theorem dX7_fewest_65 : decode cX7_fewest 65 = .ok (.getfield 190, 3) := by decide +kernel
theorem dX7_fewest_68 : decode cX7_fewest 68 = .ok (.iastore, 1) := by decide +kernel
theorem dX7_fewest_69 : decode cX7_fewest 69 = .ok (.iinc 3 1, 3) := by decide +kernel
theorem dX7_fewest_72 : decode cX7_fewest 72 = .ok (.goto (-49), 3) := by decide +kernel
theorem dX7_fewest_75 : decode cX7_fewest 75 = .ok (.iconst (-1), 1) := by decide +kernel
theorem dX7_fewest_76 : decode cX7_fewest 76 = .ok (.istore_n 3, 1) := by decide +kernel
theorem dX7_fewest_77 : decode cX7_fewest 77 = .ok (.iconst 0, 1) := by decide +kernel
theorem dX7_fewest_78 : decode cX7_fewest 78 = .ok (.istore 4, 2) := by decide +kernel
theorem dX7_fewest_80 : decode cX7_fewest 80 = .ok (.iload 4, 2) := by decide +kernel
theorem dX7_fewest_82 : decode cX7_fewest 82 = .ok (.iconst 1, 1) := by decide +kernel
theorem dX7_fewest_83 : decode cX7_fewest 83 = .ok (.aload_n 0, 1) := by decide +kernel
theorem dX7_fewest_84 : decode cX7_fewest 84 = .ok (.getfield 10, 3) := by decide +kernel
theorem dX7_fewest_87 : decode cX7_fewest 87 = .ok (.getfield 74, 3) := by decide +kernel
theorem dX7_fewest_90 : decode cX7_fewest 90 = .ok (.ishl, 1) := by decide +kernel
theorem dX7_fewest_91 : decode cX7_fewest 91 = .ok (.if_icmp .ge 54, 3) := by decide +kernel
theorem dX7_fewest_94 : decode cX7_fewest 94 = .ok (.iload_n 3, 1) := by decide +kernel
theorem dX7_fewest_95 : decode cX7_fewest 95 = .ok (.iconst (-1), 1) := by decide +kernel
theorem dX7_fewest_96 : decode cX7_fewest 96 = .ok (.if_icmp .eq 15, 3) := by decide +kernel
theorem dX7_fewest_99 : decode cX7_fewest 99 = .ok (.iload 4, 2) := by decide +kernel
theorem dX7_fewest_101 : decode cX7_fewest 101 = .ok (.invokestatic 205, 3) := by decide +kernel
theorem dX7_fewest_104 : decode cX7_fewest 104 = .ok (.iload_n 3, 1) := by decide +kernel
theorem dX7_fewest_105 : decode cX7_fewest 105 = .ok (.invokestatic 205, 3) := by decide +kernel
theorem dX7_fewest_108 : decode cX7_fewest 108 = .ok (.if_icmp .ge 7, 3) := by decide +kernel
theorem dX7_fewest_111 : decode cX7_fewest 111 = .ok (.iconst 1, 1) := by decide +kernel
theorem dX7_fewest_112 : decode cX7_fewest 112 = .ok (.goto 4, 3) := by decide +kernel
theorem dX7_fewest_115 : decode cX7_fewest 115 = .ok (.iconst 0, 1) := by decide +kernel
theorem dX7_fewest_116 : decode cX7_fewest 116 = .ok (.istore 5, 2) := by decide +kernel
theorem dX7_fewest_118 : decode cX7_fewest 118 = .ok (.iload 5, 2) := by decide +kernel
theorem dX7_fewest_120 : decode cX7_fewest 120 = .ok (.ifCond .eq 19, 3) := by decide +kernel
theorem dX7_fewest_123 : decode cX7_fewest 123 = .ok (.iload_n 1, 1) := by decide +kernel
theorem dX7_fewest_124 : decode cX7_fewest 124 = .ok (.aload_n 0, 1) := by decide +kernel
theorem dX7_fewest_125 : decode cX7_fewest 125 = .ok (.iload 4, 2) := by decide +kernel
theorem dX7_fewest_127 : decode cX7_fewest 127 = .ok (.invokevirtual 210, 3) := by decide +kernel
theorem dX7_fewest_130 : decode cX7_fewest 130 = .ok (.iconst (-1), 1) := by decide +kernel
theorem dX7_fewest_131 : decode cX7_fewest 131 = .ok (.ixor, 1) := by decide +kernel
theorem dX7_fewest_132 : decode cX7_fewest 132 = .ok (.iand, 1) := by decide +kernel
theorem dX7_fewest_133 : decode cX7_fewest 133 = .ok (.ifCond .ne 6, 3) := by decide +kernel
theorem dX7_fewest_136 : decode cX7_fewest 136 = .ok (.iload 4, 2) := by decide +kernel
theorem dX7_fewest_138 : decode cX7_fewest 138 = .ok (.istore_n 3, 1) := by decide +kernel
theorem dX7_fewest_139 : decode cX7_fewest 139 = .ok (.iinc 4 1, 3) := by decide +kernel
theorem dX7_fewest_142 : decode cX7_fewest 142 = .ok (.goto (-62), 3) := by decide +kernel
theorem dX7_fewest_145 : decode cX7_fewest 145 = .ok (.iload_n 3, 1) := by decide +kernel
theorem dX7_fewest_146 : decode cX7_fewest 146 = .ok (.iconst (-1), 1) := by decide +kernel
theorem dX7_fewest_147 : decode cX7_fewest 147 = .ok (.if_icmp .ne 12, 3) := by decide +kernel
theorem dX7_fewest_150 : decode cX7_fewest 150 = .ok (.aload_n 0, 1) := by decide +kernel
theorem dX7_fewest_151 : decode cX7_fewest 151 = .ok (.ldc 126, 2) := by decide +kernel
theorem dX7_fewest_153 : decode cX7_fewest 153 = .ok (.invokevirtual 70, 3) := by decide +kernel
theorem dX7_fewest_156 : decode cX7_fewest 156 = .ok (.goto 4, 3) := by decide +kernel
theorem dX7_fewest_159 : decode cX7_fewest 159 = .ok (.iload_n 3, 1) := by decide +kernel
theorem dX7_fewest_160 : decode cX7_fewest 160 = .ok (.ireturn, 1) := by decide +kernel
theorem dX7_where_0 : decode cX7_where 0 = .ok (.iload_n 1, 1) := by decide +kernel
theorem dX7_where_1 : decode cX7_where 1 = .ok (.invokestatic 142, 3) := by decide +kernel
theorem dX7_where_4 : decode cX7_where 4 = .ok (.ifCond .ne 10, 3) := by decide +kernel
theorem dX7_where_7 : decode cX7_where 7 = .ok (.aload_n 0, 1) := by decide +kernel
theorem dX7_where_8 : decode cX7_where 8 = .ok (.ldc 69, 2) := by decide +kernel
theorem dX7_where_10 : decode cX7_where 10 = .ok (.invokevirtual 70, 3) := by decide +kernel
theorem dX7_where_13 : decode cX7_where 13 = .ok (.ireturn, 1) := by decide +kernel
theorem dX7_where_14 : decode cX7_where 14 = .ok (.iconst 0, 1) := by decide +kernel
theorem dX7_where_15 : decode cX7_where 15 = .ok (.istore_n 2, 1) := by decide +kernel
theorem dX7_where_16 : decode cX7_where 16 = .ok (.iconst 0, 1) := by decide +kernel
theorem dX7_where_17 : decode cX7_where 17 = .ok (.istore_n 3, 1) := by decide +kernel
theorem dX7_where_18 : decode cX7_where 18 = .ok (.iload_n 3, 1) := by decide +kernel
theorem dX7_where_19 : decode cX7_where 19 = .ok (.aload_n 0, 1) := by decide +kernel
theorem dX7_where_20 : decode cX7_where 20 = .ok (.getfield 10, 3) := by decide +kernel
theorem dX7_where_23 : decode cX7_where 23 = .ok (.getfield 74, 3) := by decide +kernel
theorem dX7_where_26 : decode cX7_where 26 = .ok (.if_icmp .ge 30, 3) := by decide +kernel
theorem dX7_where_29 : decode cX7_where 29 = .ok (.aload_n 0, 1) := by decide +kernel
theorem dX7_where_30 : decode cX7_where 30 = .ok (.getfield 10, 3) := by decide +kernel
theorem dX7_where_33 : decode cX7_where 33 = .ok (.iload_n 3, 1) := by decide +kernel
theorem dX7_where_34 : decode cX7_where 34 = .ok (.invokevirtual 91, 3) := by decide +kernel
theorem dX7_where_37 : decode cX7_where 37 = .ok (.iload_n 1, 1) := by decide +kernel
theorem dX7_where_38 : decode cX7_where 38 = .ok (.invokestatic 213, 3) := by decide +kernel
theorem dX7_where_41 : decode cX7_where 41 = .ok (.ifCond .eq 9, 3) := by decide +kernel
theorem dX7_where_44 : decode cX7_where 44 = .ok (.iload_n 2, 1) := by decide +kernel
theorem dX7_where_45 : decode cX7_where 45 = .ok (.iconst 1, 1) := by decide +kernel
theorem dX7_where_46 : decode cX7_where 46 = .ok (.iload_n 3, 1) := by decide +kernel
theorem dX7_where_47 : decode cX7_where 47 = .ok (.ishl, 1) := by decide +kernel
theorem dX7_where_48 : decode cX7_where 48 = .ok (.ior, 1) := by decide +kernel
theorem dX7_where_49 : decode cX7_where 49 = .ok (.istore_n 2, 1) := by decide +kernel
theorem dX7_where_50 : decode cX7_where 50 = .ok (.iinc 3 1, 3) := by decide +kernel
theorem dX7_where_53 : decode cX7_where 53 = .ok (.goto (-35), 3) := by decide +kernel
theorem dX7_where_56 : decode cX7_where 56 = .ok (.iload_n 2, 1) := by decide +kernel
theorem dX7_where_57 : decode cX7_where 57 = .ok (.ireturn, 1) := by decide +kernel
theorem dX7_lost_0 : decode cX7_lost 0 = .ok (.aload_n 0, 1) := by decide +kernel
theorem dX7_lost_1 : decode cX7_lost 1 = .ok (.getfield 10, 3) := by decide +kernel
theorem dX7_lost_4 : decode cX7_lost 4 = .ok (.iload_n 1, 1) := by decide +kernel
theorem dX7_lost_5 : decode cX7_lost 5 = .ok (.invokevirtual 82, 3) := by decide +kernel
theorem dX7_lost_8 : decode cX7_lost 8 = .ok (.ifCond .eq 17, 3) := by decide +kernel
theorem dX7_lost_11 : decode cX7_lost 11 = .ok (.iload_n 2, 1) := by decide +kernel
theorem dX7_lost_12 : decode cX7_lost 12 = .ok (.invokestatic 142, 3) := by decide +kernel
theorem dX7_lost_15 : decode cX7_lost 15 = .ok (.ifCond .eq 10, 3) := by decide +kernel
theorem dX7_lost_18 : decode cX7_lost 18 = .ok (.iload_n 3, 1) := by decide +kernel
theorem dX7_lost_19 : decode cX7_lost 19 = .ok (.invokestatic 180, 3) := by decide +kernel
theorem dX7_lost_22 : decode cX7_lost 22 = .ok (.ifCond .ne 10, 3) := by decide +kernel
theorem dX7_lost_25 : decode cX7_lost 25 = .ok (.aload_n 0, 1) := by decide +kernel
theorem dX7_lost_26 : decode cX7_lost 26 = .ok (.ldc 69, 2) := by decide +kernel
theorem dX7_lost_28 : decode cX7_lost 28 = .ok (.invokevirtual 70, 3) := by decide +kernel
theorem dX7_lost_31 : decode cX7_lost 31 = .ok (.ireturn, 1) := by decide +kernel
theorem dX7_lost_32 : decode cX7_lost 32 = .ok (.iconst 0, 1) := by decide +kernel
theorem dX7_lost_33 : decode cX7_lost 33 = .ok (.istore 4, 2) := by decide +kernel
theorem dX7_lost_35 : decode cX7_lost 35 = .ok (.iload 4, 2) := by decide +kernel
theorem dX7_lost_37 : decode cX7_lost 37 = .ok (.bipush 60, 2) := by decide +kernel
theorem dX7_lost_39 : decode cX7_lost 39 = .ok (.if_icmp .gt 43, 3) := by decide +kernel
theorem dX7_lost_42 : decode cX7_lost 42 = .ok (.aload_n 0, 1) := by decide +kernel
theorem dX7_lost_43 : decode cX7_lost 43 = .ok (.getfield 26, 3) := by decide +kernel
theorem dX7_lost_46 : decode cX7_lost 46 = .ok (.aload_n 0, 1) := by decide +kernel
theorem dX7_lost_47 : decode cX7_lost 47 = .ok (.getfield 10, 3) := by decide +kernel
theorem dX7_lost_50 : decode cX7_lost 50 = .ok (.iload_n 1, 1) := by decide +kernel
theorem dX7_lost_51 : decode cX7_lost 51 = .ok (.bipush 7, 2) := by decide +kernel
theorem dX7_lost_53 : decode cX7_lost 53 = .ok (.iload_n 3, 1) := by decide +kernel
theorem dX7_lost_54 : decode cX7_lost 54 = .ok (.iload 4, 2) := by decide +kernel
theorem dX7_lost_56 : decode cX7_lost 56 = .ok (.invokevirtual 186, 3) := by decide +kernel
theorem dX7_lost_59 : decode cX7_lost 59 = .ok (.aload_n 0, 1) := by decide +kernel
theorem dX7_lost_60 : decode cX7_lost 60 = .ok (.getfield 26, 3) := by decide +kernel
theorem dX7_lost_63 : decode cX7_lost 63 = .ok (.getfield 190, 3) := by decide +kernel
theorem dX7_lost_66 : decode cX7_lost 66 = .ok (.iload_n 2, 1) := by decide +kernel
theorem dX7_lost_67 : decode cX7_lost 67 = .ok (.invokestatic 213, 3) := by decide +kernel
theorem dX7_lost_70 : decode cX7_lost 70 = .ok (.ifCond .ne 6, 3) := by decide +kernel
theorem dX7_lost_73 : decode cX7_lost 73 = .ok (.iload 4, 2) := by decide +kernel
theorem dX7_lost_75 : decode cX7_lost 75 = .ok (.ireturn, 1) := by decide +kernel
theorem dX7_lost_76 : decode cX7_lost 76 = .ok (.iinc 4 1, 3) := by decide +kernel
theorem dX7_lost_79 : decode cX7_lost 79 = .ok (.goto (-44), 3) := by decide +kernel
theorem dX7_lost_82 : decode cX7_lost 82 = .ok (.aload_n 0, 1) := by decide +kernel
theorem dX7_lost_83 : decode cX7_lost 83 = .ok (.ldc 126, 2) := by decide +kernel
theorem dX7_lost_85 : decode cX7_lost 85 = .ok (.invokevirtual 70, 3) := by decide +kernel
theorem dX7_lost_88 : decode cX7_lost 88 = .ok (.ireturn, 1) := by decide +kernel
theorem dX7_covers_0 : decode cX7_covers 0 = .ok (.aload_n 0, 1) := by decide +kernel
theorem dX7_covers_1 : decode cX7_covers 1 = .ok (.getfield 10, 3) := by decide +kernel
theorem dX7_covers_4 : decode cX7_covers 4 = .ok (.iload_n 1, 1) := by decide +kernel
theorem dX7_covers_5 : decode cX7_covers 5 = .ok (.invokevirtual 82, 3) := by decide +kernel
theorem dX7_covers_8 : decode cX7_covers 8 = .ok (.ifCond .eq 17, 3) := by decide +kernel
theorem dX7_covers_11 : decode cX7_covers 11 = .ok (.iload_n 2, 1) := by decide +kernel
theorem dX7_covers_12 : decode cX7_covers 12 = .ok (.invokestatic 142, 3) := by decide +kernel
theorem dX7_covers_15 : decode cX7_covers 15 = .ok (.ifCond .eq 10, 3) := by decide +kernel
theorem dX7_covers_18 : decode cX7_covers 18 = .ok (.iload_n 3, 1) := by decide +kernel
theorem dX7_covers_19 : decode cX7_covers 19 = .ok (.invokestatic 142, 3) := by decide +kernel
theorem dX7_covers_22 : decode cX7_covers 22 = .ok (.ifCond .ne 10, 3) := by decide +kernel
theorem dX7_covers_25 : decode cX7_covers 25 = .ok (.aload_n 0, 1) := by decide +kernel
theorem dX7_covers_26 : decode cX7_covers 26 = .ok (.ldc 69, 2) := by decide +kernel
theorem dX7_covers_28 : decode cX7_covers 28 = .ok (.invokevirtual 70, 3) := by decide +kernel
theorem dX7_covers_31 : decode cX7_covers 31 = .ok (.ireturn, 1) := by decide +kernel
theorem dX7_covers_32 : decode cX7_covers 32 = .ok (.aload_n 0, 1) := by decide +kernel
theorem dX7_covers_33 : decode cX7_covers 33 = .ok (.getfield 10, 3) := by decide +kernel
theorem dX7_covers_36 : decode cX7_covers 36 = .ok (.iload_n 1, 1) := by decide +kernel
theorem dX7_covers_37 : decode cX7_covers 37 = .ok (.iload_n 3, 1) := by decide +kernel
theorem dX7_covers_38 : decode cX7_covers 38 = .ok (.invokevirtual 216, 3) := by decide +kernel
theorem dX7_covers_41 : decode cX7_covers 41 = .ok (.istore 4, 2) := by decide +kernel
theorem dX7_covers_43 : decode cX7_covers 43 = .ok (.iload 4, 2) := by decide +kernel
theorem dX7_covers_45 : decode cX7_covers 45 = .ok (.iconst (-1), 1) := by decide +kernel
theorem dX7_covers_46 : decode cX7_covers 46 = .ok (.if_icmp .ne 10, 3) := by decide +kernel
theorem dX7_covers_49 : decode cX7_covers 49 = .ok (.aload_n 0, 1) := by decide +kernel
theorem dX7_covers_50 : decode cX7_covers 50 = .ok (.ldc 126, 2) := by decide +kernel
theorem dX7_covers_52 : decode cX7_covers 52 = .ok (.invokevirtual 70, 3) := by decide +kernel
theorem dX7_covers_55 : decode cX7_covers 55 = .ok (.ireturn, 1) := by decide +kernel
theorem dX7_covers_56 : decode cX7_covers 56 = .ok (.iconst 0, 1) := by decide +kernel
theorem dX7_covers_57 : decode cX7_covers 57 = .ok (.istore 5, 2) := by decide +kernel
theorem dX7_covers_59 : decode cX7_covers 59 = .ok (.iload 5, 2) := by decide +kernel
theorem dX7_covers_61 : decode cX7_covers 61 = .ok (.bipush 10, 2) := by decide +kernel
theorem dX7_covers_63 : decode cX7_covers 63 = .ok (.if_icmp .ge 28, 3) := by decide +kernel
theorem dX7_covers_66 : decode cX7_covers 66 = .ok (.aload_n 0, 1) := by decide +kernel
theorem dX7_covers_67 : decode cX7_covers 67 = .ok (.getfield 10, 3) := by decide +kernel
theorem dX7_covers_70 : decode cX7_covers 70 = .ok (.iload_n 1, 1) := by decide +kernel
theorem dX7_covers_71 : decode cX7_covers 71 = .ok (.iload_n 2, 1) := by decide +kernel
theorem dX7_covers_72 : decode cX7_covers 72 = .ok (.iload 5, 2) := by decide +kernel
theorem dX7_covers_74 : decode cX7_covers 74 = .ok (.invokevirtual 219, 3) := by decide +kernel
theorem dX7_covers_77 : decode cX7_covers 77 = .ok (.iload 4, 2) := by decide +kernel
theorem dX7_covers_79 : decode cX7_covers 79 = .ok (.if_icmp .ne 6, 3) := by decide +kernel
theorem dX7_covers_82 : decode cX7_covers 82 = .ok (.iload 5, 2) := by decide +kernel
theorem dX7_covers_84 : decode cX7_covers 84 = .ok (.ireturn, 1) := by decide +kernel
theorem dX7_covers_85 : decode cX7_covers 85 = .ok (.iinc 5 1, 3) := by decide +kernel
theorem dX7_covers_88 : decode cX7_covers 88 = .ok (.goto (-29), 3) := by decide +kernel
theorem dX7_covers_91 : decode cX7_covers 91 = .ok (.aload_n 0, 1) := by decide +kernel
theorem dX7_covers_92 : decode cX7_covers 92 = .ok (.ldc 126, 2) := by decide +kernel
theorem dX7_covers_94 : decode cX7_covers 94 = .ok (.invokevirtual 70, 3) := by decide +kernel
theorem dX7_covers_97 : decode cX7_covers 97 = .ok (.ireturn, 1) := by decide +kernel
theorem dX7_kind_0 : decode cX7_kind 0 = .ok (.aload_n 0, 1) := by decide +kernel
theorem dX7_kind_1 : decode cX7_kind 1 = .ok (.getfield 10, 3) := by decide +kernel
theorem dX7_kind_4 : decode cX7_kind 4 = .ok (.iload_n 1, 1) := by decide +kernel
theorem dX7_kind_5 : decode cX7_kind 5 = .ok (.invokevirtual 82, 3) := by decide +kernel
theorem dX7_kind_8 : decode cX7_kind 8 = .ok (.ifCond .eq 17, 3) := by decide +kernel
theorem dX7_kind_11 : decode cX7_kind 11 = .ok (.iload_n 2, 1) := by decide +kernel
theorem dX7_kind_12 : decode cX7_kind 12 = .ok (.invokestatic 199, 3) := by decide +kernel
theorem dX7_kind_15 : decode cX7_kind 15 = .ok (.ifCond .eq 10, 3) := by decide +kernel
theorem dX7_kind_18 : decode cX7_kind 18 = .ok (.iload_n 3, 1) := by decide +kernel
theorem dX7_kind_19 : decode cX7_kind 19 = .ok (.invokestatic 145, 3) := by decide +kernel
theorem dX7_kind_22 : decode cX7_kind 22 = .ok (.ifCond .ne 10, 3) := by decide +kernel
theorem dX7_kind_25 : decode cX7_kind 25 = .ok (.aload_n 0, 1) := by decide +kernel
theorem dX7_kind_26 : decode cX7_kind 26 = .ok (.ldc 69, 2) := by decide +kernel
theorem dX7_kind_28 : decode cX7_kind 28 = .ok (.invokevirtual 70, 3) := by decide +kernel
theorem dX7_kind_31 : decode cX7_kind 31 = .ok (.ireturn, 1) := by decide +kernel
theorem dX7_kind_32 : decode cX7_kind 32 = .ok (.iconst 0, 1) := by decide +kernel
theorem dX7_kind_33 : decode cX7_kind 33 = .ok (.istore 4, 2) := by decide +kernel
theorem dX7_kind_35 : decode cX7_kind 35 = .ok (.iconst (-1), 1) := by decide +kernel
theorem dX7_kind_36 : decode cX7_kind 36 = .ok (.istore 5, 2) := by decide +kernel
theorem dX7_kind_38 : decode cX7_kind 38 = .ok (.iconst 0, 1) := by decide +kernel
theorem dX7_kind_39 : decode cX7_kind 39 = .ok (.istore 6, 2) := by decide +kernel
theorem dX7_kind_41 : decode cX7_kind 41 = .ok (.iload 6, 2) := by decide +kernel
theorem dX7_kind_43 : decode cX7_kind 43 = .ok (.bipush 6, 2) := by decide +kernel
theorem dX7_kind_45 : decode cX7_kind 45 = .ok (.if_icmp .ge 50, 3) := by decide +kernel
theorem dX7_kind_48 : decode cX7_kind 48 = .ok (.aload_n 0, 1) := by decide +kernel
theorem dX7_kind_49 : decode cX7_kind 49 = .ok (.getfield 33, 3) := by decide +kernel
theorem dX7_kind_52 : decode cX7_kind 52 = .ok (.aload_n 0, 1) := by decide +kernel
theorem dX7_kind_53 : decode cX7_kind 53 = .ok (.getfield 10, 3) := by decide +kernel
theorem dX7_kind_56 : decode cX7_kind 56 = .ok (.iload_n 1, 1) := by decide +kernel
theorem dX7_kind_57 : decode cX7_kind 57 = .ok (.iload 6, 2) := by decide +kernel
theorem dX7_kind_59 : decode cX7_kind 59 = .ok (.iload_n 2, 1) := by decide +kernel
theorem dX7_kind_60 : decode cX7_kind 60 = .ok (.iload_n 3, 1) := by decide +kernel
theorem dX7_kind_61 : decode cX7_kind 61 = .ok (.invokevirtual 222, 3) := by decide +kernel
theorem dX7_kind_64 : decode cX7_kind 64 = .ok (.aload_n 0, 1) := by decide +kernel
theorem dX7_kind_65 : decode cX7_kind 65 = .ok (.getfield 33, 3) := by decide +kernel
theorem dX7_kind_68 : decode cX7_kind 68 = .ok (.getfield 225, 3) := by decide +kernel
theorem dX7_kind_71 : decode cX7_kind 71 = .ok (.iload 5, 2) := by decide +kernel
theorem dX7_kind_73 : decode cX7_kind 73 = .ok (.if_icmp .le 16, 3) := by decide +kernel
theorem dX7_kind_76 : decode cX7_kind 76 = .ok (.aload_n 0, 1) := by decide +kernel
theorem dX7_kind_77 : decode cX7_kind 77 = .ok (.getfield 33, 3) := by decide +kernel
theorem dX7_kind_80 : decode cX7_kind 80 = .ok (.getfield 225, 3) := by decide +kernel
theorem dX7_kind_83 : decode cX7_kind 83 = .ok (.istore 5, 2) := by decide +kernel
theorem dX7_kind_85 : decode cX7_kind 85 = .ok (.iload 6, 2) := by decide +kernel
theorem dX7_kind_87 : decode cX7_kind 87 = .ok (.istore 4, 2) := by decide +kernel
theorem dX7_kind_89 : decode cX7_kind 89 = .ok (.iinc 6 1, 3) := by decide +kernel
theorem dX7_kind_92 : decode cX7_kind 92 = .ok (.goto (-51), 3) := by decide +kernel
theorem dX7_kind_95 : decode cX7_kind 95 = .ok (.iload 4, 2) := by decide +kernel
theorem dX7_kind_97 : decode cX7_kind 97 = .ok (.ireturn, 1) := by decide +kernel
theorem dX7_best_0 : decode cX7_best 0 = .ok (.iload_n 1, 1) := by decide +kernel
theorem dX7_best_1 : decode cX7_best 1 = .ok (.invokestatic 199, 3) := by decide +kernel
theorem dX7_best_4 : decode cX7_best 4 = .ok (.ifCond .eq 10, 3) := by decide +kernel
theorem dX7_best_7 : decode cX7_best 7 = .ok (.iload_n 2, 1) := by decide +kernel
theorem dX7_best_8 : decode cX7_best 8 = .ok (.invokestatic 145, 3) := by decide +kernel
theorem dX7_best_11 : decode cX7_best 11 = .ok (.ifCond .ne 10, 3) := by decide +kernel
theorem dX7_best_14 : decode cX7_best 14 = .ok (.aload_n 0, 1) := by decide +kernel
theorem dX7_best_15 : decode cX7_best 15 = .ok (.ldc 69, 2) := by decide +kernel
theorem dX7_best_17 : decode cX7_best 17 = .ok (.invokevirtual 70, 3) := by decide +kernel
theorem dX7_best_20 : decode cX7_best 20 = .ok (.ireturn, 1) := by decide +kernel
theorem dX7_best_21 : decode cX7_best 21 = .ok (.aload_n 0, 1) := by decide +kernel
theorem dX7_best_22 : decode cX7_best 22 = .ok (.getfield 10, 3) := by decide +kernel
theorem dX7_best_25 : decode cX7_best 25 = .ok (.getfield 74, 3) := by decide +kernel
theorem dX7_best_28 : decode cX7_best 28 = .ok (.ifCond .ne 10, 3) := by decide +kernel
theorem dX7_best_31 : decode cX7_best 31 = .ok (.aload_n 0, 1) := by decide +kernel
theorem dX7_best_32 : decode cX7_best 32 = .ok (.ldc 126, 2) := by decide +kernel
theorem dX7_best_34 : decode cX7_best 34 = .ok (.invokevirtual 70, 3) := by decide +kernel
theorem dX7_best_37 : decode cX7_best 37 = .ok (.ireturn, 1) := by decide +kernel
theorem dX7_best_38 : decode cX7_best 38 = .ok (.iconst 0, 1) := by decide +kernel
theorem dX7_best_39 : decode cX7_best 39 = .ok (.istore_n 3, 1) := by decide +kernel
theorem dX7_best_40 : decode cX7_best 40 = .ok (.iconst 0, 1) := by decide +kernel
theorem dX7_best_41 : decode cX7_best 41 = .ok (.istore 4, 2) := by decide +kernel
theorem dX7_best_43 : decode cX7_best 43 = .ok (.iconst 0, 1) := by decide +kernel
theorem dX7_best_44 : decode cX7_best 44 = .ok (.istore 5, 2) := by decide +kernel
theorem dX7_best_46 : decode cX7_best 46 = .ok (.iload 5, 2) := by decide +kernel
theorem dX7_best_48 : decode cX7_best 48 = .ok (.aload_n 0, 1) := by decide +kernel
theorem dX7_best_49 : decode cX7_best 49 = .ok (.getfield 10, 3) := by decide +kernel
theorem dX7_best_52 : decode cX7_best 52 = .ok (.getfield 74, 3) := by decide +kernel
theorem dX7_best_55 : decode cX7_best 55 = .ok (.if_icmp .ge 62, 3) := by decide +kernel
theorem dX7_best_58 : decode cX7_best 58 = .ok (.aload_n 0, 1) := by decide +kernel
theorem dX7_best_59 : decode cX7_best 59 = .ok (.getfield 33, 3) := by decide +kernel
theorem dX7_best_62 : decode cX7_best 62 = .ok (.aload_n 0, 1) := by decide +kernel
theorem dX7_best_63 : decode cX7_best 63 = .ok (.getfield 10, 3) := by decide +kernel
theorem dX7_best_66 : decode cX7_best 66 = .ok (.iload 5, 2) := by decide +kernel
theorem dX7_best_68 : decode cX7_best 68 = .ok (.aload_n 0, 1) := by decide +kernel
theorem dX7_best_69 : decode cX7_best 69 = .ok (.getfield 10, 3) := by decide +kernel
theorem dX7_best_72 : decode cX7_best 72 = .ok (.iload 5, 2) := by decide +kernel
theorem dX7_best_74 : decode cX7_best 74 = .ok (.invokevirtual 85, 3) := by decide +kernel
theorem dX7_best_77 : decode cX7_best 77 = .ok (.iload_n 1, 1) := by decide +kernel
theorem dX7_best_78 : decode cX7_best 78 = .ok (.iload_n 2, 1) := by decide +kernel
theorem dX7_best_79 : decode cX7_best 79 = .ok (.invokevirtual 222, 3) := by decide +kernel
theorem dX7_best_82 : decode cX7_best 82 = .ok (.iload 5, 2) := by decide +kernel
theorem dX7_best_84 : decode cX7_best 84 = .ok (.ifCond .eq 15, 3) := by decide +kernel
theorem dX7_best_87 : decode cX7_best 87 = .ok (.aload_n 0, 1) := by decide +kernel
theorem dX7_best_88 : decode cX7_best 88 = .ok (.getfield 33, 3) := by decide +kernel
theorem dX7_best_91 : decode cX7_best 91 = .ok (.getfield 228, 3) := by decide +kernel
theorem dX7_best_94 : decode cX7_best 94 = .ok (.iload 4, 2) := by decide +kernel
theorem dX7_best_96 : decode cX7_best 96 = .ok (.if_icmp .le 15, 3) := by decide +kernel
theorem dX7_best_99 : decode cX7_best 99 = .ok (.aload_n 0, 1) := by decide +kernel
theorem dX7_best_100 : decode cX7_best 100 = .ok (.getfield 33, 3) := by decide +kernel
theorem dX7_best_103 : decode cX7_best 103 = .ok (.getfield 228, 3) := by decide +kernel
theorem dX7_best_106 : decode cX7_best 106 = .ok (.istore 4, 2) := by decide +kernel
theorem dX7_best_108 : decode cX7_best 108 = .ok (.iload 5, 2) := by decide +kernel
theorem dX7_best_110 : decode cX7_best 110 = .ok (.istore_n 3, 1) := by decide +kernel
theorem dX7_best_111 : decode cX7_best 111 = .ok (.iinc 5 1, 3) := by decide +kernel
theorem dX7_best_114 : decode cX7_best 114 = .ok (.goto (-68), 3) := by decide +kernel
theorem dX7_best_117 : decode cX7_best 117 = .ok (.iload_n 3, 1) := by decide +kernel
theorem dX7_best_118 : decode cX7_best 118 = .ok (.ireturn, 1) := by decide +kernel
theorem dX7_richest_0 : decode cX7_richest 0 = .ok (.aload_n 0, 1) := by decide +kernel
theorem dX7_richest_1 : decode cX7_richest 1 = .ok (.getfield 10, 3) := by decide +kernel
theorem dX7_richest_4 : decode cX7_richest 4 = .ok (.iload_n 1, 1) := by decide +kernel
theorem dX7_richest_5 : decode cX7_richest 5 = .ok (.invokevirtual 82, 3) := by decide +kernel
theorem dX7_richest_8 : decode cX7_richest 8 = .ok (.ifCond .ne 10, 3) := by decide +kernel
theorem dX7_richest_11 : decode cX7_richest 11 = .ok (.aload_n 0, 1) := by decide +kernel
theorem dX7_richest_12 : decode cX7_richest 12 = .ok (.ldc 69, 2) := by decide +kernel
theorem dX7_richest_14 : decode cX7_richest 14 = .ok (.invokevirtual 70, 3) := by decide +kernel
theorem dX7_richest_17 : decode cX7_richest 17 = .ok (.ireturn, 1) := by decide +kernel
theorem dX7_richest_18 : decode cX7_richest 18 = .ok (.iconst 0, 1) := by decide +kernel
theorem dX7_richest_19 : decode cX7_richest 19 = .ok (.istore_n 2, 1) := by decide +kernel
theorem dX7_richest_20 : decode cX7_richest 20 = .ok (.iconst 0, 1) := by decide +kernel
theorem dX7_richest_21 : decode cX7_richest 21 = .ok (.istore_n 3, 1) := by decide +kernel
theorem dX7_richest_22 : decode cX7_richest 22 = .ok (.iconst 0, 1) := by decide +kernel
theorem dX7_richest_23 : decode cX7_richest 23 = .ok (.istore 4, 2) := by decide +kernel
theorem dX7_richest_25 : decode cX7_richest 25 = .ok (.iload 4, 2) := by decide +kernel
theorem dX7_richest_27 : decode cX7_richest 27 = .ok (.bipush 8, 2) := by decide +kernel
theorem dX7_richest_29 : decode cX7_richest 29 = .ok (.if_icmp .ge 36, 3) := by decide +kernel
theorem dX7_richest_32 : decode cX7_richest 32 = .ok (.aload_n 0, 1) := by decide +kernel
theorem dX7_richest_33 : decode cX7_richest 33 = .ok (.getfield 10, 3) := by decide +kernel
theorem dX7_richest_36 : decode cX7_richest 36 = .ok (.iload_n 1, 1) := by decide +kernel
theorem dX7_richest_37 : decode cX7_richest 37 = .ok (.iload 4, 2) := by decide +kernel
theorem dX7_richest_39 : decode cX7_richest 39 = .ok (.invokevirtual 116, 3) := by decide +kernel
theorem dX7_richest_42 : decode cX7_richest 42 = .ok (.invokestatic 205, 3) := by decide +kernel
theorem dX7_richest_45 : decode cX7_richest 45 = .ok (.istore 5, 2) := by decide +kernel
theorem dX7_richest_47 : decode cX7_richest 47 = .ok (.iload 5, 2) := by decide +kernel
theorem dX7_richest_49 : decode cX7_richest 49 = .ok (.iload_n 3, 1) := by decide +kernel
theorem dX7_richest_50 : decode cX7_richest 50 = .ok (.if_icmp .le 9, 3) := by decide +kernel
theorem dX7_richest_53 : decode cX7_richest 53 = .ok (.iload 5, 2) := by decide +kernel
theorem dX7_richest_55 : decode cX7_richest 55 = .ok (.istore_n 3, 1) := by decide +kernel
theorem dX7_richest_56 : decode cX7_richest 56 = .ok (.iload 4, 2) := by decide +kernel
theorem dX7_richest_58 : decode cX7_richest 58 = .ok (.istore_n 2, 1) := by decide +kernel
theorem dX7_richest_59 : decode cX7_richest 59 = .ok (.iinc 4 1, 3) := by decide +kernel
theorem dX7_richest_62 : decode cX7_richest 62 = .ok (.goto (-37), 3) := by decide +kernel
theorem dX7_richest_65 : decode cX7_richest 65 = .ok (.iload_n 3, 1) := by decide +kernel
theorem dX7_richest_66 : decode cX7_richest 66 = .ok (.ifCond .ne 12, 3) := by decide +kernel
theorem dX7_richest_69 : decode cX7_richest 69 = .ok (.aload_n 0, 1) := by decide +kernel
theorem dX7_richest_70 : decode cX7_richest 70 = .ok (.ldc 126, 2) := by decide +kernel
theorem dX7_richest_72 : decode cX7_richest 72 = .ok (.invokevirtual 70, 3) := by decide +kernel
theorem dX7_richest_75 : decode cX7_richest 75 = .ok (.goto 4, 3) := by decide +kernel
theorem dX7_richest_78 : decode cX7_richest 78 = .ok (.iload_n 2, 1) := by decide +kernel
theorem dX7_richest_79 : decode cX7_richest 79 = .ok (.ireturn, 1) := by decide +kernel
theorem dX7_feed_0 : decode cX7_feed 0 = .ok (.iload_n 2, 1) := by decide +kernel
theorem dX7_feed_1 : decode cX7_feed 1 = .ok (.iconst 1, 1) := by decide +kernel
theorem dX7_feed_2 : decode cX7_feed 2 = .ok (.if_icmp .lt 8, 3) := by decide +kernel
theorem dX7_feed_5 : decode cX7_feed 5 = .ok (.iload_n 2, 1) := by decide +kernel
theorem dX7_feed_6 : decode cX7_feed 6 = .ok (.iconst 4, 1) := by decide +kernel
theorem dX7_feed_7 : decode cX7_feed 7 = .ok (.if_icmp .le 10, 3) := by decide +kernel
theorem dX7_feed_10 : decode cX7_feed 10 = .ok (.aload_n 0, 1) := by decide +kernel
theorem dX7_feed_11 : decode cX7_feed 11 = .ok (.ldc 69, 2) := by decide +kernel
theorem dX7_feed_13 : decode cX7_feed 13 = .ok (.invokevirtual 70, 3) := by decide +kernel
theorem dX7_feed_16 : decode cX7_feed 16 = .ok (.ireturn, 1) := by decide +kernel
theorem dX7_feed_17 : decode cX7_feed 17 = .ok (.aload_n 0, 1) := by decide +kernel
theorem dX7_feed_18 : decode cX7_feed 18 = .ok (.getfield 40, 3) := by decide +kernel
theorem dX7_feed_21 : decode cX7_feed 21 = .ok (.iload_n 2, 1) := by decide +kernel
theorem dX7_feed_22 : decode cX7_feed 22 = .ok (.invokevirtual 231, 3) := by decide +kernel
theorem dX7_feed_25 : decode cX7_feed 25 = .ok (.ifCond .ne 10, 3) := by decide +kernel
theorem dX7_feed_28 : decode cX7_feed 28 = .ok (.aload_n 0, 1) := by decide +kernel
theorem dX7_feed_29 : decode cX7_feed 29 = .ok (.ldc 78, 2) := by decide +kernel
theorem dX7_feed_31 : decode cX7_feed 31 = .ok (.invokevirtual 70, 3) := by decide +kernel
theorem dX7_feed_34 : decode cX7_feed 34 = .ok (.ireturn, 1) := by decide +kernel
theorem dX7_feed_35 : decode cX7_feed 35 = .ok (.iload_n 2, 1) := by decide +kernel
theorem dX7_feed_36 : decode cX7_feed 36 = .ok (.iconst 1, 1) := by decide +kernel
theorem dX7_feed_37 : decode cX7_feed 37 = .ok (.isub, 1) := by decide +kernel
theorem dX7_feed_38 : decode cX7_feed 38 = .ok (.istore_n 3, 1) := by decide +kernel
theorem dX7_feed_39 : decode cX7_feed 39 = .ok (.iload_n 3, 1) := by decide +kernel
theorem dX7_feed_40 : decode cX7_feed 40 = .ok (.ifCond .lt 26, 3) := by decide +kernel
theorem dX7_feed_43 : decode cX7_feed 43 = .ok (.aload_n 0, 1) := by decide +kernel
theorem dX7_feed_44 : decode cX7_feed 44 = .ok (.getfield 40, 3) := by decide +kernel
theorem dX7_feed_47 : decode cX7_feed 47 = .ok (.iload_n 1, 1) := by decide +kernel
theorem dX7_feed_48 : decode cX7_feed 48 = .ok (.bipush 8, 2) := by decide +kernel
theorem dX7_feed_50 : decode cX7_feed 50 = .ok (.iload_n 3, 1) := by decide +kernel
theorem dX7_feed_51 : decode cX7_feed 51 = .ok (.imul, 1) := by decide +kernel
theorem dX7_feed_52 : decode cX7_feed 52 = .ok (.ishr, 1) := by decide +kernel
theorem dX7_feed_53 : decode cX7_feed 53 = .ok (.sipush 255, 3) := by decide +kernel
theorem dX7_feed_56 : decode cX7_feed 56 = .ok (.iand, 1) := by decide +kernel
theorem dX7_feed_57 : decode cX7_feed 57 = .ok (.invokevirtual 234, 3) := by decide +kernel
theorem dX7_feed_60 : decode cX7_feed 60 = .ok (.iinc 3 (-1), 3) := by decide +kernel
theorem dX7_feed_63 : decode cX7_feed 63 = .ok (.goto (-24), 3) := by decide +kernel
theorem dX7_feed_66 : decode cX7_feed 66 = .ok (.aload_n 0, 1) := by decide +kernel
theorem dX7_feed_67 : decode cX7_feed 67 = .ok (.getfield 40, 3) := by decide +kernel
theorem dX7_feed_70 : decode cX7_feed 70 = .ok (.getfield 237, 3) := by decide +kernel
theorem dX7_feed_73 : decode cX7_feed 73 = .ok (.ireturn, 1) := by decide +kernel
theorem dX7_wipe_0 : decode cX7_wipe 0 = .ok (.aload_n 0, 1) := by decide +kernel
theorem dX7_wipe_1 : decode cX7_wipe 1 = .ok (.getfield 40, 3) := by decide +kernel
theorem dX7_wipe_4 : decode cX7_wipe 4 = .ok (.getfield 237, 3) := by decide +kernel
theorem dX7_wipe_7 : decode cX7_wipe 7 = .ok (.istore_n 1, 1) := by decide +kernel
theorem dX7_wipe_8 : decode cX7_wipe 8 = .ok (.aload_n 0, 1) := by decide +kernel
theorem dX7_wipe_9 : decode cX7_wipe 9 = .ok (.getfield 40, 3) := by decide +kernel
theorem dX7_wipe_12 : decode cX7_wipe 12 = .ok (.iconst 0, 1) := by decide +kernel
theorem dX7_wipe_13 : decode cX7_wipe 13 = .ok (.putfield 237, 3) := by decide +kernel
theorem dX7_wipe_16 : decode cX7_wipe 16 = .ok (.iload_n 1, 1) := by decide +kernel
theorem dX7_wipe_17 : decode cX7_wipe 17 = .ok (.ireturn, 1) := by decide +kernel
theorem dX7_house_0 : decode cX7_house 0 = .ok (.aload_n 0, 1) := by decide +kernel
theorem dX7_house_1 : decode cX7_house 1 = .ok (.getfield 47, 3) := by decide +kernel
theorem dX7_house_4 : decode cX7_house 4 = .ok (.aload_n 0, 1) := by decide +kernel
theorem dX7_house_5 : decode cX7_house 5 = .ok (.getfield 40, 3) := by decide +kernel
theorem dX7_house_8 : decode cX7_house 8 = .ok (.aload_n 0, 1) := by decide +kernel
theorem dX7_house_9 : decode cX7_house 9 = .ok (.getfield 10, 3) := by decide +kernel
theorem dX7_house_12 : decode cX7_house 12 = .ok (.iconst 0, 1) := by decide +kernel
theorem dX7_house_13 : decode cX7_house 13 = .ok (.invokevirtual 240, 3) := by decide +kernel
theorem dX7_house_16 : decode cX7_house 16 = .ok (.istore_n 1, 1) := by decide +kernel
theorem dX7_house_17 : decode cX7_house 17 = .ok (.iload_n 1, 1) := by decide +kernel
theorem dX7_house_18 : decode cX7_house 18 = .ok (.ifCond .lt 20, 3) := by decide +kernel
theorem dX7_house_21 : decode cX7_house 21 = .ok (.aload_n 0, 1) := by decide +kernel
theorem dX7_house_22 : decode cX7_house 22 = .ok (.getfield 47, 3) := by decide +kernel
theorem dX7_house_25 : decode cX7_house 25 = .ok (.aload_n 0, 1) := by decide +kernel
theorem dX7_house_26 : decode cX7_house 26 = .ok (.getfield 40, 3) := by decide +kernel
theorem dX7_house_29 : decode cX7_house 29 = .ok (.aload_n 0, 1) := by decide +kernel
theorem dX7_house_30 : decode cX7_house 30 = .ok (.getfield 10, 3) := by decide +kernel
theorem dX7_house_33 : decode cX7_house 33 = .ok (.iconst 1, 1) := by decide +kernel
theorem dX7_house_34 : decode cX7_house 34 = .ok (.invokevirtual 240, 3) := by decide +kernel
theorem dX7_house_37 : decode cX7_house 37 = .ok (.istore_n 1, 1) := by decide +kernel
theorem dX7_house_38 : decode cX7_house 38 = .ok (.aload_n 0, 1) := by decide +kernel
theorem dX7_house_39 : decode cX7_house 39 = .ok (.getfield 40, 3) := by decide +kernel
theorem dX7_house_42 : decode cX7_house 42 = .ok (.iconst 0, 1) := by decide +kernel
theorem dX7_house_43 : decode cX7_house 43 = .ok (.putfield 237, 3) := by decide +kernel
theorem dX7_house_46 : decode cX7_house 46 = .ok (.iload_n 1, 1) := by decide +kernel
theorem dX7_house_47 : decode cX7_house 47 = .ok (.ireturn, 1) := by decide +kernel
theorem dX7_sheet_0 : decode cX7_sheet 0 = .ok (.iload_n 1, 1) := by decide +kernel
theorem dX7_sheet_1 : decode cX7_sheet 1 = .ok (.invokestatic 244, 3) := by decide +kernel
theorem dX7_sheet_4 : decode cX7_sheet 4 = .ok (.ifCond .eq 10, 3) := by decide +kernel
theorem dX7_sheet_7 : decode cX7_sheet 7 = .ok (.iload_n 2, 1) := by decide +kernel
theorem dX7_sheet_8 : decode cX7_sheet 8 = .ok (.invokestatic 247, 3) := by decide +kernel
theorem dX7_sheet_11 : decode cX7_sheet 11 = .ok (.ifCond .ne 10, 3) := by decide +kernel
theorem dX7_sheet_14 : decode cX7_sheet 14 = .ok (.aload_n 0, 1) := by decide +kernel
theorem dX7_sheet_15 : decode cX7_sheet 15 = .ok (.ldc 69, 2) := by decide +kernel
theorem dX7_sheet_17 : decode cX7_sheet 17 = .ok (.invokevirtual 70, 3) := by decide +kernel
theorem dX7_sheet_20 : decode cX7_sheet 20 = .ok (.ireturn, 1) := by decide +kernel
theorem dX7_sheet_21 : decode cX7_sheet 21 = .ok (.iload_n 3, 1) := by decide +kernel
theorem dX7_sheet_22 : decode cX7_sheet 22 = .ok (.ifCond .ge 10, 3) := by decide +kernel
theorem dX7_sheet_25 : decode cX7_sheet 25 = .ok (.aload_n 0, 1) := by decide +kernel
theorem dX7_sheet_26 : decode cX7_sheet 26 = .ok (.ldc 250, 2) := by decide +kernel
theorem dX7_sheet_28 : decode cX7_sheet 28 = .ok (.invokevirtual 70, 3) := by decide +kernel
theorem dX7_sheet_31 : decode cX7_sheet 31 = .ok (.ireturn, 1) := by decide +kernel
theorem dX7_sheet_32 : decode cX7_sheet 32 = .ok (.iload_n 3, 1) := by decide +kernel
theorem dX7_sheet_33 : decode cX7_sheet 33 = .ok (.bipush 40, 2) := by decide +kernel
theorem dX7_sheet_35 : decode cX7_sheet 35 = .ok (.if_icmp .le 10, 3) := by decide +kernel
theorem dX7_sheet_38 : decode cX7_sheet 38 = .ok (.aload_n 0, 1) := by decide +kernel
theorem dX7_sheet_39 : decode cX7_sheet 39 = .ok (.ldc 69, 2) := by decide +kernel
theorem dX7_sheet_41 : decode cX7_sheet 41 = .ok (.invokevirtual 70, 3) := by decide +kernel
theorem dX7_sheet_44 : decode cX7_sheet 44 = .ok (.ireturn, 1) := by decide +kernel
theorem dX7_sheet_45 : decode cX7_sheet 45 = .ok (.aload_n 0, 1) := by decide +kernel
theorem dX7_sheet_46 : decode cX7_sheet 46 = .ok (.getfield 54, 3) := by decide +kernel
theorem dX7_sheet_49 : decode cX7_sheet 49 = .ok (.iload_n 1, 1) := by decide +kernel
theorem dX7_sheet_50 : decode cX7_sheet 50 = .ok (.iload_n 2, 1) := by decide +kernel
theorem dX7_sheet_51 : decode cX7_sheet 51 = .ok (.iload_n 3, 1) := by decide +kernel
theorem dX7_sheet_52 : decode cX7_sheet 52 = .ok (.invokevirtual 251, 3) := by decide +kernel
theorem dX7_sheet_55 : decode cX7_sheet 55 = .ok (.ireturn, 1) := by decide +kernel
theorem dX7_write_0 : decode cX7_write 0 = .ok (.aload_n 0, 1) := by decide +kernel
theorem dX7_write_1 : decode cX7_write 1 = .ok (.iload_n 1, 1) := by decide +kernel
theorem dX7_write_2 : decode cX7_write 2 = .ok (.invokevirtual 254, 3) := by decide +kernel
theorem dX7_write_5 : decode cX7_write 5 = .ok (.istore 5, 2) := by decide +kernel
theorem dX7_write_7 : decode cX7_write 7 = .ok (.iload 5, 2) := by decide +kernel
theorem dX7_write_9 : decode cX7_write 9 = .ok (.ifCond .eq 7, 3) := by decide +kernel
theorem dX7_write_12 : decode cX7_write 12 = .ok (.iload 5, 2) := by decide +kernel
theorem dX7_write_14 : decode cX7_write 14 = .ok (.i2l, 1) := by decide +kernel
theorem dX7_write_15 : decode cX7_write 15 = .ok (.lreturn, 1) := by decide +kernel
theorem dX7_write_16 : decode cX7_write 16 = .ok (.iload_n 2, 1) := by decide +kernel
theorem dX7_write_17 : decode cX7_write 17 = .ok (.aload_n 0, 1) := by decide +kernel
theorem dX7_write_18 : decode cX7_write 18 = .ok (.getfield 54, 3) := by decide +kernel
theorem dX7_write_21 : decode cX7_write 21 = .ok (.iload_n 1, 1) := by decide +kernel
theorem dX7_write_22 : decode cX7_write 22 = .ok (.invokevirtual 257, 3) := by decide +kernel
theorem dX7_write_25 : decode cX7_write 25 = .ok (.invokestatic 119, 3) := by decide +kernel
theorem dX7_write_28 : decode cX7_write 28 = .ok (.ifCond .ne 11, 3) := by decide +kernel
theorem dX7_write_31 : decode cX7_write 31 = .ok (.aload_n 0, 1) := by decide +kernel
theorem dX7_write_32 : decode cX7_write 32 = .ok (.ldc 69, 2) := by decide +kernel
theorem dX7_write_34 : decode cX7_write 34 = .ok (.invokevirtual 70, 3) := by decide +kernel
theorem dX7_write_37 : decode cX7_write 37 = .ok (.i2l, 1) := by decide +kernel
theorem dX7_write_38 : decode cX7_write 38 = .ok (.lreturn, 1) := by decide +kernel
theorem dX7_write_39 : decode cX7_write 39 = .ok (.aload_n 0, 1) := by decide +kernel
theorem dX7_write_40 : decode cX7_write 40 = .ok (.getfield 54, 3) := by decide +kernel
theorem dX7_write_43 : decode cX7_write 43 = .ok (.iload_n 1, 1) := by decide +kernel
theorem dX7_write_44 : decode cX7_write 44 = .ok (.iload_n 2, 1) := by decide +kernel
theorem dX7_write_45 : decode cX7_write 45 = .ok (.invokevirtual 259, 3) := by decide +kernel
theorem dX7_write_48 : decode cX7_write 48 = .ok (.lstore 6, 2) := by decide +kernel
theorem dX7_write_50 : decode cX7_write 50 = .ok (.aload_n 0, 1) := by decide +kernel
theorem dX7_write_51 : decode cX7_write 51 = .ok (.getfield 54, 3) := by decide +kernel
theorem dX7_write_54 : decode cX7_write 54 = .ok (.iload_n 1, 1) := by decide +kernel
theorem dX7_write_55 : decode cX7_write 55 = .ok (.iload_n 2, 1) := by decide +kernel
theorem dX7_write_56 : decode cX7_write 56 = .ok (.lload_n 3, 1) := by decide +kernel
theorem dX7_write_57 : decode cX7_write 57 = .ok (.invokevirtual 262, 3) := by decide +kernel
theorem dX7_write_60 : decode cX7_write 60 = .ok (.lload 6, 2) := by decide +kernel
theorem dX7_write_62 : decode cX7_write 62 = .ok (.lreturn, 1) := by decide +kernel
theorem dX7_copy_0 : decode cX7_copy 0 = .ok (.iload_n 1, 1) := by decide +kernel
theorem dX7_copy_1 : decode cX7_copy 1 = .ok (.invokestatic 244, 3) := by decide +kernel
theorem dX7_copy_4 : decode cX7_copy 4 = .ok (.ifCond .eq 10, 3) := by decide +kernel
theorem dX7_copy_7 : decode cX7_copy 7 = .ok (.iload_n 3, 1) := by decide +kernel
theorem dX7_copy_8 : decode cX7_copy 8 = .ok (.invokestatic 244, 3) := by decide +kernel
theorem dX7_copy_11 : decode cX7_copy 11 = .ok (.ifCond .ne 10, 3) := by decide +kernel
theorem dX7_copy_14 : decode cX7_copy 14 = .ok (.aload_n 0, 1) := by decide +kernel
theorem dX7_copy_15 : decode cX7_copy 15 = .ok (.ldc 69, 2) := by decide +kernel
theorem dX7_copy_17 : decode cX7_copy 17 = .ok (.invokevirtual 70, 3) := by decide +kernel
theorem dX7_copy_20 : decode cX7_copy 20 = .ok (.ireturn, 1) := by decide +kernel
theorem dX7_copy_21 : decode cX7_copy 21 = .ok (.aload_n 0, 1) := by decide +kernel
theorem dX7_copy_22 : decode cX7_copy 22 = .ok (.getfield 54, 3) := by decide +kernel
theorem dX7_copy_25 : decode cX7_copy 25 = .ok (.iload_n 1, 1) := by decide +kernel
theorem dX7_copy_26 : decode cX7_copy 26 = .ok (.invokevirtual 266, 3) := by decide +kernel
theorem dX7_copy_29 : decode cX7_copy 29 = .ok (.ifCond .ne 14, 3) := by decide +kernel
theorem dX7_copy_32 : decode cX7_copy 32 = .ok (.aload_n 0, 1) := by decide +kernel
theorem dX7_copy_33 : decode cX7_copy 33 = .ok (.getfield 54, 3) := by decide +kernel
theorem dX7_copy_36 : decode cX7_copy 36 = .ok (.iload_n 3, 1) := by decide +kernel
theorem dX7_copy_37 : decode cX7_copy 37 = .ok (.invokevirtual 266, 3) := by decide +kernel
theorem dX7_copy_40 : decode cX7_copy 40 = .ok (.ifCond .eq 11, 3) := by decide +kernel
theorem dX7_copy_43 : decode cX7_copy 43 = .ok (.aload_n 0, 1) := by decide +kernel
theorem dX7_copy_44 : decode cX7_copy 44 = .ok (.ldc_w 269, 3) := by decide +kernel
theorem dX7_copy_47 : decode cX7_copy 47 = .ok (.invokevirtual 70, 3) := by decide +kernel
theorem dX7_copy_50 : decode cX7_copy 50 = .ok (.ireturn, 1) := by decide +kernel
theorem dX7_copy_51 : decode cX7_copy 51 = .ok (.aload_n 0, 1) := by decide +kernel
theorem dX7_copy_52 : decode cX7_copy 52 = .ok (.getfield 54, 3) := by decide +kernel
theorem dX7_copy_55 : decode cX7_copy 55 = .ok (.iload_n 1, 1) := by decide +kernel
theorem dX7_copy_56 : decode cX7_copy 56 = .ok (.invokevirtual 270, 3) := by decide +kernel
theorem dX7_copy_59 : decode cX7_copy 59 = .ok (.aload_n 0, 1) := by decide +kernel
theorem dX7_copy_60 : decode cX7_copy 60 = .ok (.getfield 54, 3) := by decide +kernel
theorem dX7_copy_63 : decode cX7_copy 63 = .ok (.iload_n 3, 1) := by decide +kernel
theorem dX7_copy_64 : decode cX7_copy 64 = .ok (.invokevirtual 270, 3) := by decide +kernel
theorem dX7_copy_67 : decode cX7_copy 67 = .ok (.if_icmp .eq 10, 3) := by decide +kernel
theorem dX7_copy_70 : decode cX7_copy 70 = .ok (.aload_n 0, 1) := by decide +kernel
theorem dX7_copy_71 : decode cX7_copy 71 = .ok (.ldc 141, 2) := by decide +kernel
theorem dX7_copy_73 : decode cX7_copy 73 = .ok (.invokevirtual 70, 3) := by decide +kernel
theorem dX7_copy_76 : decode cX7_copy 76 = .ok (.ireturn, 1) := by decide +kernel
theorem dX7_copy_77 : decode cX7_copy 77 = .ok (.aload_n 0, 1) := by decide +kernel
theorem dX7_copy_78 : decode cX7_copy 78 = .ok (.getfield 54, 3) := by decide +kernel
theorem dX7_copy_81 : decode cX7_copy 81 = .ok (.iload_n 1, 1) := by decide +kernel
theorem dX7_copy_82 : decode cX7_copy 82 = .ok (.iload_n 2, 1) := by decide +kernel
theorem dX7_copy_83 : decode cX7_copy 83 = .ok (.iload 5, 2) := by decide +kernel
theorem dX7_copy_85 : decode cX7_copy 85 = .ok (.invokevirtual 273, 3) := by decide +kernel
theorem dX7_copy_88 : decode cX7_copy 88 = .ok (.ifCond .eq 18, 3) := by decide +kernel
theorem dX7_copy_91 : decode cX7_copy 91 = .ok (.aload_n 0, 1) := by decide +kernel
theorem dX7_copy_92 : decode cX7_copy 92 = .ok (.getfield 54, 3) := by decide +kernel
theorem dX7_copy_95 : decode cX7_copy 95 = .ok (.iload_n 3, 1) := by decide +kernel
theorem dX7_copy_96 : decode cX7_copy 96 = .ok (.iload 4, 2) := by decide +kernel
theorem dX7_copy_98 : decode cX7_copy 98 = .ok (.iload 5, 2) := by decide +kernel
theorem dX7_copy_100 : decode cX7_copy 100 = .ok (.invokevirtual 273, 3) := by decide +kernel
theorem dX7_copy_103 : decode cX7_copy 103 = .ok (.ifCond .ne 10, 3) := by decide +kernel
theorem dX7_copy_106 : decode cX7_copy 106 = .ok (.aload_n 0, 1) := by decide +kernel
theorem dX7_copy_107 : decode cX7_copy 107 = .ok (.ldc 69, 2) := by decide +kernel
theorem dX7_copy_109 : decode cX7_copy 109 = .ok (.invokevirtual 70, 3) := by decide +kernel
theorem dX7_copy_112 : decode cX7_copy 112 = .ok (.ireturn, 1) := by decide +kernel
theorem dX7_copy_113 : decode cX7_copy 113 = .ok (.aload_n 0, 1) := by decide +kernel
theorem dX7_copy_114 : decode cX7_copy 114 = .ok (.getfield 54, 3) := by decide +kernel
theorem dX7_copy_117 : decode cX7_copy 117 = .ok (.iload_n 1, 1) := by decide +kernel
theorem dX7_copy_118 : decode cX7_copy 118 = .ok (.iload_n 2, 1) := by decide +kernel
theorem dX7_copy_119 : decode cX7_copy 119 = .ok (.iload_n 3, 1) := by decide +kernel
theorem dX7_copy_120 : decode cX7_copy 120 = .ok (.iload 4, 2) := by decide +kernel
theorem dX7_copy_122 : decode cX7_copy 122 = .ok (.iload 5, 2) := by decide +kernel
theorem dX7_copy_124 : decode cX7_copy 124 = .ok (.invokevirtual 276, 3) := by decide +kernel
theorem dX7_copy_127 : decode cX7_copy 127 = .ok (.iload 5, 2) := by decide +kernel
theorem dX7_copy_129 : decode cX7_copy 129 = .ok (.ireturn, 1) := by decide +kernel
theorem dX7_lays_0 : decode cX7_lays 0 = .ok (.aload_n 0, 1) := by decide +kernel
theorem dX7_lays_1 : decode cX7_lays 1 = .ok (.iload_n 1, 1) := by decide +kernel
theorem dX7_lays_2 : decode cX7_lays 2 = .ok (.iload_n 2, 1) := by decide +kernel
theorem dX7_lays_3 : decode cX7_lays 3 = .ok (.invokevirtual 280, 3) := by decide +kernel
theorem dX7_lays_6 : decode cX7_lays 6 = .ok (.istore_n 3, 1) := by decide +kernel
theorem dX7_lays_7 : decode cX7_lays 7 = .ok (.iload_n 3, 1) := by decide +kernel
theorem dX7_lays_8 : decode cX7_lays 8 = .ok (.ifCond .eq 5, 3) := by decide +kernel
theorem dX7_lays_11 : decode cX7_lays 11 = .ok (.iload_n 3, 1) := by decide +kernel
theorem dX7_lays_12 : decode cX7_lays 12 = .ok (.ireturn, 1) := by decide +kernel
theorem dX7_lays_13 : decode cX7_lays 13 = .ok (.iconst 0, 1) := by decide +kernel
theorem dX7_lays_14 : decode cX7_lays 14 = .ok (.istore 4, 2) := by decide +kernel
theorem dX7_lays_16 : decode cX7_lays 16 = .ok (.iconst 0, 1) := by decide +kernel
theorem dX7_lays_17 : decode cX7_lays 17 = .ok (.istore 5, 2) := by decide +kernel
theorem dX7_lays_19 : decode cX7_lays 19 = .ok (.iload 5, 2) := by decide +kernel
theorem dX7_lays_21 : decode cX7_lays 21 = .ok (.aload_n 0, 1) := by decide +kernel
theorem dX7_lays_22 : decode cX7_lays 22 = .ok (.getfield 54, 3) := by decide +kernel
theorem dX7_lays_25 : decode cX7_lays 25 = .ok (.iload_n 1, 1) := by decide +kernel
theorem dX7_lays_26 : decode cX7_lays 26 = .ok (.invokevirtual 257, 3) := by decide +kernel
theorem dX7_lays_29 : decode cX7_lays 29 = .ok (.if_icmp .ge 59, 3) := by decide +kernel
theorem dX7_lays_32 : decode cX7_lays 32 = .ok (.aload_n 0, 1) := by decide +kernel
theorem dX7_lays_33 : decode cX7_lays 33 = .ok (.getfield 54, 3) := by decide +kernel
theorem dX7_lays_36 : decode cX7_lays 36 = .ok (.iload_n 1, 1) := by decide +kernel
theorem dX7_lays_37 : decode cX7_lays 37 = .ok (.iload 5, 2) := by decide +kernel
theorem dX7_lays_39 : decode cX7_lays 39 = .ok (.invokevirtual 259, 3) := by decide +kernel
theorem dX7_lays_42 : decode cX7_lays 42 = .ok (.lstore 6, 2) := by decide +kernel
theorem dX7_lays_44 : decode cX7_lays 44 = .ok (.lload 6, 2) := by decide +kernel
theorem dX7_lays_46 : decode cX7_lays 46 = .ok (.lconst 0, 1) := by decide +kernel
theorem dX7_lays_47 : decode cX7_lays 47 = .ok (.lcmp, 1) := by decide +kernel
theorem dX7_lays_48 : decode cX7_lays 48 = .ok (.ifCond .lt 34, 3) := by decide +kernel
theorem dX7_lays_51 : decode cX7_lays 51 = .ok (.lload 6, 2) := by decide +kernel
theorem dX7_lays_53 : decode cX7_lays 53 = .ok (.ldc2_w 283, 3) := by decide +kernel
theorem dX7_lays_56 : decode cX7_lays 56 = .ok (.lcmp, 1) := by decide +kernel
theorem dX7_lays_57 : decode cX7_lays 57 = .ok (.ifCond .lt 6, 3) := by decide +kernel
theorem dX7_lays_60 : decode cX7_lays 60 = .ok (.goto 22, 3) := by decide +kernel
theorem dX7_lays_63 : decode cX7_lays 63 = .ok (.aload_n 0, 1) := by decide +kernel
theorem dX7_lays_64 : decode cX7_lays 64 = .ok (.getfield 10, 3) := by decide +kernel
theorem dX7_lays_67 : decode cX7_lays 67 = .ok (.iload_n 2, 1) := by decide +kernel
theorem dX7_lays_68 : decode cX7_lays 68 = .ok (.lload 6, 2) := by decide +kernel
theorem dX7_lays_70 : decode cX7_lays 70 = .ok (.l2i, 1) := by decide +kernel
theorem dX7_lays_71 : decode cX7_lays 71 = .ok (.iconst 5, 1) := by decide +kernel
theorem dX7_lays_72 : decode cX7_lays 72 = .ok (.invokevirtual 155, 3) := by decide +kernel
theorem dX7_lays_75 : decode cX7_lays 75 = .ok (.iconst (-1), 1) := by decide +kernel
theorem dX7_lays_76 : decode cX7_lays 76 = .ok (.if_icmp .eq 6, 3) := by decide +kernel
theorem dX7_lays_79 : decode cX7_lays 79 = .ok (.iinc 4 1, 3) := by decide +kernel
theorem dX7_lays_82 : decode cX7_lays 82 = .ok (.iinc 5 1, 3) := by decide +kernel
theorem dX7_lays_85 : decode cX7_lays 85 = .ok (.goto (-66), 3) := by decide +kernel
theorem dX7_lays_88 : decode cX7_lays 88 = .ok (.iload 4, 2) := by decide +kernel
theorem dX7_lays_90 : decode cX7_lays 90 = .ok (.ireturn, 1) := by decide +kernel
theorem dX7_book_0 : decode cX7_book 0 = .ok (.aload_n 0, 1) := by decide +kernel
theorem dX7_book_1 : decode cX7_book 1 = .ok (.iload_n 1, 1) := by decide +kernel
theorem dX7_book_2 : decode cX7_book 2 = .ok (.iload_n 2, 1) := by decide +kernel
theorem dX7_book_3 : decode cX7_book 3 = .ok (.invokevirtual 280, 3) := by decide +kernel
theorem dX7_book_6 : decode cX7_book 6 = .ok (.istore_n 3, 1) := by decide +kernel
theorem dX7_book_7 : decode cX7_book 7 = .ok (.iload_n 3, 1) := by decide +kernel
theorem dX7_book_8 : decode cX7_book 8 = .ok (.ifCond .eq 5, 3) := by decide +kernel
theorem dX7_book_11 : decode cX7_book 11 = .ok (.iload_n 3, 1) := by decide +kernel
theorem dX7_book_12 : decode cX7_book 12 = .ok (.ireturn, 1) := by decide +kernel
theorem dX7_book_13 : decode cX7_book 13 = .ok (.aload_n 0, 1) := by decide +kernel
theorem dX7_book_14 : decode cX7_book 14 = .ok (.getfield 26, 3) := by decide +kernel
theorem dX7_book_17 : decode cX7_book 17 = .ok (.aload_n 0, 1) := by decide +kernel
theorem dX7_book_18 : decode cX7_book 18 = .ok (.getfield 10, 3) := by decide +kernel
theorem dX7_book_21 : decode cX7_book 21 = .ok (.iload_n 2, 1) := by decide +kernel
theorem dX7_book_22 : decode cX7_book 22 = .ok (.bipush 7, 2) := by decide +kernel
theorem dX7_book_24 : decode cX7_book 24 = .ok (.bipush 9, 2) := by decide +kernel
theorem dX7_book_26 : decode cX7_book 26 = .ok (.iconst 0, 1) := by decide +kernel
theorem dX7_book_27 : decode cX7_book 27 = .ok (.invokevirtual 186, 3) := by decide +kernel
theorem dX7_book_30 : decode cX7_book 30 = .ok (.iconst 0, 1) := by decide +kernel
theorem dX7_book_31 : decode cX7_book 31 = .ok (.istore 4, 2) := by decide +kernel
theorem dX7_book_33 : decode cX7_book 33 = .ok (.iload 4, 2) := by decide +kernel
theorem dX7_book_35 : decode cX7_book 35 = .ok (.aload_n 0, 1) := by decide +kernel
theorem dX7_book_36 : decode cX7_book 36 = .ok (.getfield 54, 3) := by decide +kernel
theorem dX7_book_39 : decode cX7_book 39 = .ok (.iload_n 1, 1) := by decide +kernel
theorem dX7_book_40 : decode cX7_book 40 = .ok (.invokevirtual 257, 3) := by decide +kernel
theorem dX7_book_43 : decode cX7_book 43 = .ok (.if_icmp .ge 47, 3) := by decide +kernel
theorem dX7_book_46 : decode cX7_book 46 = .ok (.aload_n 0, 1) := by decide +kernel
theorem dX7_book_47 : decode cX7_book 47 = .ok (.getfield 54, 3) := by decide +kernel
theorem dX7_book_50 : decode cX7_book 50 = .ok (.iload_n 1, 1) := by decide +kernel
theorem dX7_book_51 : decode cX7_book 51 = .ok (.iload 4, 2) := by decide +kernel
theorem dX7_book_53 : decode cX7_book 53 = .ok (.iload 4, 2) := by decide +kernel
theorem dX7_book_55 : decode cX7_book 55 = .ok (.aload_n 0, 1) := by decide +kernel
theorem dX7_book_56 : decode cX7_book 56 = .ok (.getfield 26, 3) := by decide +kernel
theorem dX7_book_59 : decode cX7_book 59 = .ok (.getfield 193, 3) := by decide +kernel
theorem dX7_book_62 : decode cX7_book 62 = .ok (.if_icmp .ge 16, 3) := by decide +kernel
theorem dX7_book_65 : decode cX7_book 65 = .ok (.aload_n 0, 1) := by decide +kernel
theorem dX7_book_66 : decode cX7_book 66 = .ok (.getfield 26, 3) := by decide +kernel
theorem dX7_book_69 : decode cX7_book 69 = .ok (.iload 4, 2) := by decide +kernel
theorem dX7_book_71 : decode cX7_book 71 = .ok (.invokevirtual 196, 3) := by decide +kernel
theorem dX7_book_74 : decode cX7_book 74 = .ok (.i2l, 1) := by decide +kernel
theorem dX7_book_75 : decode cX7_book 75 = .ok (.goto 6, 3) := by decide +kernel
theorem dX7_book_78 : decode cX7_book 78 = .ok (.ldc2_w 285, 3) := by decide +kernel
theorem dX7_book_81 : decode cX7_book 81 = .ok (.invokevirtual 262, 3) := by decide +kernel
theorem dX7_book_84 : decode cX7_book 84 = .ok (.iinc 4 1, 3) := by decide +kernel
theorem dX7_book_87 : decode cX7_book 87 = .ok (.goto (-54), 3) := by decide +kernel
theorem dX7_book_90 : decode cX7_book 90 = .ok (.aload_n 0, 1) := by decide +kernel
theorem dX7_book_91 : decode cX7_book 91 = .ok (.getfield 26, 3) := by decide +kernel
theorem dX7_book_94 : decode cX7_book 94 = .ok (.getfield 193, 3) := by decide +kernel
theorem dX7_book_97 : decode cX7_book 97 = .ok (.ireturn, 1) := by decide +kernel
theorem dX7_read_0 : decode cX7_read 0 = .ok (.aload_n 0, 1) := by decide +kernel
theorem dX7_read_1 : decode cX7_read 1 = .ok (.iload_n 1, 1) := by decide +kernel
theorem dX7_read_2 : decode cX7_read 2 = .ok (.iload_n 2, 1) := by decide +kernel
theorem dX7_read_3 : decode cX7_read 3 = .ok (.invokevirtual 280, 3) := by decide +kernel
theorem dX7_read_6 : decode cX7_read 6 = .ok (.istore_n 3, 1) := by decide +kernel
theorem dX7_read_7 : decode cX7_read 7 = .ok (.iload_n 3, 1) := by decide +kernel
theorem dX7_read_8 : decode cX7_read 8 = .ok (.ifCond .eq 5, 3) := by decide +kernel
theorem dX7_read_11 : decode cX7_read 11 = .ok (.iload_n 3, 1) := by decide +kernel
theorem dX7_read_12 : decode cX7_read 12 = .ok (.ireturn, 1) := by decide +kernel
theorem dX7_read_13 : decode cX7_read 13 = .ok (.iconst 0, 1) := by decide +kernel
theorem dX7_read_14 : decode cX7_read 14 = .ok (.istore 4, 2) := by decide +kernel
theorem dX7_read_16 : decode cX7_read 16 = .ok (.iconst 0, 1) := by decide +kernel
theorem dX7_read_17 : decode cX7_read 17 = .ok (.istore 5, 2) := by decide +kernel
theorem dX7_read_19 : decode cX7_read 19 = .ok (.iload 5, 2) := by decide +kernel
theorem dX7_read_21 : decode cX7_read 21 = .ok (.bipush 8, 2) := by decide +kernel
theorem dX7_read_23 : decode cX7_read 23 = .ok (.if_icmp .ge 53, 3) := by decide +kernel
theorem dX7_read_26 : decode cX7_read 26 = .ok (.iconst 1, 1) := by decide +kernel
theorem dX7_read_27 : decode cX7_read 27 = .ok (.istore 6, 2) := by decide +kernel
theorem dX7_read_29 : decode cX7_read 29 = .ok (.iload 6, 2) := by decide +kernel
theorem dX7_read_31 : decode cX7_read 31 = .ok (.bipush 9, 2) := by decide +kernel
theorem dX7_read_33 : decode cX7_read 33 = .ok (.if_icmp .gt 37, 3) := by decide +kernel
theorem dX7_read_36 : decode cX7_read 36 = .ok (.aload_n 0, 1) := by decide +kernel
theorem dX7_read_37 : decode cX7_read 37 = .ok (.getfield 26, 3) := by decide +kernel
theorem dX7_read_40 : decode cX7_read 40 = .ok (.aload_n 0, 1) := by decide +kernel
theorem dX7_read_41 : decode cX7_read 41 = .ok (.getfield 10, 3) := by decide +kernel
theorem dX7_read_44 : decode cX7_read 44 = .ok (.iload_n 2, 1) := by decide +kernel
theorem dX7_read_45 : decode cX7_read 45 = .ok (.iload 5, 2) := by decide +kernel
theorem dX7_read_47 : decode cX7_read 47 = .ok (.iload 6, 2) := by decide +kernel
theorem dX7_read_49 : decode cX7_read 49 = .ok (.iconst 0, 1) := by decide +kernel
theorem dX7_read_50 : decode cX7_read 50 = .ok (.invokevirtual 186, 3) := by decide +kernel
theorem dX7_read_53 : decode cX7_read 53 = .ok (.aload_n 0, 1) := by decide +kernel
theorem dX7_read_54 : decode cX7_read 54 = .ok (.iload_n 1, 1) := by decide +kernel
theorem dX7_read_55 : decode cX7_read 55 = .ok (.invokevirtual 287, 3) := by decide +kernel
theorem dX7_read_58 : decode cX7_read 58 = .ok (.ifCond .eq 6, 3) := by decide +kernel
theorem dX7_read_61 : decode cX7_read 61 = .ok (.iinc 4 1, 3) := by decide +kernel
theorem dX7_read_64 : decode cX7_read 64 = .ok (.iinc 6 1, 3) := by decide +kernel
theorem dX7_read_67 : decode cX7_read 67 = .ok (.goto (-38), 3) := by decide +kernel
theorem dX7_read_70 : decode cX7_read 70 = .ok (.iinc 5 1, 3) := by decide +kernel
theorem dX7_read_73 : decode cX7_read 73 = .ok (.goto (-54), 3) := by decide +kernel
theorem dX7_read_76 : decode cX7_read 76 = .ok (.iload 4, 2) := by decide +kernel
theorem dX7_read_78 : decode cX7_read 78 = .ok (.ireturn, 1) := by decide +kernel
theorem dX7_image_0 : decode cX7_image 0 = .ok (.aload_n 0, 1) := by decide +kernel
theorem dX7_image_1 : decode cX7_image 1 = .ok (.getfield 16, 3) := by decide +kernel
theorem dX7_image_4 : decode cX7_image 4 = .ok (.aload_n 0, 1) := by decide +kernel
theorem dX7_image_5 : decode cX7_image 5 = .ok (.getfield 10, 3) := by decide +kernel
theorem dX7_image_8 : decode cX7_image 8 = .ok (.invokevirtual 290, 3) := by decide +kernel
theorem dX7_image_11 : decode cX7_image 11 = .ok (.aload_n 0, 1) := by decide +kernel
theorem dX7_image_12 : decode cX7_image 12 = .ok (.iconst 1, 1) := by decide +kernel
theorem dX7_image_13 : decode cX7_image 13 = .ok (.putfield 19, 3) := by decide +kernel
theorem dX7_image_16 : decode cX7_image 16 = .ok (.iconst 1, 1) := by decide +kernel
theorem dX7_image_17 : decode cX7_image 17 = .ok (.ireturn, 1) := by decide +kernel
theorem dX7_undo_0 : decode cX7_undo 0 = .ok (.aload_n 0, 1) := by decide +kernel
theorem dX7_undo_1 : decode cX7_undo 1 = .ok (.getfield 19, 3) := by decide +kernel
theorem dX7_undo_4 : decode cX7_undo 4 = .ok (.ifCond .ne 10, 3) := by decide +kernel
theorem dX7_undo_7 : decode cX7_undo 7 = .ok (.aload_n 0, 1) := by decide +kernel
theorem dX7_undo_8 : decode cX7_undo 8 = .ok (.ldc 126, 2) := by decide +kernel
theorem dX7_undo_10 : decode cX7_undo 10 = .ok (.invokevirtual 70, 3) := by decide +kernel
theorem dX7_undo_13 : decode cX7_undo 13 = .ok (.ireturn, 1) := by decide +kernel
theorem dX7_undo_14 : decode cX7_undo 14 = .ok (.aload_n 0, 1) := by decide +kernel
theorem dX7_undo_15 : decode cX7_undo 15 = .ok (.getfield 10, 3) := by decide +kernel
theorem dX7_undo_18 : decode cX7_undo 18 = .ok (.aload_n 0, 1) := by decide +kernel
theorem dX7_undo_19 : decode cX7_undo 19 = .ok (.getfield 16, 3) := by decide +kernel
theorem dX7_undo_22 : decode cX7_undo 22 = .ok (.invokevirtual 290, 3) := by decide +kernel
theorem dX7_undo_25 : decode cX7_undo 25 = .ok (.aload_n 0, 1) := by decide +kernel
theorem dX7_undo_26 : decode cX7_undo 26 = .ok (.getfield 10, 3) := by decide +kernel
theorem dX7_undo_29 : decode cX7_undo 29 = .ok (.getfield 74, 3) := by decide +kernel
theorem dX7_undo_32 : decode cX7_undo 32 = .ok (.ireturn, 1) := by decide +kernel
theorem dX7_tear_0 : decode cX7_tear 0 = .ok (.aload_n 0, 1) := by decide +kernel
theorem dX7_tear_1 : decode cX7_tear 1 = .ok (.getfield 19, 3) := by decide +kernel
theorem dX7_tear_4 : decode cX7_tear 4 = .ok (.ifCond .eq 7, 3) := by decide +kernel
theorem dX7_tear_7 : decode cX7_tear 7 = .ok (.iconst 1, 1) := by decide +kernel
theorem dX7_tear_8 : decode cX7_tear 8 = .ok (.goto 4, 3) := by decide +kernel
theorem dX7_tear_11 : decode cX7_tear 11 = .ok (.iconst 0, 1) := by decide +kernel
theorem dX7_tear_12 : decode cX7_tear 12 = .ok (.istore_n 1, 1) := by decide +kernel
theorem dX7_tear_13 : decode cX7_tear 13 = .ok (.aload_n 0, 1) := by decide +kernel
theorem dX7_tear_14 : decode cX7_tear 14 = .ok (.iconst 0, 1) := by decide +kernel
theorem dX7_tear_15 : decode cX7_tear 15 = .ok (.putfield 19, 3) := by decide +kernel
theorem dX7_tear_18 : decode cX7_tear 18 = .ok (.iload_n 1, 1) := by decide +kernel
theorem dX7_tear_19 : decode cX7_tear 19 = .ok (.ireturn, 1) := by decide +kernel
theorem dX7_count_0 : decode cX7_count 0 = .ok (.iload_n 1, 1) := by decide +kernel
theorem dX7_count_1 : decode cX7_count 1 = .ok (.tableswitch 64 0 3 #[31, 39, 47, 56], 31) := by decide +kernel
theorem dX7_count_32 : decode cX7_count 32 = .ok (.aload_n 0, 1) := by decide +kernel
theorem dX7_count_33 : decode cX7_count 33 = .ok (.getfield 10, 3) := by decide +kernel
theorem dX7_count_36 : decode cX7_count 36 = .ok (.getfield 74, 3) := by decide +kernel
theorem dX7_count_39 : decode cX7_count 39 = .ok (.ireturn, 1) := by decide +kernel
theorem dX7_count_40 : decode cX7_count 40 = .ok (.aload_n 0, 1) := by decide +kernel
theorem dX7_count_41 : decode cX7_count 41 = .ok (.getfield 40, 3) := by decide +kernel
theorem dX7_count_44 : decode cX7_count 44 = .ok (.getfield 237, 3) := by decide +kernel
theorem dX7_count_47 : decode cX7_count 47 = .ok (.ireturn, 1) := by decide +kernel
theorem dX7_count_48 : decode cX7_count 48 = .ok (.aload_n 0, 1) := by decide +kernel
theorem dX7_count_49 : decode cX7_count 49 = .ok (.getfield 10, 3) := by decide +kernel
theorem dX7_count_52 : decode cX7_count 52 = .ok (.iconst 0, 1) := by decide +kernel
theorem dX7_count_53 : decode cX7_count 53 = .ok (.invokevirtual 167, 3) := by decide +kernel
theorem dX7_count_56 : decode cX7_count 56 = .ok (.ireturn, 1) := by decide +kernel
theorem dX7_count_57 : decode cX7_count 57 = .ok (.aload_n 0, 1) := by decide +kernel
theorem dX7_count_58 : decode cX7_count 58 = .ok (.getfield 10, 3) := by decide +kernel
theorem dX7_count_61 : decode cX7_count 61 = .ok (.invokevirtual 294, 3) := by decide +kernel
theorem dX7_count_64 : decode cX7_count 64 = .ok (.ireturn, 1) := by decide +kernel
theorem dX7_count_65 : decode cX7_count 65 = .ok (.aload_n 0, 1) := by decide +kernel
theorem dX7_count_66 : decode cX7_count 66 = .ok (.ldc 69, 2) := by decide +kernel
theorem dX7_count_68 : decode cX7_count 68 = .ok (.invokevirtual 70, 3) := by decide +kernel
theorem dX7_count_71 : decode cX7_count 71 = .ok (.ireturn, 1) := by decide +kernel
theorem dX7_status_0 : decode cX7_status 0 = .ok (.iload_n 1, 1) := by decide +kernel
theorem dX7_status_1 : decode cX7_status 1 = .ok (.iconst (-1), 1) := by decide +kernel
theorem dX7_status_2 : decode cX7_status 2 = .ok (.if_icmp .lt 9, 3) := by decide +kernel
theorem dX7_status_5 : decode cX7_status 5 = .ok (.iload_n 1, 1) := by decide +kernel
theorem dX7_status_6 : decode cX7_status 6 = .ok (.bipush 7, 2) := by decide +kernel
theorem dX7_status_8 : decode cX7_status 8 = .ok (.if_icmp .lt 10, 3) := by decide +kernel
theorem dX7_status_11 : decode cX7_status 11 = .ok (.aload_n 0, 1) := by decide +kernel
theorem dX7_status_12 : decode cX7_status 12 = .ok (.ldc 69, 2) := by decide +kernel
theorem dX7_status_14 : decode cX7_status 14 = .ok (.invokevirtual 70, 3) := by decide +kernel
theorem dX7_status_17 : decode cX7_status 17 = .ok (.ireturn, 1) := by decide +kernel
theorem dX7_status_18 : decode cX7_status 18 = .ok (.iload_n 1, 1) := by decide +kernel
theorem dX7_status_19 : decode cX7_status 19 = .ok (.ifCond .lt 10, 3) := by decide +kernel
theorem dX7_status_22 : decode cX7_status 22 = .ok (.aload_n 0, 1) := by decide +kernel
theorem dX7_status_23 : decode cX7_status 23 = .ok (.getfield 58, 3) := by decide +kernel
theorem dX7_status_26 : decode cX7_status 26 = .ok (.iload_n 1, 1) := by decide +kernel
theorem dX7_status_27 : decode cX7_status 27 = .ok (.iaload, 1) := by decide +kernel
theorem dX7_status_28 : decode cX7_status 28 = .ok (.ireturn, 1) := by decide +kernel
theorem dX7_status_29 : decode cX7_status 29 = .ok (.iconst 0, 1) := by decide +kernel
theorem dX7_status_30 : decode cX7_status 30 = .ok (.istore_n 2, 1) := by decide +kernel
theorem dX7_status_31 : decode cX7_status 31 = .ok (.iconst 0, 1) := by decide +kernel
theorem dX7_status_32 : decode cX7_status 32 = .ok (.istore_n 3, 1) := by decide +kernel
theorem dX7_status_33 : decode cX7_status 33 = .ok (.iload_n 3, 1) := by decide +kernel
theorem dX7_status_34 : decode cX7_status 34 = .ok (.bipush 7, 2) := by decide +kernel
theorem dX7_status_36 : decode cX7_status 36 = .ok (.if_icmp .ge 18, 3) := by decide +kernel
theorem dX7_status_39 : decode cX7_status 39 = .ok (.iload_n 2, 1) := by decide +kernel
theorem dX7_status_40 : decode cX7_status 40 = .ok (.aload_n 0, 1) := by decide +kernel
theorem dX7_status_41 : decode cX7_status 41 = .ok (.getfield 58, 3) := by decide +kernel
theorem dX7_status_44 : decode cX7_status 44 = .ok (.iload_n 3, 1) := by decide +kernel
theorem dX7_status_45 : decode cX7_status 45 = .ok (.iaload, 1) := by decide +kernel
theorem dX7_status_46 : decode cX7_status 46 = .ok (.iadd, 1) := by decide +kernel
theorem dX7_status_47 : decode cX7_status 47 = .ok (.istore_n 2, 1) := by decide +kernel
theorem dX7_status_48 : decode cX7_status 48 = .ok (.iinc 3 1, 3) := by decide +kernel
theorem dX7_status_51 : decode cX7_status 51 = .ok (.goto (-18), 3) := by decide +kernel
theorem dX7_status_54 : decode cX7_status 54 = .ok (.iload_n 2, 1) := by decide +kernel
theorem dX7_status_55 : decode cX7_status 55 = .ok (.ireturn, 1) := by decide +kernel
theorem dX7_found_0 : decode cX7_found 0 = .ok (.ldc 69, 2) := by decide +kernel
theorem dX7_found_2 : decode cX7_found 2 = .ok (.iload_n 1, 1) := by decide +kernel
theorem dX7_found_3 : decode cX7_found 3 = .ok (.isub, 1) := by decide +kernel
theorem dX7_found_4 : decode cX7_found 4 = .ok (.istore_n 2, 1) := by decide +kernel
theorem dX7_found_5 : decode cX7_found 5 = .ok (.iload_n 2, 1) := by decide +kernel
theorem dX7_found_6 : decode cX7_found 6 = .ok (.ifCond .lt 19, 3) := by decide +kernel
theorem dX7_found_9 : decode cX7_found 9 = .ok (.iload_n 2, 1) := by decide +kernel
theorem dX7_found_10 : decode cX7_found 10 = .ok (.bipush 7, 2) := by decide +kernel
theorem dX7_found_12 : decode cX7_found 12 = .ok (.if_icmp .ge 13, 3) := by decide +kernel
theorem dX7_found_15 : decode cX7_found 15 = .ok (.aload_n 0, 1) := by decide +kernel
theorem dX7_found_16 : decode cX7_found 16 = .ok (.getfield 58, 3) := by decide +kernel
theorem dX7_found_19 : decode cX7_found 19 = .ok (.iload_n 2, 1) := by decide +kernel
theorem dX7_found_20 : decode cX7_found 20 = .ok (.dup2, 1) := by decide +kernel
theorem dX7_found_21 : decode cX7_found 21 = .ok (.iaload, 1) := by decide +kernel
theorem dX7_found_22 : decode cX7_found 22 = .ok (.iconst 1, 1) := by decide +kernel
theorem dX7_found_23 : decode cX7_found 23 = .ok (.iadd, 1) := by decide +kernel
theorem dX7_found_24 : decode cX7_found 24 = .ok (.iastore, 1) := by decide +kernel
theorem dX7_found_25 : decode cX7_found 25 = .ok (.iload_n 1, 1) := by decide +kernel
theorem dX7_found_26 : decode cX7_found 26 = .ok (.ireturn, 1) := by decide +kernel
theorem dX7_sheetFinding_0 : decode cX7_sheetFinding 0 = .ok (.iload_n 1, 1) := by decide +kernel
theorem dX7_sheetFinding_1 : decode cX7_sheetFinding 1 = .ok (.invokestatic 244, 3) := by decide +kernel
theorem dX7_sheetFinding_4 : decode cX7_sheetFinding 4 = .ok (.ifCond .ne 10, 3) := by decide +kernel
theorem dX7_sheetFinding_7 : decode cX7_sheetFinding 7 = .ok (.aload_n 0, 1) := by decide +kernel
theorem dX7_sheetFinding_8 : decode cX7_sheetFinding 8 = .ok (.ldc 69, 2) := by decide +kernel
theorem dX7_sheetFinding_10 : decode cX7_sheetFinding 10 = .ok (.invokevirtual 70, 3) := by decide +kernel
theorem dX7_sheetFinding_13 : decode cX7_sheetFinding 13 = .ok (.ireturn, 1) := by decide +kernel
theorem dX7_sheetFinding_14 : decode cX7_sheetFinding 14 = .ok (.aload_n 0, 1) := by decide +kernel
theorem dX7_sheetFinding_15 : decode cX7_sheetFinding 15 = .ok (.getfield 54, 3) := by decide +kernel
theorem dX7_sheetFinding_18 : decode cX7_sheetFinding 18 = .ok (.iload_n 1, 1) := by decide +kernel
theorem dX7_sheetFinding_19 : decode cX7_sheetFinding 19 = .ok (.invokevirtual 266, 3) := by decide +kernel
theorem dX7_sheetFinding_22 : decode cX7_sheetFinding 22 = .ok (.ifCond .eq 13, 3) := by decide +kernel
theorem dX7_sheetFinding_25 : decode cX7_sheetFinding 25 = .ok (.aload_n 0, 1) := by decide +kernel
theorem dX7_sheetFinding_26 : decode cX7_sheetFinding 26 = .ok (.ldc_w 269, 3) := by decide +kernel
theorem dX7_sheetFinding_29 : decode cX7_sheetFinding 29 = .ok (.invokevirtual 70, 3) := by decide +kernel
theorem dX7_sheetFinding_32 : decode cX7_sheetFinding 32 = .ok (.goto 4, 3) := by decide +kernel
theorem dX7_sheetFinding_35 : decode cX7_sheetFinding 35 = .ok (.iconst 0, 1) := by decide +kernel
theorem dX7_sheetFinding_36 : decode cX7_sheetFinding 36 = .ok (.ireturn, 1) := by decide +kernel
theorem dX7_sheetAndFlueFinding_0 : decode cX7_sheetAndFlueFinding 0 = .ok (.aload_n 0, 1) := by decide +kernel
theorem dX7_sheetAndFlueFinding_1 : decode cX7_sheetAndFlueFinding 1 = .ok (.iload_n 1, 1) := by decide +kernel
theorem dX7_sheetAndFlueFinding_2 : decode cX7_sheetAndFlueFinding 2 = .ok (.invokevirtual 254, 3) := by decide +kernel
theorem dX7_sheetAndFlueFinding_5 : decode cX7_sheetAndFlueFinding 5 = .ok (.istore_n 3, 1) := by decide +kernel
theorem dX7_sheetAndFlueFinding_6 : decode cX7_sheetAndFlueFinding 6 = .ok (.iload_n 3, 1) := by decide +kernel
theorem dX7_sheetAndFlueFinding_7 : decode cX7_sheetAndFlueFinding 7 = .ok (.ifCond .eq 5, 3) := by decide +kernel
theorem dX7_sheetAndFlueFinding_10 : decode cX7_sheetAndFlueFinding 10 = .ok (.iload_n 3, 1) := by decide +kernel
theorem dX7_sheetAndFlueFinding_11 : decode cX7_sheetAndFlueFinding 11 = .ok (.ireturn, 1) := by decide +kernel
theorem dX7_sheetAndFlueFinding_12 : decode cX7_sheetAndFlueFinding 12 = .ok (.aload_n 0, 1) := by decide +kernel
theorem dX7_sheetAndFlueFinding_13 : decode cX7_sheetAndFlueFinding 13 = .ok (.getfield 10, 3) := by decide +kernel
theorem dX7_sheetAndFlueFinding_16 : decode cX7_sheetAndFlueFinding 16 = .ok (.iload_n 2, 1) := by decide +kernel
theorem dX7_sheetAndFlueFinding_17 : decode cX7_sheetAndFlueFinding 17 = .ok (.invokevirtual 82, 3) := by decide +kernel
theorem dX7_sheetAndFlueFinding_20 : decode cX7_sheetAndFlueFinding 20 = .ok (.ifCond .eq 7, 3) := by decide +kernel
theorem dX7_sheetAndFlueFinding_23 : decode cX7_sheetAndFlueFinding 23 = .ok (.iconst 0, 1) := by decide +kernel
theorem dX7_sheetAndFlueFinding_24 : decode cX7_sheetAndFlueFinding 24 = .ok (.goto 9, 3) := by decide +kernel
theorem dX7_sheetAndFlueFinding_27 : decode cX7_sheetAndFlueFinding 27 = .ok (.aload_n 0, 1) := by decide +kernel
theorem dX7_sheetAndFlueFinding_28 : decode cX7_sheetAndFlueFinding 28 = .ok (.ldc 69, 2) := by decide +kernel
theorem dX7_sheetAndFlueFinding_30 : decode cX7_sheetAndFlueFinding 30 = .ok (.invokevirtual 70, 3) := by decide +kernel
theorem dX7_sheetAndFlueFinding_33 : decode cX7_sheetAndFlueFinding 33 = .ok (.ireturn, 1) := by decide +kernel
theorem dX7_isPlace_0 : decode cX7_isPlace 0 = .ok (.aload_n 0, 1) := by decide +kernel
theorem dX7_isPlace_1 : decode cX7_isPlace 1 = .ok (.getfield 10, 3) := by decide +kernel
theorem dX7_isPlace_4 : decode cX7_isPlace 4 = .ok (.iload_n 1, 1) := by decide +kernel
theorem dX7_isPlace_5 : decode cX7_isPlace 5 = .ok (.invokevirtual 82, 3) := by decide +kernel
theorem dX7_isPlace_8 : decode cX7_isPlace 8 = .ok (.ifCond .eq 14, 3) := by decide +kernel
theorem dX7_isPlace_11 : decode cX7_isPlace 11 = .ok (.iload_n 2, 1) := by decide +kernel
theorem dX7_isPlace_12 : decode cX7_isPlace 12 = .ok (.invokestatic 297, 3) := by decide +kernel
theorem dX7_isPlace_15 : decode cX7_isPlace 15 = .ok (.ifCond .eq 7, 3) := by decide +kernel
theorem dX7_isPlace_18 : decode cX7_isPlace 18 = .ok (.iconst 1, 1) := by decide +kernel
theorem dX7_isPlace_19 : decode cX7_isPlace 19 = .ok (.goto 4, 3) := by decide +kernel
theorem dX7_isPlace_22 : decode cX7_isPlace 22 = .ok (.iconst 0, 1) := by decide +kernel
theorem dX7_isPlace_23 : decode cX7_isPlace 23 = .ok (.ireturn, 1) := by decide +kernel
theorem dX7_joined_0 : decode cX7_joined 0 = .ok (.iconst 0, 1) := by decide +kernel
theorem dX7_joined_1 : decode cX7_joined 1 = .ok (.istore_n 2, 1) := by decide +kernel
theorem dX7_joined_2 : decode cX7_joined 2 = .ok (.iconst 0, 1) := by decide +kernel
theorem dX7_joined_3 : decode cX7_joined 3 = .ok (.istore_n 3, 1) := by decide +kernel
theorem dX7_joined_4 : decode cX7_joined 4 = .ok (.iload_n 3, 1) := by decide +kernel
theorem dX7_joined_5 : decode cX7_joined 5 = .ok (.bipush 6, 2) := by decide +kernel
theorem dX7_joined_7 : decode cX7_joined 7 = .ok (.if_icmp .ge 26, 3) := by decide +kernel
theorem dX7_joined_10 : decode cX7_joined 10 = .ok (.iload_n 1, 1) := by decide +kernel
theorem dX7_joined_11 : decode cX7_joined 11 = .ok (.iload_n 3, 1) := by decide +kernel
theorem dX7_joined_12 : decode cX7_joined 12 = .ok (.invokestatic 213, 3) := by decide +kernel
theorem dX7_joined_15 : decode cX7_joined 15 = .ok (.ifCond .eq 12, 3) := by decide +kernel
theorem dX7_joined_18 : decode cX7_joined 18 = .ok (.iload_n 2, 1) := by decide +kernel
theorem dX7_joined_19 : decode cX7_joined 19 = .ok (.aload_n 0, 1) := by decide +kernel
theorem dX7_joined_20 : decode cX7_joined 20 = .ok (.getfield 62, 3) := by decide +kernel
theorem dX7_joined_23 : decode cX7_joined 23 = .ok (.iload_n 3, 1) := by decide +kernel
theorem dX7_joined_24 : decode cX7_joined 24 = .ok (.iaload, 1) := by decide +kernel
theorem dX7_joined_25 : decode cX7_joined 25 = .ok (.ior, 1) := by decide +kernel
theorem dX7_joined_26 : decode cX7_joined 26 = .ok (.istore_n 2, 1) := by decide +kernel
theorem dX7_joined_27 : decode cX7_joined 27 = .ok (.iinc 3 1, 3) := by decide +kernel
theorem dX7_joined_30 : decode cX7_joined 30 = .ok (.goto (-26), 3) := by decide +kernel
theorem dX7_joined_33 : decode cX7_joined 33 = .ok (.iload_n 2, 1) := by decide +kernel
theorem dX7_joined_34 : decode cX7_joined 34 = .ok (.ireturn, 1) := by decide +kernel
theorem dX7_isJustBrought_0 : decode cX7_isJustBrought 0 = .ok (.aload_n 0, 1) := by decide +kernel
theorem dX7_isJustBrought_1 : decode cX7_isJustBrought 1 = .ok (.getfield 54, 3) := by decide +kernel
theorem dX7_isJustBrought_4 : decode cX7_isJustBrought 4 = .ok (.iload_n 1, 1) := by decide +kernel
theorem dX7_isJustBrought_5 : decode cX7_isJustBrought 5 = .ok (.invokevirtual 257, 3) := by decide +kernel
theorem dX7_isJustBrought_8 : decode cX7_isJustBrought 8 = .ok (.aload_n 0, 1) := by decide +kernel
theorem dX7_isJustBrought_9 : decode cX7_isJustBrought 9 = .ok (.getfield 26, 3) := by decide +kernel
theorem dX7_isJustBrought_12 : decode cX7_isJustBrought 12 = .ok (.getfield 193, 3) := by decide +kernel
theorem dX7_isJustBrought_15 : decode cX7_isJustBrought 15 = .ok (.if_icmp .eq 5, 3) := by decide +kernel
theorem dX7_isJustBrought_18 : decode cX7_isJustBrought 18 = .ok (.iconst 0, 1) := by decide +kernel
theorem dX7_isJustBrought_19 : decode cX7_isJustBrought 19 = .ok (.ireturn, 1) := by decide +kernel
theorem dX7_isJustBrought_20 : decode cX7_isJustBrought 20 = .ok (.iconst 0, 1) := by decide +kernel
theorem dX7_isJustBrought_21 : decode cX7_isJustBrought 21 = .ok (.istore_n 2, 1) := by decide +kernel
theorem dX7_isJustBrought_22 : decode cX7_isJustBrought 22 = .ok (.iload_n 2, 1) := by decide +kernel
theorem dX7_isJustBrought_23 : decode cX7_isJustBrought 23 = .ok (.aload_n 0, 1) := by decide +kernel
theorem dX7_isJustBrought_24 : decode cX7_isJustBrought 24 = .ok (.getfield 26, 3) := by decide +kernel
theorem dX7_isJustBrought_27 : decode cX7_isJustBrought 27 = .ok (.getfield 193, 3) := by decide +kernel
theorem dX7_isJustBrought_30 : decode cX7_isJustBrought 30 = .ok (.if_icmp .ge 33, 3) := by decide +kernel
theorem dX7_isJustBrought_33 : decode cX7_isJustBrought 33 = .ok (.aload_n 0, 1) := by decide +kernel
theorem dX7_isJustBrought_34 : decode cX7_isJustBrought 34 = .ok (.getfield 54, 3) := by decide +kernel
theorem dX7_isJustBrought_37 : decode cX7_isJustBrought 37 = .ok (.iload_n 1, 1) := by decide +kernel
theorem dX7_isJustBrought_38 : decode cX7_isJustBrought 38 = .ok (.iload_n 2, 1) := by decide +kernel
theorem dX7_isJustBrought_39 : decode cX7_isJustBrought 39 = .ok (.invokevirtual 259, 3) := by decide +kernel
theorem dX7_isJustBrought_42 : decode cX7_isJustBrought 42 = .ok (.aload_n 0, 1) := by decide +kernel
theorem dX7_isJustBrought_43 : decode cX7_isJustBrought 43 = .ok (.getfield 26, 3) := by decide +kernel
theorem dX7_isJustBrought_46 : decode cX7_isJustBrought 46 = .ok (.iload_n 2, 1) := by decide +kernel
theorem dX7_isJustBrought_47 : decode cX7_isJustBrought 47 = .ok (.invokevirtual 196, 3) := by decide +kernel
theorem dX7_isJustBrought_50 : decode cX7_isJustBrought 50 = .ok (.i2l, 1) := by decide +kernel
theorem dX7_isJustBrought_51 : decode cX7_isJustBrought 51 = .ok (.lcmp, 1) := by decide +kernel
theorem dX7_isJustBrought_52 : decode cX7_isJustBrought 52 = .ok (.ifCond .eq 5, 3) := by decide +kernel
theorem dX7_isJustBrought_55 : decode cX7_isJustBrought 55 = .ok (.iconst 0, 1) := by decide +kernel
theorem dX7_isJustBrought_56 : decode cX7_isJustBrought 56 = .ok (.ireturn, 1) := by decide +kernel
theorem dX7_isJustBrought_57 : decode cX7_isJustBrought 57 = .ok (.iinc 2 1, 3) := by decide +kernel
theorem dX7_isJustBrought_60 : decode cX7_isJustBrought 60 = .ok (.goto (-38), 3) := by decide +kernel
theorem dX7_isJustBrought_63 : decode cX7_isJustBrought 63 = .ok (.iconst 1, 1) := by decide +kernel
theorem dX7_isJustBrought_64 : decode cX7_isJustBrought 64 = .ok (.ireturn, 1) := by decide +kernel
theorem dX7_isBelow_0 : decode cX7_isBelow 0 = .ok (.iload_n 0, 1) := by decide +kernel
theorem dX7_isBelow_1 : decode cX7_isBelow 1 = .ok (.ifCond .lt 12, 3) := by decide +kernel
theorem dX7_isBelow_4 : decode cX7_isBelow 4 = .ok (.iload_n 0, 1) := by decide +kernel
theorem dX7_isBelow_5 : decode cX7_isBelow 5 = .ok (.iload_n 1, 1) := by decide +kernel
theorem dX7_isBelow_6 : decode cX7_isBelow 6 = .ok (.if_icmp .ge 7, 3) := by decide +kernel
theorem dX7_isBelow_9 : decode cX7_isBelow 9 = .ok (.iconst 1, 1) := by decide +kernel
theorem dX7_isBelow_10 : decode cX7_isBelow 10 = .ok (.goto 4, 3) := by decide +kernel
theorem dX7_isBelow_13 : decode cX7_isBelow 13 = .ok (.iconst 0, 1) := by decide +kernel
theorem dX7_isBelow_14 : decode cX7_isBelow 14 = .ok (.ireturn, 1) := by decide +kernel
theorem dX7_isKind_0 : decode cX7_isKind 0 = .ok (.iload_n 0, 1) := by decide +kernel
theorem dX7_isKind_1 : decode cX7_isKind 1 = .ok (.bipush 6, 2) := by decide +kernel
theorem dX7_isKind_3 : decode cX7_isKind 3 = .ok (.invokestatic 119, 3) := by decide +kernel
theorem dX7_isKind_6 : decode cX7_isKind 6 = .ok (.ireturn, 1) := by decide +kernel
theorem dX7_isBend_0 : decode cX7_isBend 0 = .ok (.iload_n 0, 1) := by decide +kernel
theorem dX7_isBend_1 : decode cX7_isBend 1 = .ok (.ifCond .lt 13, 3) := by decide +kernel
theorem dX7_isBend_4 : decode cX7_isBend 4 = .ok (.iload_n 0, 1) := by decide +kernel
theorem dX7_isBend_5 : decode cX7_isBend 5 = .ok (.bipush 8, 2) := by decide +kernel
theorem dX7_isBend_7 : decode cX7_isBend 7 = .ok (.if_icmp .ge 7, 3) := by decide +kernel
theorem dX7_isBend_10 : decode cX7_isBend 10 = .ok (.iconst 1, 1) := by decide +kernel
theorem dX7_isBend_11 : decode cX7_isBend 11 = .ok (.goto 4, 3) := by decide +kernel
theorem dX7_isBend_14 : decode cX7_isBend 14 = .ok (.iconst 0, 1) := by decide +kernel
theorem dX7_isBend_15 : decode cX7_isBend 15 = .ok (.ireturn, 1) := by decide +kernel
theorem dX7_isWord_0 : decode cX7_isWord 0 = .ok (.iload_n 0, 1) := by decide +kernel
theorem dX7_isWord_1 : decode cX7_isWord 1 = .ok (.bipush 16, 2) := by decide +kernel
theorem dX7_isWord_3 : decode cX7_isWord 3 = .ok (.invokestatic 119, 3) := by decide +kernel
theorem dX7_isWord_6 : decode cX7_isWord 6 = .ok (.ireturn, 1) := by decide +kernel
theorem dX7_isSet_0 : decode cX7_isSet 0 = .ok (.iload_n 0, 1) := by decide +kernel
theorem dX7_isSet_1 : decode cX7_isSet 1 = .ok (.ldc_w 300, 3) := by decide +kernel
theorem dX7_isSet_4 : decode cX7_isSet 4 = .ok (.invokestatic 119, 3) := by decide +kernel
theorem dX7_isSet_7 : decode cX7_isSet 7 = .ok (.ireturn, 1) := by decide +kernel
theorem dX7_isVoice_0 : decode cX7_isVoice 0 = .ok (.iload_n 0, 1) := by decide +kernel
theorem dX7_isVoice_1 : decode cX7_isVoice 1 = .ok (.bipush 10, 2) := by decide +kernel
theorem dX7_isVoice_3 : decode cX7_isVoice 3 = .ok (.invokestatic 119, 3) := by decide +kernel
theorem dX7_isVoice_6 : decode cX7_isVoice 6 = .ok (.ireturn, 1) := by decide +kernel
theorem dX7_isStrength_0 : decode cX7_isStrength 0 = .ok (.iload_n 0, 1) := by decide +kernel
theorem dX7_isStrength_1 : decode cX7_isStrength 1 = .ok (.iconst 1, 1) := by decide +kernel
theorem dX7_isStrength_2 : decode cX7_isStrength 2 = .ok (.if_icmp .lt 13, 3) := by decide +kernel
theorem dX7_isStrength_5 : decode cX7_isStrength 5 = .ok (.iload_n 0, 1) := by decide +kernel
theorem dX7_isStrength_6 : decode cX7_isStrength 6 = .ok (.bipush 9, 2) := by decide +kernel
theorem dX7_isStrength_8 : decode cX7_isStrength 8 = .ok (.if_icmp .gt 7, 3) := by decide +kernel
theorem dX7_isStrength_11 : decode cX7_isStrength 11 = .ok (.iconst 1, 1) := by decide +kernel
theorem dX7_isStrength_12 : decode cX7_isStrength 12 = .ok (.goto 4, 3) := by decide +kernel
theorem dX7_isStrength_15 : decode cX7_isStrength 15 = .ok (.iconst 0, 1) := by decide +kernel
theorem dX7_isStrength_16 : decode cX7_isStrength 16 = .ok (.ireturn, 1) := by decide +kernel
theorem dX7_hasBit_0 : decode cX7_hasBit 0 = .ok (.iload_n 0, 1) := by decide +kernel
theorem dX7_hasBit_1 : decode cX7_hasBit 1 = .ok (.iload_n 1, 1) := by decide +kernel
theorem dX7_hasBit_2 : decode cX7_hasBit 2 = .ok (.ishr, 1) := by decide +kernel
theorem dX7_hasBit_3 : decode cX7_hasBit 3 = .ok (.iconst 1, 1) := by decide +kernel
theorem dX7_hasBit_4 : decode cX7_hasBit 4 = .ok (.iand, 1) := by decide +kernel
theorem dX7_hasBit_5 : decode cX7_hasBit 5 = .ok (.iconst 1, 1) := by decide +kernel
theorem dX7_hasBit_6 : decode cX7_hasBit 6 = .ok (.if_icmp .ne 7, 3) := by decide +kernel
theorem dX7_hasBit_9 : decode cX7_hasBit 9 = .ok (.iconst 1, 1) := by decide +kernel
theorem dX7_hasBit_10 : decode cX7_hasBit 10 = .ok (.goto 4, 3) := by decide +kernel
theorem dX7_hasBit_13 : decode cX7_hasBit 13 = .ok (.iconst 0, 1) := by decide +kernel
theorem dX7_hasBit_14 : decode cX7_hasBit 14 = .ok (.ireturn, 1) := by decide +kernel
theorem dJ6_bitCount_0f7a4_0 : decode cJ6_bitCount_0f7a4 0 = .ok (.iload_n 0, 1) := by decide +kernel
theorem dJ6_bitCount_0f7a4_1 : decode cJ6_bitCount_0f7a4 1 = .ok (.iload_n 0, 1) := by decide +kernel
theorem dJ6_bitCount_0f7a4_2 : decode cJ6_bitCount_0f7a4 2 = .ok (.iconst 1, 1) := by decide +kernel
theorem dJ6_bitCount_0f7a4_3 : decode cJ6_bitCount_0f7a4 3 = .ok (.iushr, 1) := by decide +kernel
theorem dJ6_bitCount_0f7a4_4 : decode cJ6_bitCount_0f7a4 4 = .ok (.ldc_w 265, 3) := by decide +kernel
theorem dJ6_bitCount_0f7a4_7 : decode cJ6_bitCount_0f7a4 7 = .ok (.iand, 1) := by decide +kernel
theorem dJ6_bitCount_0f7a4_8 : decode cJ6_bitCount_0f7a4 8 = .ok (.isub, 1) := by decide +kernel
theorem dJ6_bitCount_0f7a4_9 : decode cJ6_bitCount_0f7a4 9 = .ok (.istore_n 0, 1) := by decide +kernel
theorem dJ6_bitCount_0f7a4_10 : decode cJ6_bitCount_0f7a4 10 = .ok (.iload_n 0, 1) := by decide +kernel
theorem dJ6_bitCount_0f7a4_11 : decode cJ6_bitCount_0f7a4 11 = .ok (.ldc_w 266, 3) := by decide +kernel
theorem dJ6_bitCount_0f7a4_14 : decode cJ6_bitCount_0f7a4 14 = .ok (.iand, 1) := by decide +kernel
theorem dJ6_bitCount_0f7a4_15 : decode cJ6_bitCount_0f7a4 15 = .ok (.iload_n 0, 1) := by decide +kernel
theorem dJ6_bitCount_0f7a4_16 : decode cJ6_bitCount_0f7a4 16 = .ok (.iconst 2, 1) := by decide +kernel
theorem dJ6_bitCount_0f7a4_17 : decode cJ6_bitCount_0f7a4 17 = .ok (.iushr, 1) := by decide +kernel
theorem dJ6_bitCount_0f7a4_18 : decode cJ6_bitCount_0f7a4 18 = .ok (.ldc_w 266, 3) := by decide +kernel
theorem dJ6_bitCount_0f7a4_21 : decode cJ6_bitCount_0f7a4 21 = .ok (.iand, 1) := by decide +kernel
theorem dJ6_bitCount_0f7a4_22 : decode cJ6_bitCount_0f7a4 22 = .ok (.iadd, 1) := by decide +kernel
theorem dJ6_bitCount_0f7a4_23 : decode cJ6_bitCount_0f7a4 23 = .ok (.istore_n 0, 1) := by decide +kernel
theorem dJ6_bitCount_0f7a4_24 : decode cJ6_bitCount_0f7a4 24 = .ok (.iload_n 0, 1) := by decide +kernel
theorem dJ6_bitCount_0f7a4_25 : decode cJ6_bitCount_0f7a4 25 = .ok (.iload_n 0, 1) := by decide +kernel
theorem dJ6_bitCount_0f7a4_26 : decode cJ6_bitCount_0f7a4 26 = .ok (.iconst 4, 1) := by decide +kernel
theorem dJ6_bitCount_0f7a4_27 : decode cJ6_bitCount_0f7a4 27 = .ok (.iushr, 1) := by decide +kernel
theorem dJ6_bitCount_0f7a4_28 : decode cJ6_bitCount_0f7a4 28 = .ok (.iadd, 1) := by decide +kernel
theorem dJ6_bitCount_0f7a4_29 : decode cJ6_bitCount_0f7a4 29 = .ok (.ldc_w 267, 3) := by decide +kernel
theorem dJ6_bitCount_0f7a4_32 : decode cJ6_bitCount_0f7a4 32 = .ok (.iand, 1) := by decide +kernel
theorem dJ6_bitCount_0f7a4_33 : decode cJ6_bitCount_0f7a4 33 = .ok (.istore_n 0, 1) := by decide +kernel
theorem dJ6_bitCount_0f7a4_34 : decode cJ6_bitCount_0f7a4 34 = .ok (.iload_n 0, 1) := by decide +kernel
theorem dJ6_bitCount_0f7a4_35 : decode cJ6_bitCount_0f7a4 35 = .ok (.iload_n 0, 1) := by decide +kernel
theorem dJ6_bitCount_0f7a4_36 : decode cJ6_bitCount_0f7a4 36 = .ok (.bipush 8, 2) := by decide +kernel
theorem dJ6_bitCount_0f7a4_38 : decode cJ6_bitCount_0f7a4 38 = .ok (.iushr, 1) := by decide +kernel
theorem dJ6_bitCount_0f7a4_39 : decode cJ6_bitCount_0f7a4 39 = .ok (.iadd, 1) := by decide +kernel
theorem dJ6_bitCount_0f7a4_40 : decode cJ6_bitCount_0f7a4 40 = .ok (.istore_n 0, 1) := by decide +kernel
theorem dJ6_bitCount_0f7a4_41 : decode cJ6_bitCount_0f7a4 41 = .ok (.iload_n 0, 1) := by decide +kernel
theorem dJ6_bitCount_0f7a4_42 : decode cJ6_bitCount_0f7a4 42 = .ok (.iload_n 0, 1) := by decide +kernel
theorem dJ6_bitCount_0f7a4_43 : decode cJ6_bitCount_0f7a4 43 = .ok (.bipush 16, 2) := by decide +kernel
theorem dJ6_bitCount_0f7a4_45 : decode cJ6_bitCount_0f7a4 45 = .ok (.iushr, 1) := by decide +kernel
theorem dJ6_bitCount_0f7a4_46 : decode cJ6_bitCount_0f7a4 46 = .ok (.iadd, 1) := by decide +kernel
theorem dJ6_bitCount_0f7a4_47 : decode cJ6_bitCount_0f7a4 47 = .ok (.istore_n 0, 1) := by decide +kernel
theorem dJ6_bitCount_0f7a4_48 : decode cJ6_bitCount_0f7a4 48 = .ok (.iload_n 0, 1) := by decide +kernel
theorem dJ6_bitCount_0f7a4_49 : decode cJ6_bitCount_0f7a4 49 = .ok (.bipush 63, 2) := by decide +kernel
theorem dJ6_bitCount_0f7a4_51 : decode cJ6_bitCount_0f7a4 51 = .ok (.iand, 1) := by decide +kernel
theorem dJ6_bitCount_0f7a4_52 : decode cJ6_bitCount_0f7a4 52 = .ok (.ireturn, 1) := by decide +kernel
theorem dJ9_max_7cf53_0 : decode cJ9_max_7cf53 0 = .ok (.iload_n 0, 1) := by decide +kernel
theorem dJ9_max_7cf53_1 : decode cJ9_max_7cf53 1 = .ok (.iload_n 1, 1) := by decide +kernel
theorem dJ9_max_7cf53_2 : decode cJ9_max_7cf53 2 = .ok (.if_icmp .lt 7, 3) := by decide +kernel
theorem dJ9_max_7cf53_5 : decode cJ9_max_7cf53 5 = .ok (.iload_n 0, 1) := by decide +kernel
theorem dJ9_max_7cf53_6 : decode cJ9_max_7cf53 6 = .ok (.goto 4, 3) := by decide +kernel
theorem dJ9_max_7cf53_9 : decode cJ9_max_7cf53 9 = .ok (.iload_n 1, 1) := by decide +kernel
theorem dJ9_max_7cf53_10 : decode cJ9_max_7cf53 10 = .ok (.ireturn, 1) := by decide +kernel
theorem dJ9_min_7cf53_0 : decode cJ9_min_7cf53 0 = .ok (.iload_n 0, 1) := by decide +kernel
theorem dJ9_min_7cf53_1 : decode cJ9_min_7cf53 1 = .ok (.iload_n 1, 1) := by decide +kernel
theorem dJ9_min_7cf53_2 : decode cJ9_min_7cf53 2 = .ok (.if_icmp .gt 7, 3) := by decide +kernel
theorem dJ9_min_7cf53_5 : decode cJ9_min_7cf53 5 = .ok (.iload_n 0, 1) := by decide +kernel
theorem dJ9_min_7cf53_6 : decode cJ9_min_7cf53 6 = .ok (.goto 4, 3) := by decide +kernel
theorem dJ9_min_7cf53_9 : decode cJ9_min_7cf53 9 = .ok (.iload_n 1, 1) := by decide +kernel
theorem dJ9_min_7cf53_10 : decode cJ9_min_7cf53 10 = .ok (.ireturn, 1) := by decide +kernel
theorem dJ0_length_8abf5_0 : decode cJ0_length_8abf5 0 = .ok (.aload_n 0, 1) := by decide +kernel
theorem dJ0_length_8abf5_1 : decode cJ0_length_8abf5 1 = .ok (.getfield 9, 3) := by decide +kernel
theorem dJ0_length_8abf5_4 : decode cJ0_length_8abf5 4 = .ok (.arraylength, 1) := by decide +kernel
theorem dJ0_length_8abf5_5 : decode cJ0_length_8abf5 5 = .ok (.aload_n 0, 1) := by decide +kernel
theorem dJ0_length_8abf5_6 : decode cJ0_length_8abf5 6 = .ok (.invokevirtual 335, 3) := by decide +kernel
theorem dJ0_length_8abf5_9 : decode cJ0_length_8abf5 9 = .ok (.ishr, 1) := by decide +kernel
theorem dJ0_length_8abf5_10 : decode cJ0_length_8abf5 10 = .ok (.ireturn, 1) := by decide +kernel
theorem dJ0_charAt_5068e_0 : decode cJ0_charAt_5068e 0 = .ok (.aload_n 0, 1) := by decide +kernel
theorem dJ0_charAt_5068e_1 : decode cJ0_charAt_5068e 1 = .ok (.invokevirtual 492, 3) := by decide +kernel
theorem dJ0_charAt_5068e_4 : decode cJ0_charAt_5068e 4 = .ok (.ifCond .eq 12, 3) := by decide +kernel
theorem dJ0_charAt_5068e_7 : decode cJ0_charAt_5068e 7 = .ok (.aload_n 0, 1) := by decide +kernel
theorem dJ0_charAt_5068e_8 : decode cJ0_charAt_5068e 8 = .ok (.getfield 9, 3) := by decide +kernel
theorem dJ0_charAt_5068e_11 : decode cJ0_charAt_5068e 11 = .ok (.iload_n 1, 1) := by decide +kernel
theorem dJ0_charAt_5068e_12 : decode cJ0_charAt_5068e 12 = .ok (.invokestatic 495, 3) := by decide +kernel
theorem dJ0_charAt_5068e_15 : decode cJ0_charAt_5068e 15 = .ok (.ireturn, 1) := by decide +kernel
theorem dJ0_charAt_5068e_16 : decode cJ0_charAt_5068e 16 = .ok (.aload_n 0, 1) := by decide +kernel
theorem dJ0_charAt_5068e_17 : decode cJ0_charAt_5068e 17 = .ok (.getfield 9, 3) := by decide +kernel
theorem dJ0_charAt_5068e_20 : decode cJ0_charAt_5068e 20 = .ok (.iload_n 1, 1) := by decide +kernel
theorem dJ0_charAt_5068e_21 : decode cJ0_charAt_5068e 21 = .ok (.invokestatic 498, 3) := by decide +kernel
theorem dJ0_charAt_5068e_24 : decode cJ0_charAt_5068e 24 = .ok (.ireturn, 1) := by decide +kernel
theorem dJ0_coder_7d493_0 : decode cJ0_coder_7d493 0 = .ok (.getstatic 38, 3) := by decide +kernel
theorem dJ0_coder_7d493_3 : decode cJ0_coder_7d493 3 = .ok (.ifCond .eq 10, 3) := by decide +kernel
theorem dJ0_coder_7d493_6 : decode cJ0_coder_7d493 6 = .ok (.aload_n 0, 1) := by decide +kernel
theorem dJ0_coder_7d493_7 : decode cJ0_coder_7d493 7 = .ok (.getfield 15, 3) := by decide +kernel
theorem dJ0_coder_7d493_10 : decode cJ0_coder_7d493 10 = .ok (.goto 4, 3) := by decide +kernel
theorem dJ0_coder_7d493_13 : decode cJ0_coder_7d493 13 = .ok (.iconst 1, 1) := by decide +kernel
theorem dJ0_coder_7d493_14 : decode cJ0_coder_7d493 14 = .ok (.ireturn, 1) := by decide +kernel
theorem dJ0_isLatin1_aae02_0 : decode cJ0_isLatin1_aae02 0 = .ok (.getstatic 38, 3) := by decide +kernel
theorem dJ0_isLatin1_aae02_3 : decode cJ0_isLatin1_aae02 3 = .ok (.ifCond .eq 14, 3) := by decide +kernel
theorem dJ0_isLatin1_aae02_6 : decode cJ0_isLatin1_aae02 6 = .ok (.aload_n 0, 1) := by decide +kernel
theorem dJ0_isLatin1_aae02_7 : decode cJ0_isLatin1_aae02 7 = .ok (.getfield 15, 3) := by decide +kernel
theorem dJ0_isLatin1_aae02_10 : decode cJ0_isLatin1_aae02 10 = .ok (.ifCond .ne 7, 3) := by decide +kernel
theorem dJ0_isLatin1_aae02_13 : decode cJ0_isLatin1_aae02 13 = .ok (.iconst 1, 1) := by decide +kernel
theorem dJ0_isLatin1_aae02_14 : decode cJ0_isLatin1_aae02 14 = .ok (.goto 4, 3) := by decide +kernel
theorem dJ0_isLatin1_aae02_17 : decode cJ0_isLatin1_aae02 17 = .ok (.iconst 0, 1) := by decide +kernel
theorem dJ0_isLatin1_aae02_18 : decode cJ0_isLatin1_aae02 18 = .ok (.ireturn, 1) := by decide +kernel
theorem dJ0_checkIndex_df160_0 : decode cJ0_checkIndex_df160 0 = .ok (.iload_n 0, 1) := by decide +kernel
theorem dJ0_checkIndex_df160_1 : decode cJ0_checkIndex_df160 1 = .ok (.iload_n 1, 1) := by decide +kernel
theorem dJ0_checkIndex_df160_2 : decode cJ0_checkIndex_df160 2 = .ok (.getstatic 1053, 3) := by decide +kernel
theorem dJ0_checkIndex_df160_5 : decode cJ0_checkIndex_df160 5 = .ok (.invokestatic 1059, 3) := by decide +kernel
theorem dJ0_checkIndex_df160_8 : decode cJ0_checkIndex_df160 8 = .ok (.pop, 1) := by decide +kernel
theorem dJ0_checkIndex_df160_9 : decode cJ0_checkIndex_df160 9 = .ok (.return_, 1) := by decide +kernel
theorem dJ1_charAt_3b067_0 : decode cJ1_charAt_3b067 0 = .ok (.iload_n 1, 1) := by decide +kernel
theorem dJ1_charAt_3b067_1 : decode cJ1_charAt_3b067 1 = .ok (.aload_n 0, 1) := by decide +kernel
theorem dJ1_charAt_3b067_2 : decode cJ1_charAt_3b067 2 = .ok (.arraylength, 1) := by decide +kernel
theorem dJ1_charAt_3b067_3 : decode cJ1_charAt_3b067 3 = .ok (.invokestatic 9, 3) := by decide +kernel
theorem dJ1_charAt_3b067_6 : decode cJ1_charAt_3b067 6 = .ok (.aload_n 0, 1) := by decide +kernel
theorem dJ1_charAt_3b067_7 : decode cJ1_charAt_3b067 7 = .ok (.iload_n 1, 1) := by decide +kernel
theorem dJ1_charAt_3b067_8 : decode cJ1_charAt_3b067 8 = .ok (.baload, 1) := by decide +kernel
theorem dJ1_charAt_3b067_9 : decode cJ1_charAt_3b067 9 = .ok (.sipush 255, 3) := by decide +kernel
theorem dJ1_charAt_3b067_12 : decode cJ1_charAt_3b067 12 = .ok (.iand, 1) := by decide +kernel
theorem dJ1_charAt_3b067_13 : decode cJ1_charAt_3b067 13 = .ok (.i2c, 1) := by decide +kernel
theorem dJ1_charAt_3b067_14 : decode cJ1_charAt_3b067 14 = .ok (.ireturn, 1) := by decide +kernel
theorem dJ2_getChar_3b067_0 : decode cJ2_getChar_3b067 0 = .ok (.getstatic 44, 3) := by decide +kernel
theorem dJ2_getChar_3b067_3 : decode cJ2_getChar_3b067 3 = .ok (.ifCond .ne 25, 3) := by decide +kernel
theorem dJ2_getChar_3b067_6 : decode cJ2_getChar_3b067 6 = .ok (.iload_n 1, 1) := by decide +kernel
theorem dJ2_getChar_3b067_7 : decode cJ2_getChar_3b067 7 = .ok (.ifCond .lt 11, 3) := by decide +kernel
theorem dJ2_getChar_3b067_10 : decode cJ2_getChar_3b067 10 = .ok (.iload_n 1, 1) := by decide +kernel
theorem dJ2_getChar_3b067_11 : decode cJ2_getChar_3b067 11 = .ok (.aload_n 0, 1) := by decide +kernel
theorem dJ2_getChar_3b067_12 : decode cJ2_getChar_3b067 12 = .ok (.invokestatic 48, 3) := by decide +kernel
theorem dJ2_getChar_3b067_15 : decode cJ2_getChar_3b067 15 = .ok (.if_icmp .lt 13, 3) := by decide +kernel
theorem dJ2_getChar_3b067_18 : decode cJ2_getChar_3b067 18 = .ok (.new 52, 3) := by decide +kernel
theorem dJ2_getChar_3b067_21 : decode cJ2_getChar_3b067 21 = .ok (.dup, 1) := by decide +kernel
theorem dJ2_getChar_3b067_22 : decode cJ2_getChar_3b067 22 = .ok (.ldc 54, 2) := by decide +kernel
theorem dJ2_getChar_3b067_24 : decode cJ2_getChar_3b067 24 = .ok (.invokespecial 56, 3) := by decide +kernel
theorem dJ2_getChar_3b067_27 : decode cJ2_getChar_3b067 27 = .ok (.athrow, 1) := by decide +kernel
theorem dJ2_getChar_3b067_28 : decode cJ2_getChar_3b067 28 = .ok (.iload_n 1, 1) := by decide +kernel
theorem dJ2_getChar_3b067_29 : decode cJ2_getChar_3b067 29 = .ok (.iconst 1, 1) := by decide +kernel
theorem dJ2_getChar_3b067_30 : decode cJ2_getChar_3b067 30 = .ok (.ishl, 1) := by decide +kernel
theorem dJ2_getChar_3b067_31 : decode cJ2_getChar_3b067 31 = .ok (.istore_n 1, 1) := by decide +kernel
theorem dJ2_getChar_3b067_32 : decode cJ2_getChar_3b067 32 = .ok (.aload_n 0, 1) := by decide +kernel
theorem dJ2_getChar_3b067_33 : decode cJ2_getChar_3b067 33 = .ok (.iload_n 1, 1) := by decide +kernel
theorem dJ2_getChar_3b067_34 : decode cJ2_getChar_3b067 34 = .ok (.iinc 1 1, 3) := by decide +kernel
theorem dJ2_getChar_3b067_37 : decode cJ2_getChar_3b067 37 = .ok (.baload, 1) := by decide +kernel
theorem dJ2_getChar_3b067_38 : decode cJ2_getChar_3b067 38 = .ok (.sipush 255, 3) := by decide +kernel
theorem dJ2_getChar_3b067_41 : decode cJ2_getChar_3b067 41 = .ok (.iand, 1) := by decide +kernel
theorem dJ2_getChar_3b067_42 : decode cJ2_getChar_3b067 42 = .ok (.getstatic 59, 3) := by decide +kernel
theorem dJ2_getChar_3b067_45 : decode cJ2_getChar_3b067 45 = .ok (.ishl, 1) := by decide +kernel
theorem dJ2_getChar_3b067_46 : decode cJ2_getChar_3b067 46 = .ok (.aload_n 0, 1) := by decide +kernel
theorem dJ2_getChar_3b067_47 : decode cJ2_getChar_3b067 47 = .ok (.iload_n 1, 1) := by decide +kernel
theorem dJ2_getChar_3b067_48 : decode cJ2_getChar_3b067 48 = .ok (.baload, 1) := by decide +kernel
theorem dJ2_getChar_3b067_49 : decode cJ2_getChar_3b067 49 = .ok (.sipush 255, 3) := by decide +kernel
theorem dJ2_getChar_3b067_52 : decode cJ2_getChar_3b067 52 = .ok (.iand, 1) := by decide +kernel
theorem dJ2_getChar_3b067_53 : decode cJ2_getChar_3b067 53 = .ok (.getstatic 63, 3) := by decide +kernel
theorem dJ2_getChar_3b067_56 : decode cJ2_getChar_3b067 56 = .ok (.ishl, 1) := by decide +kernel
theorem dJ2_getChar_3b067_57 : decode cJ2_getChar_3b067 57 = .ok (.ior, 1) := by decide +kernel
theorem dJ2_getChar_3b067_58 : decode cJ2_getChar_3b067 58 = .ok (.i2c, 1) := by decide +kernel
theorem dJ2_getChar_3b067_59 : decode cJ2_getChar_3b067 59 = .ok (.ireturn, 1) := by decide +kernel
theorem dJ2_length_9d52b_0 : decode cJ2_length_9d52b 0 = .ok (.aload_n 0, 1) := by decide +kernel
theorem dJ2_length_9d52b_1 : decode cJ2_length_9d52b 1 = .ok (.arraylength, 1) := by decide +kernel
theorem dJ2_length_9d52b_2 : decode cJ2_length_9d52b 2 = .ok (.iconst 1, 1) := by decide +kernel
theorem dJ2_length_9d52b_3 : decode cJ2_length_9d52b 3 = .ok (.ishr, 1) := by decide +kernel
theorem dJ2_length_9d52b_4 : decode cJ2_length_9d52b 4 = .ok (.ireturn, 1) := by decide +kernel
theorem dJ2_charAt_3b067_0 : decode cJ2_charAt_3b067 0 = .ok (.iload_n 1, 1) := by decide +kernel
theorem dJ2_charAt_3b067_1 : decode cJ2_charAt_3b067 1 = .ok (.aload_n 0, 1) := by decide +kernel
theorem dJ2_charAt_3b067_2 : decode cJ2_charAt_3b067 2 = .ok (.invokestatic 67, 3) := by decide +kernel
theorem dJ2_charAt_3b067_5 : decode cJ2_charAt_3b067 5 = .ok (.aload_n 0, 1) := by decide +kernel
theorem dJ2_charAt_3b067_6 : decode cJ2_charAt_3b067 6 = .ok (.iload_n 1, 1) := by decide +kernel
theorem dJ2_charAt_3b067_7 : decode cJ2_charAt_3b067 7 = .ok (.invokestatic 71, 3) := by decide +kernel
theorem dJ2_charAt_3b067_10 : decode cJ2_charAt_3b067 10 = .ok (.ireturn, 1) := by decide +kernel
theorem dJ2_checkIndex_2214a_0 : decode cJ2_checkIndex_2214a 0 = .ok (.iload_n 0, 1) := by decide +kernel
theorem dJ2_checkIndex_2214a_1 : decode cJ2_checkIndex_2214a 1 = .ok (.aload_n 1, 1) := by decide +kernel
theorem dJ2_checkIndex_2214a_2 : decode cJ2_checkIndex_2214a 2 = .ok (.invokestatic 48, 3) := by decide +kernel
theorem dJ2_checkIndex_2214a_5 : decode cJ2_checkIndex_2214a 5 = .ok (.invokestatic 414, 3) := by decide +kernel
theorem dJ2_checkIndex_2214a_8 : decode cJ2_checkIndex_2214a 8 = .ok (.return_, 1) := by decide +kernel
theorem dJ3_checkIndex_8e157_0 : decode cJ3_checkIndex_8e157 0 = .ok (.iload_n 0, 1) := by decide +kernel
theorem dJ3_checkIndex_8e157_1 : decode cJ3_checkIndex_8e157 1 = .ok (.ifCond .lt 8, 3) := by decide +kernel
theorem dJ3_checkIndex_8e157_4 : decode cJ3_checkIndex_8e157 4 = .ok (.iload_n 0, 1) := by decide +kernel
theorem dJ3_checkIndex_8e157_5 : decode cJ3_checkIndex_8e157 5 = .ok (.iload_n 1, 1) := by decide +kernel
theorem dJ3_checkIndex_8e157_6 : decode cJ3_checkIndex_8e157 6 = .ok (.if_icmp .lt 10, 3) := by decide +kernel
theorem dJ3_checkIndex_8e157_9 : decode cJ3_checkIndex_8e157 9 = .ok (.aload_n 2, 1) := by decide +kernel
theorem dJ3_checkIndex_8e157_10 : decode cJ3_checkIndex_8e157 10 = .ok (.iload_n 0, 1) := by decide +kernel
theorem dJ3_checkIndex_8e157_11 : decode cJ3_checkIndex_8e157 11 = .ok (.iload_n 1, 1) := by decide +kernel
theorem dJ3_checkIndex_8e157_12 : decode cJ3_checkIndex_8e157 12 = .ok (.invokestatic 95, 3) := by decide +kernel
theorem dJ3_checkIndex_8e157_15 : decode cJ3_checkIndex_8e157 15 = .ok (.athrow, 1) := by decide +kernel
theorem dJ3_checkIndex_8e157_16 : decode cJ3_checkIndex_8e157 16 = .ok (.iload_n 0, 1) := by decide +kernel
theorem dJ3_checkIndex_8e157_17 : decode cJ3_checkIndex_8e157 17 = .ok (.ireturn, 1) := by decide +kernel
