theorem dX8_where_28 : decode cX8_where 28 = .ok (.iload_n 2, 1) := by decide +kernel
theorem dX8_where_29 : decode cX8_where 29 = .ok (.aload_n 0, 1) := by decide +kernel
theorem dX8_where_30 : decode cX8_where 30 = .ok (.iload_n 3, 1) := by decide +kernel
theorem dX8_where_31 : decode cX8_where 31 = .ok (.invokevirtual 99, 3) := by decide +kernel
theorem dX8_where_34 : decode cX8_where 34 = .ok (.iload_n 1, 1) := by decide +kernel
theorem dX8_where_35 : decode cX8_where 35 = .ok (.ishr, 1) := by decide +kernel
theorem dX8_where_36 : decode cX8_where 36 = .ok (.iconst 1, 1) := by decide +kernel
theorem dX8_where_37 : decode cX8_where 37 = .ok (.iand, 1) := by decide +kernel
theorem dX8_where_38 : decode cX8_where 38 = .ok (.iload_n 3, 1) := by decide +kernel
theorem dX8_where_39 : decode cX8_where 39 = .ok (.ishl, 1) := by decide +kernel
theorem dX8_where_40 : decode cX8_where 40 = .ok (.ior, 1) := by decide +kernel
theorem dX8_where_41 : decode cX8_where 41 = .ok (.istore_n 2, 1) := by decide +kernel
theorem dX8_where_42 : decode cX8_where 42 = .ok (.iinc 3 1, 3) := by decide +kernel
theorem dX8_where_45 : decode cX8_where 45 = .ok (.goto (-27), 3) := by decide +kernel
theorem dX8_where_48 : decode cX8_where 48 = .ok (.iload_n 2, 1) := by decide +kernel
theorem dX8_where_49 : decode cX8_where 49 = .ok (.ireturn, 1) := by decide +kernel
theorem dX8_lost_0 : decode cX8_lost 0 = .ok (.aload_n 0, 1) := by decide +kernel
theorem dX8_lost_1 : decode cX8_lost 1 = .ok (.iload_n 1, 1) := by decide +kernel
theorem dX8_lost_2 : decode cX8_lost 2 = .ok (.invokevirtual 91, 3) := by decide +kernel
theorem dX8_lost_5 : decode cX8_lost 5 = .ok (.ifCond .eq 17, 3) := by decide +kernel
theorem dX8_lost_8 : decode cX8_lost 8 = .ok (.iload_n 2, 1) := by decide +kernel
theorem dX8_lost_9 : decode cX8_lost 9 = .ok (.invokestatic 122, 3) := by decide +kernel
theorem dX8_lost_12 : decode cX8_lost 12 = .ok (.ifCond .eq 10, 3) := by decide +kernel
theorem dX8_lost_15 : decode cX8_lost 15 = .ok (.iload_n 3, 1) := by decide +kernel
theorem dX8_lost_16 : decode cX8_lost 16 = .ok (.invokestatic 178, 3) := by decide +kernel
theorem dX8_lost_19 : decode cX8_lost 19 = .ok (.ifCond .ne 10, 3) := by decide +kernel
theorem dX8_lost_22 : decode cX8_lost 22 = .ok (.aload_n 0, 1) := by decide +kernel
theorem dX8_lost_23 : decode cX8_lost 23 = .ok (.ldc 44, 2) := by decide +kernel
theorem dX8_lost_25 : decode cX8_lost 25 = .ok (.invokevirtual 67, 3) := by decide +kernel
theorem dX8_lost_28 : decode cX8_lost 28 = .ok (.ireturn, 1) := by decide +kernel
theorem dX8_lost_29 : decode cX8_lost 29 = .ok (.aload_n 0, 1) := by decide +kernel
theorem dX8_lost_30 : decode cX8_lost 30 = .ok (.invokevirtual 188, 3) := by decide +kernel
theorem dX8_lost_33 : decode cX8_lost 33 = .ok (.iconst 0, 1) := by decide +kernel
theorem dX8_lost_34 : decode cX8_lost 34 = .ok (.istore 4, 2) := by decide +kernel
theorem dX8_lost_36 : decode cX8_lost 36 = .ok (.iload 4, 2) := by decide +kernel
theorem dX8_lost_38 : decode cX8_lost 38 = .ok (.bipush 60, 2) := by decide +kernel
theorem dX8_lost_40 : decode cX8_lost 40 = .ok (.if_icmp .gt 29, 3) := by decide +kernel
theorem dX8_lost_43 : decode cX8_lost 43 = .ok (.aload_n 0, 1) := by decide +kernel
theorem dX8_lost_44 : decode cX8_lost 44 = .ok (.iload_n 1, 1) := by decide +kernel
theorem dX8_lost_45 : decode cX8_lost 45 = .ok (.bipush 7, 2) := by decide +kernel
theorem dX8_lost_47 : decode cX8_lost 47 = .ok (.iload_n 3, 1) := by decide +kernel
theorem dX8_lost_48 : decode cX8_lost 48 = .ok (.invokevirtual 185, 3) := by decide +kernel
theorem dX8_lost_51 : decode cX8_lost 51 = .ok (.iload_n 2, 1) := by decide +kernel
theorem dX8_lost_52 : decode cX8_lost 52 = .ok (.ishr, 1) := by decide +kernel
theorem dX8_lost_53 : decode cX8_lost 53 = .ok (.iconst 1, 1) := by decide +kernel
theorem dX8_lost_54 : decode cX8_lost 54 = .ok (.iand, 1) := by decide +kernel
theorem dX8_lost_55 : decode cX8_lost 55 = .ok (.iconst 1, 1) := by decide +kernel
theorem dX8_lost_56 : decode cX8_lost 56 = .ok (.if_icmp .ne 13, 3) := by decide +kernel
theorem dX8_lost_59 : decode cX8_lost 59 = .ok (.aload_n 0, 1) := by decide +kernel
theorem dX8_lost_60 : decode cX8_lost 60 = .ok (.invokevirtual 144, 3) := by decide +kernel
theorem dX8_lost_63 : decode cX8_lost 63 = .ok (.iinc 4 1, 3) := by decide +kernel
theorem dX8_lost_66 : decode cX8_lost 66 = .ok (.goto (-30), 3) := by decide +kernel
theorem dX8_lost_69 : decode cX8_lost 69 = .ok (.aload_n 0, 1) := by decide +kernel
theorem dX8_lost_70 : decode cX8_lost 70 = .ok (.iload 4, 2) := by decide +kernel
theorem dX8_lost_72 : decode cX8_lost 72 = .ok (.invokevirtual 191, 3) := by decide +kernel
theorem dX8_lost_75 : decode cX8_lost 75 = .ok (.istore 5, 2) := by decide +kernel
theorem dX8_lost_77 : decode cX8_lost 77 = .ok (.iload 5, 2) := by decide +kernel
theorem dX8_lost_79 : decode cX8_lost 79 = .ok (.bipush 60, 2) := by decide +kernel
theorem dX8_lost_81 : decode cX8_lost 81 = .ok (.if_icmp .le 12, 3) := by decide +kernel
theorem dX8_lost_84 : decode cX8_lost 84 = .ok (.aload_n 0, 1) := by decide +kernel
theorem dX8_lost_85 : decode cX8_lost 85 = .ok (.ldc 113, 2) := by decide +kernel
theorem dX8_lost_87 : decode cX8_lost 87 = .ok (.invokevirtual 67, 3) := by decide +kernel
theorem dX8_lost_90 : decode cX8_lost 90 = .ok (.goto 5, 3) := by decide +kernel
theorem dX8_lost_93 : decode cX8_lost 93 = .ok (.iload 5, 2) := by decide +kernel
theorem dX8_lost_95 : decode cX8_lost 95 = .ok (.ireturn, 1) := by decide +kernel
theorem dX8_covers_0 : decode cX8_covers 0 = .ok (.aload_n 0, 1) := by decide +kernel
theorem dX8_covers_1 : decode cX8_covers 1 = .ok (.iload_n 1, 1) := by decide +kernel
theorem dX8_covers_2 : decode cX8_covers 2 = .ok (.invokevirtual 91, 3) := by decide +kernel
theorem dX8_covers_5 : decode cX8_covers 5 = .ok (.ifCond .eq 17, 3) := by decide +kernel
theorem dX8_covers_8 : decode cX8_covers 8 = .ok (.iload_n 2, 1) := by decide +kernel
theorem dX8_covers_9 : decode cX8_covers 9 = .ok (.invokestatic 122, 3) := by decide +kernel
theorem dX8_covers_12 : decode cX8_covers 12 = .ok (.ifCond .eq 10, 3) := by decide +kernel
theorem dX8_covers_15 : decode cX8_covers 15 = .ok (.iload_n 3, 1) := by decide +kernel
theorem dX8_covers_16 : decode cX8_covers 16 = .ok (.invokestatic 122, 3) := by decide +kernel
theorem dX8_covers_19 : decode cX8_covers 19 = .ok (.ifCond .ne 10, 3) := by decide +kernel
theorem dX8_covers_22 : decode cX8_covers 22 = .ok (.aload_n 0, 1) := by decide +kernel
theorem dX8_covers_23 : decode cX8_covers 23 = .ok (.ldc 44, 2) := by decide +kernel
theorem dX8_covers_25 : decode cX8_covers 25 = .ok (.invokevirtual 67, 3) := by decide +kernel
theorem dX8_covers_28 : decode cX8_covers 28 = .ok (.ireturn, 1) := by decide +kernel
theorem dX8_covers_29 : decode cX8_covers 29 = .ok (.iconst 0, 1) := by decide +kernel
theorem dX8_covers_30 : decode cX8_covers 30 = .ok (.istore 4, 2) := by decide +kernel
theorem dX8_covers_32 : decode cX8_covers 32 = .ok (.iload 4, 2) := by decide +kernel
theorem dX8_covers_34 : decode cX8_covers 34 = .ok (.bipush 8, 2) := by decide +kernel
theorem dX8_covers_36 : decode cX8_covers 36 = .ok (.if_icmp .ge 23, 3) := by decide +kernel
theorem dX8_covers_39 : decode cX8_covers 39 = .ok (.aload_n 0, 1) := by decide +kernel
theorem dX8_covers_40 : decode cX8_covers 40 = .ok (.iload_n 1, 1) := by decide +kernel
theorem dX8_covers_41 : decode cX8_covers 41 = .ok (.iload 4, 2) := by decide +kernel
theorem dX8_covers_43 : decode cX8_covers 43 = .ok (.invokevirtual 88, 3) := by decide +kernel
theorem dX8_covers_46 : decode cX8_covers 46 = .ok (.iload_n 3, 1) := by decide +kernel
theorem dX8_covers_47 : decode cX8_covers 47 = .ok (.ishr, 1) := by decide +kernel
theorem dX8_covers_48 : decode cX8_covers 48 = .ok (.iconst 1, 1) := by decide +kernel
theorem dX8_covers_49 : decode cX8_covers 49 = .ok (.iand, 1) := by decide +kernel
theorem dX8_covers_50 : decode cX8_covers 50 = .ok (.ifCond .ne 9, 3) := by decide +kernel
theorem dX8_covers_53 : decode cX8_covers 53 = .ok (.iinc 4 1, 3) := by decide +kernel
theorem dX8_covers_56 : decode cX8_covers 56 = .ok (.goto (-24), 3) := by decide +kernel
theorem dX8_covers_59 : decode cX8_covers 59 = .ok (.iconst 0, 1) := by decide +kernel
theorem dX8_covers_60 : decode cX8_covers 60 = .ok (.istore 5, 2) := by decide +kernel
theorem dX8_covers_62 : decode cX8_covers 62 = .ok (.iload 5, 2) := by decide +kernel
theorem dX8_covers_64 : decode cX8_covers 64 = .ok (.bipush 10, 2) := by decide +kernel
theorem dX8_covers_66 : decode cX8_covers 66 = .ok (.if_icmp .ge 32, 3) := by decide +kernel
theorem dX8_covers_69 : decode cX8_covers 69 = .ok (.iload 4, 2) := by decide +kernel
theorem dX8_covers_71 : decode cX8_covers 71 = .ok (.bipush 8, 2) := by decide +kernel
theorem dX8_covers_73 : decode cX8_covers 73 = .ok (.if_icmp .ge 25, 3) := by decide +kernel
theorem dX8_covers_76 : decode cX8_covers 76 = .ok (.aload_n 0, 1) := by decide +kernel
theorem dX8_covers_77 : decode cX8_covers 77 = .ok (.iload_n 1, 1) := by decide +kernel
theorem dX8_covers_78 : decode cX8_covers 78 = .ok (.iload_n 2, 1) := by decide +kernel
theorem dX8_covers_79 : decode cX8_covers 79 = .ok (.iload 5, 2) := by decide +kernel
theorem dX8_covers_81 : decode cX8_covers 81 = .ok (.invokevirtual 134, 3) := by decide +kernel
theorem dX8_covers_84 : decode cX8_covers 84 = .ok (.iload 4, 2) := by decide +kernel
theorem dX8_covers_86 : decode cX8_covers 86 = .ok (.if_icmp .ne 6, 3) := by decide +kernel
theorem dX8_covers_89 : decode cX8_covers 89 = .ok (.iload 5, 2) := by decide +kernel
theorem dX8_covers_91 : decode cX8_covers 91 = .ok (.ireturn, 1) := by decide +kernel
theorem dX8_covers_92 : decode cX8_covers 92 = .ok (.iinc 5 1, 3) := by decide +kernel
theorem dX8_covers_95 : decode cX8_covers 95 = .ok (.goto (-33), 3) := by decide +kernel
theorem dX8_covers_98 : decode cX8_covers 98 = .ok (.aload_n 0, 1) := by decide +kernel
theorem dX8_covers_99 : decode cX8_covers 99 = .ok (.ldc 113, 2) := by decide +kernel
theorem dX8_covers_101 : decode cX8_covers 101 = .ok (.invokevirtual 67, 3) := by decide +kernel
theorem dX8_covers_104 : decode cX8_covers 104 = .ok (.ireturn, 1) := by decide +kernel
theorem dX8_saysAll_0 : decode cX8_saysAll 0 = .ok (.iconst 0, 1) := by decide +kernel
theorem dX8_saysAll_1 : decode cX8_saysAll 1 = .ok (.istore 4, 2) := by decide +kernel
theorem dX8_saysAll_3 : decode cX8_saysAll 3 = .ok (.iconst 0, 1) := by decide +kernel
theorem dX8_saysAll_4 : decode cX8_saysAll 4 = .ok (.istore 5, 2) := by decide +kernel
theorem dX8_saysAll_6 : decode cX8_saysAll 6 = .ok (.iload 5, 2) := by decide +kernel
theorem dX8_saysAll_8 : decode cX8_saysAll 8 = .ok (.bipush 16, 2) := by decide +kernel
theorem dX8_saysAll_10 : decode cX8_saysAll 10 = .ok (.if_icmp .ge 36, 3) := by decide +kernel
theorem dX8_saysAll_13 : decode cX8_saysAll 13 = .ok (.iload 4, 2) := by decide +kernel
theorem dX8_saysAll_15 : decode cX8_saysAll 15 = .ok (.iload_n 2, 1) := by decide +kernel
theorem dX8_saysAll_16 : decode cX8_saysAll 16 = .ok (.iload 5, 2) := by decide +kernel
theorem dX8_saysAll_18 : decode cX8_saysAll 18 = .ok (.ishr, 1) := by decide +kernel
theorem dX8_saysAll_19 : decode cX8_saysAll 19 = .ok (.iconst 1, 1) := by decide +kernel
theorem dX8_saysAll_20 : decode cX8_saysAll 20 = .ok (.iand, 1) := by decide +kernel
theorem dX8_saysAll_21 : decode cX8_saysAll 21 = .ok (.iconst 1, 1) := by decide +kernel
theorem dX8_saysAll_22 : decode cX8_saysAll 22 = .ok (.if_icmp .ne 14, 3) := by decide +kernel
theorem dX8_saysAll_25 : decode cX8_saysAll 25 = .ok (.aload_n 0, 1) := by decide +kernel
theorem dX8_saysAll_26 : decode cX8_saysAll 26 = .ok (.iload_n 1, 1) := by decide +kernel
theorem dX8_saysAll_27 : decode cX8_saysAll 27 = .ok (.iload 5, 2) := by decide +kernel
theorem dX8_saysAll_29 : decode cX8_saysAll 29 = .ok (.iload_n 3, 1) := by decide +kernel
theorem dX8_saysAll_30 : decode cX8_saysAll 30 = .ok (.invokevirtual 141, 3) := by decide +kernel
theorem dX8_saysAll_33 : decode cX8_saysAll 33 = .ok (.goto 4, 3) := by decide +kernel
theorem dX8_saysAll_36 : decode cX8_saysAll 36 = .ok (.iconst 0, 1) := by decide +kernel
theorem dX8_saysAll_37 : decode cX8_saysAll 37 = .ok (.iadd, 1) := by decide +kernel
theorem dX8_saysAll_38 : decode cX8_saysAll 38 = .ok (.istore 4, 2) := by decide +kernel
theorem dX8_saysAll_40 : decode cX8_saysAll 40 = .ok (.iinc 5 1, 3) := by decide +kernel
theorem dX8_saysAll_43 : decode cX8_saysAll 43 = .ok (.goto (-37), 3) := by decide +kernel
theorem dX8_saysAll_46 : decode cX8_saysAll 46 = .ok (.iload 4, 2) := by decide +kernel
theorem dX8_saysAll_48 : decode cX8_saysAll 48 = .ok (.ireturn, 1) := by decide +kernel
theorem dX8_kind_0 : decode cX8_kind 0 = .ok (.aload_n 0, 1) := by decide +kernel
theorem dX8_kind_1 : decode cX8_kind 1 = .ok (.iload_n 1, 1) := by decide +kernel
theorem dX8_kind_2 : decode cX8_kind 2 = .ok (.invokevirtual 91, 3) := by decide +kernel
theorem dX8_kind_5 : decode cX8_kind 5 = .ok (.ifCond .eq 17, 3) := by decide +kernel
theorem dX8_kind_8 : decode cX8_kind 8 = .ok (.iload_n 2, 1) := by decide +kernel
theorem dX8_kind_9 : decode cX8_kind 9 = .ok (.invokestatic 194, 3) := by decide +kernel
theorem dX8_kind_12 : decode cX8_kind 12 = .ok (.ifCond .eq 10, 3) := by decide +kernel
theorem dX8_kind_15 : decode cX8_kind 15 = .ok (.iload_n 3, 1) := by decide +kernel
theorem dX8_kind_16 : decode cX8_kind 16 = .ok (.invokestatic 125, 3) := by decide +kernel
theorem dX8_kind_19 : decode cX8_kind 19 = .ok (.ifCond .ne 10, 3) := by decide +kernel
theorem dX8_kind_22 : decode cX8_kind 22 = .ok (.aload_n 0, 1) := by decide +kernel
theorem dX8_kind_23 : decode cX8_kind 23 = .ok (.ldc 44, 2) := by decide +kernel
theorem dX8_kind_25 : decode cX8_kind 25 = .ok (.invokevirtual 67, 3) := by decide +kernel
theorem dX8_kind_28 : decode cX8_kind 28 = .ok (.ireturn, 1) := by decide +kernel
theorem dX8_kind_29 : decode cX8_kind 29 = .ok (.iconst 0, 1) := by decide +kernel
theorem dX8_kind_30 : decode cX8_kind 30 = .ok (.istore 4, 2) := by decide +kernel
theorem dX8_kind_32 : decode cX8_kind 32 = .ok (.iconst (-1), 1) := by decide +kernel
theorem dX8_kind_33 : decode cX8_kind 33 = .ok (.istore 5, 2) := by decide +kernel
theorem dX8_kind_35 : decode cX8_kind 35 = .ok (.iconst 0, 1) := by decide +kernel
theorem dX8_kind_36 : decode cX8_kind 36 = .ok (.istore 6, 2) := by decide +kernel
theorem dX8_kind_38 : decode cX8_kind 38 = .ok (.iload 6, 2) := by decide +kernel
theorem dX8_kind_40 : decode cX8_kind 40 = .ok (.iconst 5, 1) := by decide +kernel
theorem dX8_kind_41 : decode cX8_kind 41 = .ok (.if_icmp .gt 75, 3) := by decide +kernel
theorem dX8_kind_44 : decode cX8_kind 44 = .ok (.aload_n 0, 1) := by decide +kernel
theorem dX8_kind_45 : decode cX8_kind 45 = .ok (.invokevirtual 188, 3) := by decide +kernel
theorem dX8_kind_48 : decode cX8_kind 48 = .ok (.aload_n 0, 1) := by decide +kernel
theorem dX8_kind_49 : decode cX8_kind 49 = .ok (.getfield 7, 3) := by decide +kernel
theorem dX8_kind_52 : decode cX8_kind 52 = .ok (.iconst 3, 1) := by decide +kernel
theorem dX8_kind_53 : decode cX8_kind 53 = .ok (.iload_n 1, 1) := by decide +kernel
theorem dX8_kind_54 : decode cX8_kind 54 = .ok (.iadd, 1) := by decide +kernel
theorem dX8_kind_55 : decode cX8_kind 55 = .ok (.iload 6, 2) := by decide +kernel
theorem dX8_kind_57 : decode cX8_kind 57 = .ok (.iastore, 1) := by decide +kernel
theorem dX8_kind_58 : decode cX8_kind 58 = .ok (.aload_n 0, 1) := by decide +kernel
theorem dX8_kind_59 : decode cX8_kind 59 = .ok (.iload_n 1, 1) := by decide +kernel
theorem dX8_kind_60 : decode cX8_kind 60 = .ok (.iload_n 2, 1) := by decide +kernel
theorem dX8_kind_61 : decode cX8_kind 61 = .ok (.iload_n 3, 1) := by decide +kernel
theorem dX8_kind_62 : decode cX8_kind 62 = .ok (.invokevirtual 201, 3) := by decide +kernel
theorem dX8_kind_65 : decode cX8_kind 65 = .ok (.istore 7, 2) := by decide +kernel
theorem dX8_kind_67 : decode cX8_kind 67 = .ok (.aload_n 0, 1) := by decide +kernel
theorem dX8_kind_68 : decode cX8_kind 68 = .ok (.aload_n 0, 1) := by decide +kernel
theorem dX8_kind_69 : decode cX8_kind 69 = .ok (.iload_n 1, 1) := by decide +kernel
theorem dX8_kind_70 : decode cX8_kind 70 = .ok (.invokevirtual 96, 3) := by decide +kernel
theorem dX8_kind_73 : decode cX8_kind 73 = .ok (.invokevirtual 191, 3) := by decide +kernel
theorem dX8_kind_76 : decode cX8_kind 76 = .ok (.istore 8, 2) := by decide +kernel
theorem dX8_kind_78 : decode cX8_kind 78 = .ok (.iload 8, 2) := by decide +kernel
theorem dX8_kind_80 : decode cX8_kind 80 = .ok (.iload 5, 2) := by decide +kernel
theorem dX8_kind_82 : decode cX8_kind 82 = .ok (.if_icmp .le 8, 3) := by decide +kernel
theorem dX8_kind_85 : decode cX8_kind 85 = .ok (.iload 6, 2) := by decide +kernel
theorem dX8_kind_87 : decode cX8_kind 87 = .ok (.goto 5, 3) := by decide +kernel
theorem dX8_kind_90 : decode cX8_kind 90 = .ok (.iload 4, 2) := by decide +kernel
theorem dX8_kind_92 : decode cX8_kind 92 = .ok (.istore 4, 2) := by decide +kernel
theorem dX8_kind_94 : decode cX8_kind 94 = .ok (.iload 8, 2) := by decide +kernel
theorem dX8_kind_96 : decode cX8_kind 96 = .ok (.iload 5, 2) := by decide +kernel
theorem dX8_kind_98 : decode cX8_kind 98 = .ok (.if_icmp .le 8, 3) := by decide +kernel
theorem dX8_kind_101 : decode cX8_kind 101 = .ok (.iload 8, 2) := by decide +kernel
theorem dX8_kind_103 : decode cX8_kind 103 = .ok (.goto 5, 3) := by decide +kernel
theorem dX8_kind_106 : decode cX8_kind 106 = .ok (.iload 5, 2) := by decide +kernel
theorem dX8_kind_108 : decode cX8_kind 108 = .ok (.istore 5, 2) := by decide +kernel
theorem dX8_kind_110 : decode cX8_kind 110 = .ok (.iinc 6 1, 3) := by decide +kernel
theorem dX8_kind_113 : decode cX8_kind 113 = .ok (.goto (-75), 3) := by decide +kernel
theorem dX8_kind_116 : decode cX8_kind 116 = .ok (.iload 4, 2) := by decide +kernel
theorem dX8_kind_118 : decode cX8_kind 118 = .ok (.ireturn, 1) := by decide +kernel
theorem dX8_best_0 : decode cX8_best 0 = .ok (.iload_n 1, 1) := by decide +kernel
theorem dX8_best_1 : decode cX8_best 1 = .ok (.invokestatic 194, 3) := by decide +kernel
theorem dX8_best_4 : decode cX8_best 4 = .ok (.ifCond .eq 10, 3) := by decide +kernel
theorem dX8_best_7 : decode cX8_best 7 = .ok (.iload_n 2, 1) := by decide +kernel
theorem dX8_best_8 : decode cX8_best 8 = .ok (.invokestatic 125, 3) := by decide +kernel
theorem dX8_best_11 : decode cX8_best 11 = .ok (.ifCond .ne 10, 3) := by decide +kernel
theorem dX8_best_14 : decode cX8_best 14 = .ok (.aload_n 0, 1) := by decide +kernel
theorem dX8_best_15 : decode cX8_best 15 = .ok (.ldc 44, 2) := by decide +kernel
theorem dX8_best_17 : decode cX8_best 17 = .ok (.invokevirtual 67, 3) := by decide +kernel
theorem dX8_best_20 : decode cX8_best 20 = .ok (.ireturn, 1) := by decide +kernel
theorem dX8_best_21 : decode cX8_best 21 = .ok (.iconst (-1), 1) := by decide +kernel
theorem dX8_best_22 : decode cX8_best 22 = .ok (.istore_n 3, 1) := by decide +kernel
theorem dX8_best_23 : decode cX8_best 23 = .ok (.iconst 0, 1) := by decide +kernel
theorem dX8_best_24 : decode cX8_best 24 = .ok (.istore 4, 2) := by decide +kernel
theorem dX8_best_26 : decode cX8_best 26 = .ok (.iconst 0, 1) := by decide +kernel
theorem dX8_best_27 : decode cX8_best 27 = .ok (.istore 5, 2) := by decide +kernel
theorem dX8_best_29 : decode cX8_best 29 = .ok (.iload 5, 2) := by decide +kernel
theorem dX8_best_31 : decode cX8_best 31 = .ok (.aload_n 0, 1) := by decide +kernel
theorem dX8_best_32 : decode cX8_best 32 = .ok (.getfield 7, 3) := by decide +kernel
theorem dX8_best_35 : decode cX8_best 35 = .ok (.iconst 0, 1) := by decide +kernel
theorem dX8_best_36 : decode cX8_best 36 = .ok (.iaload, 1) := by decide +kernel
theorem dX8_best_37 : decode cX8_best 37 = .ok (.if_icmp .ge 60, 3) := by decide +kernel
theorem dX8_best_40 : decode cX8_best 40 = .ok (.aload_n 0, 1) := by decide +kernel
theorem dX8_best_41 : decode cX8_best 41 = .ok (.invokevirtual 188, 3) := by decide +kernel
theorem dX8_best_44 : decode cX8_best 44 = .ok (.aload_n 0, 1) := by decide +kernel
theorem dX8_best_45 : decode cX8_best 45 = .ok (.aload_n 0, 1) := by decide +kernel
theorem dX8_best_46 : decode cX8_best 46 = .ok (.iload 5, 2) := by decide +kernel
theorem dX8_best_48 : decode cX8_best 48 = .ok (.iload_n 1, 1) := by decide +kernel
theorem dX8_best_49 : decode cX8_best 49 = .ok (.iload_n 2, 1) := by decide +kernel
theorem dX8_best_50 : decode cX8_best 50 = .ok (.invokevirtual 201, 3) := by decide +kernel
theorem dX8_best_53 : decode cX8_best 53 = .ok (.invokevirtual 191, 3) := by decide +kernel
theorem dX8_best_56 : decode cX8_best 56 = .ok (.istore 6, 2) := by decide +kernel
theorem dX8_best_58 : decode cX8_best 58 = .ok (.iload_n 3, 1) := by decide +kernel
theorem dX8_best_59 : decode cX8_best 59 = .ok (.ifCond .lt 10, 3) := by decide +kernel
theorem dX8_best_62 : decode cX8_best 62 = .ok (.iload 6, 2) := by decide +kernel
theorem dX8_best_64 : decode cX8_best 64 = .ok (.iload 4, 2) := by decide +kernel
theorem dX8_best_66 : decode cX8_best 66 = .ok (.if_icmp .le 8, 3) := by decide +kernel
theorem dX8_best_69 : decode cX8_best 69 = .ok (.iload 5, 2) := by decide +kernel
theorem dX8_best_71 : decode cX8_best 71 = .ok (.goto 4, 3) := by decide +kernel
theorem dX8_best_74 : decode cX8_best 74 = .ok (.iload_n 3, 1) := by decide +kernel
theorem dX8_best_75 : decode cX8_best 75 = .ok (.istore_n 3, 1) := by decide +kernel
theorem dX8_best_76 : decode cX8_best 76 = .ok (.iload_n 3, 1) := by decide +kernel
theorem dX8_best_77 : decode cX8_best 77 = .ok (.iload 5, 2) := by decide +kernel
theorem dX8_best_79 : decode cX8_best 79 = .ok (.if_icmp .ne 8, 3) := by decide +kernel
theorem dX8_best_82 : decode cX8_best 82 = .ok (.iload 6, 2) := by decide +kernel
theorem dX8_best_84 : decode cX8_best 84 = .ok (.goto 5, 3) := by decide +kernel
theorem dX8_best_87 : decode cX8_best 87 = .ok (.iload 4, 2) := by decide +kernel
theorem dX8_best_89 : decode cX8_best 89 = .ok (.istore 4, 2) := by decide +kernel
theorem dX8_best_91 : decode cX8_best 91 = .ok (.iinc 5 1, 3) := by decide +kernel
theorem dX8_best_94 : decode cX8_best 94 = .ok (.goto (-65), 3) := by decide +kernel
theorem dX8_best_97 : decode cX8_best 97 = .ok (.iload_n 3, 1) := by decide +kernel
theorem dX8_best_98 : decode cX8_best 98 = .ok (.ifCond .ge 12, 3) := by decide +kernel
theorem dX8_best_101 : decode cX8_best 101 = .ok (.aload_n 0, 1) := by decide +kernel
theorem dX8_best_102 : decode cX8_best 102 = .ok (.ldc 113, 2) := by decide +kernel
theorem dX8_best_104 : decode cX8_best 104 = .ok (.invokevirtual 67, 3) := by decide +kernel
theorem dX8_best_107 : decode cX8_best 107 = .ok (.goto 4, 3) := by decide +kernel
theorem dX8_best_110 : decode cX8_best 110 = .ok (.iload_n 3, 1) := by decide +kernel
theorem dX8_best_111 : decode cX8_best 111 = .ok (.ireturn, 1) := by decide +kernel
theorem dX8_richest_0 : decode cX8_richest 0 = .ok (.aload_n 0, 1) := by decide +kernel
theorem dX8_richest_1 : decode cX8_richest 1 = .ok (.iload_n 1, 1) := by decide +kernel
theorem dX8_richest_2 : decode cX8_richest 2 = .ok (.invokevirtual 91, 3) := by decide +kernel
theorem dX8_richest_5 : decode cX8_richest 5 = .ok (.ifCond .ne 10, 3) := by decide +kernel
theorem dX8_richest_8 : decode cX8_richest 8 = .ok (.aload_n 0, 1) := by decide +kernel
theorem dX8_richest_9 : decode cX8_richest 9 = .ok (.ldc 44, 2) := by decide +kernel
theorem dX8_richest_11 : decode cX8_richest 11 = .ok (.invokevirtual 67, 3) := by decide +kernel
theorem dX8_richest_14 : decode cX8_richest 14 = .ok (.ireturn, 1) := by decide +kernel
theorem dX8_richest_15 : decode cX8_richest 15 = .ok (.iconst (-1), 1) := by decide +kernel
theorem dX8_richest_16 : decode cX8_richest 16 = .ok (.istore_n 2, 1) := by decide +kernel
theorem dX8_richest_17 : decode cX8_richest 17 = .ok (.iconst 0, 1) := by decide +kernel
theorem dX8_richest_18 : decode cX8_richest 18 = .ok (.istore_n 3, 1) := by decide +kernel
theorem dX8_richest_19 : decode cX8_richest 19 = .ok (.iconst 0, 1) := by decide +kernel
theorem dX8_richest_20 : decode cX8_richest 20 = .ok (.istore 4, 2) := by decide +kernel
theorem dX8_richest_22 : decode cX8_richest 22 = .ok (.iload 4, 2) := by decide +kernel
theorem dX8_richest_24 : decode cX8_richest 24 = .ok (.bipush 8, 2) := by decide +kernel
theorem dX8_richest_26 : decode cX8_richest 26 = .ok (.if_icmp .ge 47, 3) := by decide +kernel
theorem dX8_richest_29 : decode cX8_richest 29 = .ok (.aload_n 0, 1) := by decide +kernel
theorem dX8_richest_30 : decode cX8_richest 30 = .ok (.iload_n 1, 1) := by decide +kernel
theorem dX8_richest_31 : decode cX8_richest 31 = .ok (.iload 4, 2) := by decide +kernel
theorem dX8_richest_33 : decode cX8_richest 33 = .ok (.invokevirtual 88, 3) := by decide +kernel
theorem dX8_richest_36 : decode cX8_richest 36 = .ok (.invokestatic 198, 3) := by decide +kernel
theorem dX8_richest_39 : decode cX8_richest 39 = .ok (.istore 5, 2) := by decide +kernel
theorem dX8_richest_41 : decode cX8_richest 41 = .ok (.iload 5, 2) := by decide +kernel
theorem dX8_richest_43 : decode cX8_richest 43 = .ok (.iload_n 3, 1) := by decide +kernel
theorem dX8_richest_44 : decode cX8_richest 44 = .ok (.if_icmp .le 8, 3) := by decide +kernel
theorem dX8_richest_47 : decode cX8_richest 47 = .ok (.iload 4, 2) := by decide +kernel
theorem dX8_richest_49 : decode cX8_richest 49 = .ok (.goto 4, 3) := by decide +kernel
theorem dX8_richest_52 : decode cX8_richest 52 = .ok (.iload_n 2, 1) := by decide +kernel
theorem dX8_richest_53 : decode cX8_richest 53 = .ok (.istore_n 2, 1) := by decide +kernel
theorem dX8_richest_54 : decode cX8_richest 54 = .ok (.iload 5, 2) := by decide +kernel
theorem dX8_richest_56 : decode cX8_richest 56 = .ok (.iload_n 3, 1) := by decide +kernel
theorem dX8_richest_57 : decode cX8_richest 57 = .ok (.if_icmp .le 8, 3) := by decide +kernel
theorem dX8_richest_60 : decode cX8_richest 60 = .ok (.iload 5, 2) := by decide +kernel
theorem dX8_richest_62 : decode cX8_richest 62 = .ok (.goto 4, 3) := by decide +kernel
theorem dX8_richest_65 : decode cX8_richest 65 = .ok (.iload_n 3, 1) := by decide +kernel
theorem dX8_richest_66 : decode cX8_richest 66 = .ok (.istore_n 3, 1) := by decide +kernel
theorem dX8_richest_67 : decode cX8_richest 67 = .ok (.iinc 4 1, 3) := by decide +kernel
theorem dX8_richest_70 : decode cX8_richest 70 = .ok (.goto (-48), 3) := by decide +kernel
theorem dX8_richest_73 : decode cX8_richest 73 = .ok (.iload_n 2, 1) := by decide +kernel
theorem dX8_richest_74 : decode cX8_richest 74 = .ok (.ifCond .ge 12, 3) := by decide +kernel
theorem dX8_richest_77 : decode cX8_richest 77 = .ok (.aload_n 0, 1) := by decide +kernel
theorem dX8_richest_78 : decode cX8_richest 78 = .ok (.ldc 113, 2) := by decide +kernel
theorem dX8_richest_80 : decode cX8_richest 80 = .ok (.invokevirtual 67, 3) := by decide +kernel
theorem dX8_richest_83 : decode cX8_richest 83 = .ok (.goto 4, 3) := by decide +kernel
theorem dX8_richest_86 : decode cX8_richest 86 = .ok (.iload_n 2, 1) := by decide +kernel
theorem dX8_richest_87 : decode cX8_richest 87 = .ok (.ireturn, 1) := by decide +kernel
theorem dX8_feed_0 : decode cX8_feed 0 = .ok (.iload_n 2, 1) := by decide +kernel
theorem dX8_feed_1 : decode cX8_feed 1 = .ok (.i2l, 1) := by decide +kernel
theorem dX8_feed_2 : decode cX8_feed 2 = .ok (.lconst 1, 1) := by decide +kernel
theorem dX8_feed_3 : decode cX8_feed 3 = .ok (.ldc2_w 94, 3) := by decide +kernel
theorem dX8_feed_6 : decode cX8_feed 6 = .ok (.invokestatic 45, 3) := by decide +kernel
theorem dX8_feed_9 : decode cX8_feed 9 = .ok (.ifCond .ne 10, 3) := by decide +kernel
theorem dX8_feed_12 : decode cX8_feed 12 = .ok (.aload_n 0, 1) := by decide +kernel
theorem dX8_feed_13 : decode cX8_feed 13 = .ok (.ldc 44, 2) := by decide +kernel
theorem dX8_feed_15 : decode cX8_feed 15 = .ok (.invokevirtual 67, 3) := by decide +kernel
theorem dX8_feed_18 : decode cX8_feed 18 = .ok (.ireturn, 1) := by decide +kernel
theorem dX8_feed_19 : decode cX8_feed 19 = .ok (.aload_n 0, 1) := by decide +kernel
theorem dX8_feed_20 : decode cX8_feed 20 = .ok (.getfield 204, 3) := by decide +kernel
theorem dX8_feed_23 : decode cX8_feed 23 = .ok (.iload_n 2, 1) := by decide +kernel
theorem dX8_feed_24 : decode cX8_feed 24 = .ok (.iadd, 1) := by decide +kernel
theorem dX8_feed_25 : decode cX8_feed 25 = .ok (.bipush 120, 2) := by decide +kernel
theorem dX8_feed_27 : decode cX8_feed 27 = .ok (.if_icmp .le 10, 3) := by decide +kernel
theorem dX8_feed_30 : decode cX8_feed 30 = .ok (.aload_n 0, 1) := by decide +kernel
theorem dX8_feed_31 : decode cX8_feed 31 = .ok (.ldc 71, 2) := by decide +kernel
theorem dX8_feed_33 : decode cX8_feed 33 = .ok (.invokevirtual 67, 3) := by decide +kernel
theorem dX8_feed_36 : decode cX8_feed 36 = .ok (.ireturn, 1) := by decide +kernel
theorem dX8_feed_37 : decode cX8_feed 37 = .ok (.iload_n 2, 1) := by decide +kernel
theorem dX8_feed_38 : decode cX8_feed 38 = .ok (.iconst 1, 1) := by decide +kernel
theorem dX8_feed_39 : decode cX8_feed 39 = .ok (.isub, 1) := by decide +kernel
theorem dX8_feed_40 : decode cX8_feed 40 = .ok (.istore_n 3, 1) := by decide +kernel
theorem dX8_feed_41 : decode cX8_feed 41 = .ok (.iload_n 3, 1) := by decide +kernel
theorem dX8_feed_42 : decode cX8_feed 42 = .ok (.ifCond .lt 38, 3) := by decide +kernel
theorem dX8_feed_45 : decode cX8_feed 45 = .ok (.aload_n 0, 1) := by decide +kernel
theorem dX8_feed_46 : decode cX8_feed 46 = .ok (.getfield 28, 3) := by decide +kernel
theorem dX8_feed_49 : decode cX8_feed 49 = .ok (.aload_n 0, 1) := by decide +kernel
theorem dX8_feed_50 : decode cX8_feed 50 = .ok (.getfield 204, 3) := by decide +kernel
theorem dX8_feed_53 : decode cX8_feed 53 = .ok (.iload_n 1, 1) := by decide +kernel
theorem dX8_feed_54 : decode cX8_feed 54 = .ok (.bipush 8, 2) := by decide +kernel
theorem dX8_feed_56 : decode cX8_feed 56 = .ok (.iload_n 3, 1) := by decide +kernel
theorem dX8_feed_57 : decode cX8_feed 57 = .ok (.imul, 1) := by decide +kernel
theorem dX8_feed_58 : decode cX8_feed 58 = .ok (.ishr, 1) := by decide +kernel
theorem dX8_feed_59 : decode cX8_feed 59 = .ok (.sipush 255, 3) := by decide +kernel
theorem dX8_feed_62 : decode cX8_feed 62 = .ok (.iand, 1) := by decide +kernel
theorem dX8_feed_63 : decode cX8_feed 63 = .ok (.iastore, 1) := by decide +kernel
theorem dX8_feed_64 : decode cX8_feed 64 = .ok (.aload_n 0, 1) := by decide +kernel
theorem dX8_feed_65 : decode cX8_feed 65 = .ok (.dup, 1) := by decide +kernel
theorem dX8_feed_66 : decode cX8_feed 66 = .ok (.getfield 204, 3) := by decide +kernel
theorem dX8_feed_69 : decode cX8_feed 69 = .ok (.iconst 1, 1) := by decide +kernel
theorem dX8_feed_70 : decode cX8_feed 70 = .ok (.iadd, 1) := by decide +kernel
theorem dX8_feed_71 : decode cX8_feed 71 = .ok (.putfield 204, 3) := by decide +kernel
theorem dX8_feed_74 : decode cX8_feed 74 = .ok (.iinc 3 (-1), 3) := by decide +kernel
theorem dX8_feed_77 : decode cX8_feed 77 = .ok (.goto (-36), 3) := by decide +kernel
theorem dX8_feed_80 : decode cX8_feed 80 = .ok (.aload_n 0, 1) := by decide +kernel
theorem dX8_feed_81 : decode cX8_feed 81 = .ok (.getfield 204, 3) := by decide +kernel
theorem dX8_feed_84 : decode cX8_feed 84 = .ok (.ireturn, 1) := by decide +kernel
theorem dX8_wipe_0 : decode cX8_wipe 0 = .ok (.aload_n 0, 1) := by decide +kernel
theorem dX8_wipe_1 : decode cX8_wipe 1 = .ok (.getfield 204, 3) := by decide +kernel
theorem dX8_wipe_4 : decode cX8_wipe 4 = .ok (.istore_n 1, 1) := by decide +kernel
theorem dX8_wipe_5 : decode cX8_wipe 5 = .ok (.aload_n 0, 1) := by decide +kernel
theorem dX8_wipe_6 : decode cX8_wipe 6 = .ok (.iconst 0, 1) := by decide +kernel
theorem dX8_wipe_7 : decode cX8_wipe 7 = .ok (.putfield 204, 3) := by decide +kernel
theorem dX8_wipe_10 : decode cX8_wipe 10 = .ok (.iload_n 1, 1) := by decide +kernel
theorem dX8_wipe_11 : decode cX8_wipe 11 = .ok (.ireturn, 1) := by decide +kernel
theorem dX8_byteAt_0 : decode cX8_byteAt 0 = .ok (.iload_n 1, 1) := by decide +kernel
theorem dX8_byteAt_1 : decode cX8_byteAt 1 = .ok (.aload_n 0, 1) := by decide +kernel
theorem dX8_byteAt_2 : decode cX8_byteAt 2 = .ok (.getfield 204, 3) := by decide +kernel
theorem dX8_byteAt_5 : decode cX8_byteAt 5 = .ok (.if_icmp .ge 12, 3) := by decide +kernel
theorem dX8_byteAt_8 : decode cX8_byteAt 8 = .ok (.aload_n 0, 1) := by decide +kernel
theorem dX8_byteAt_9 : decode cX8_byteAt 9 = .ok (.getfield 28, 3) := by decide +kernel
theorem dX8_byteAt_12 : decode cX8_byteAt 12 = .ok (.iload_n 1, 1) := by decide +kernel
theorem dX8_byteAt_13 : decode cX8_byteAt 13 = .ok (.iaload, 1) := by decide +kernel
theorem dX8_byteAt_14 : decode cX8_byteAt 14 = .ok (.goto 4, 3) := by decide +kernel
theorem dX8_byteAt_17 : decode cX8_byteAt 17 = .ok (.iconst (-1), 1) := by decide +kernel
theorem dX8_byteAt_18 : decode cX8_byteAt 18 = .ok (.ireturn, 1) := by decide +kernel
theorem dX8_isLetter_0 : decode cX8_isLetter 0 = .ok (.iload_n 0, 1) := by decide +kernel
theorem dX8_isLetter_1 : decode cX8_isLetter 1 = .ok (.i2l, 1) := by decide +kernel
theorem dX8_isLetter_2 : decode cX8_isLetter 2 = .ok (.ldc2_w 207, 3) := by decide +kernel
theorem dX8_isLetter_5 : decode cX8_isLetter 5 = .ok (.ldc2_w 209, 3) := by decide +kernel
theorem dX8_isLetter_8 : decode cX8_isLetter 8 = .ok (.invokestatic 45, 3) := by decide +kernel
theorem dX8_isLetter_11 : decode cX8_isLetter 11 = .ok (.ireturn, 1) := by decide +kernel
theorem dX8_isDigit_0 : decode cX8_isDigit 0 = .ok (.iload_n 0, 1) := by decide +kernel
theorem dX8_isDigit_1 : decode cX8_isDigit 1 = .ok (.i2l, 1) := by decide +kernel
theorem dX8_isDigit_2 : decode cX8_isDigit 2 = .ok (.ldc2_w 211, 3) := by decide +kernel
theorem dX8_isDigit_5 : decode cX8_isDigit 5 = .ok (.ldc2_w 213, 3) := by decide +kernel
theorem dX8_isDigit_8 : decode cX8_isDigit 8 = .ok (.invokestatic 45, 3) := by decide +kernel
theorem dX8_isDigit_11 : decode cX8_isDigit 11 = .ok (.ireturn, 1) := by decide +kernel
theorem dX8_token_0 : decode cX8_token 0 = .ok (.aload_n 0, 1) := by decide +kernel
theorem dX8_token_1 : decode cX8_token 1 = .ok (.aload_n 0, 1) := by decide +kernel
theorem dX8_token_2 : decode cX8_token 2 = .ok (.getfield 215, 3) := by decide +kernel
theorem dX8_token_5 : decode cX8_token 5 = .ok (.putfield 218, 3) := by decide +kernel
theorem dX8_token_8 : decode cX8_token 8 = .ok (.aload_n 0, 1) := by decide +kernel
theorem dX8_token_9 : decode cX8_token 9 = .ok (.aload_n 0, 1) := by decide +kernel
theorem dX8_token_10 : decode cX8_token 10 = .ok (.getfield 218, 3) := by decide +kernel
theorem dX8_token_13 : decode cX8_token 13 = .ok (.invokevirtual 221, 3) := by decide +kernel
theorem dX8_token_16 : decode cX8_token 16 = .ok (.bipush 32, 2) := by decide +kernel
theorem dX8_token_18 : decode cX8_token 18 = .ok (.if_icmp .ne 16, 3) := by decide +kernel
theorem dX8_token_21 : decode cX8_token 21 = .ok (.aload_n 0, 1) := by decide +kernel
theorem dX8_token_22 : decode cX8_token 22 = .ok (.dup, 1) := by decide +kernel
theorem dX8_token_23 : decode cX8_token 23 = .ok (.getfield 218, 3) := by decide +kernel
theorem dX8_token_26 : decode cX8_token 26 = .ok (.iconst 1, 1) := by decide +kernel
theorem dX8_token_27 : decode cX8_token 27 = .ok (.iadd, 1) := by decide +kernel
theorem dX8_token_28 : decode cX8_token 28 = .ok (.putfield 218, 3) := by decide +kernel
theorem dX8_token_31 : decode cX8_token 31 = .ok (.goto (-23), 3) := by decide +kernel
theorem dX8_token_34 : decode cX8_token 34 = .ok (.aload_n 0, 1) := by decide +kernel
theorem dX8_token_35 : decode cX8_token 35 = .ok (.aload_n 0, 1) := by decide +kernel
theorem dX8_token_36 : decode cX8_token 36 = .ok (.getfield 218, 3) := by decide +kernel
theorem dX8_token_39 : decode cX8_token 39 = .ok (.invokevirtual 221, 3) := by decide +kernel
theorem dX8_token_42 : decode cX8_token 42 = .ok (.invokestatic 224, 3) := by decide +kernel
theorem dX8_token_45 : decode cX8_token 45 = .ok (.istore_n 1, 1) := by decide +kernel
theorem dX8_token_46 : decode cX8_token 46 = .ok (.aload_n 0, 1) := by decide +kernel
theorem dX8_token_47 : decode cX8_token 47 = .ok (.aload_n 0, 1) := by decide +kernel
theorem dX8_token_48 : decode cX8_token 48 = .ok (.getfield 218, 3) := by decide +kernel
theorem dX8_token_51 : decode cX8_token 51 = .ok (.invokevirtual 221, 3) := by decide +kernel
theorem dX8_token_54 : decode cX8_token 54 = .ok (.invokestatic 227, 3) := by decide +kernel
theorem dX8_token_57 : decode cX8_token 57 = .ok (.istore_n 2, 1) := by decide +kernel
theorem dX8_token_58 : decode cX8_token 58 = .ok (.aload_n 0, 1) := by decide +kernel
theorem dX8_token_59 : decode cX8_token 59 = .ok (.aload_n 0, 1) := by decide +kernel
theorem dX8_token_60 : decode cX8_token 60 = .ok (.getfield 218, 3) := by decide +kernel
theorem dX8_token_63 : decode cX8_token 63 = .ok (.aload_n 0, 1) := by decide +kernel
theorem dX8_token_64 : decode cX8_token 64 = .ok (.getfield 204, 3) := by decide +kernel
theorem dX8_token_67 : decode cX8_token 67 = .ok (.if_icmp .ge 12, 3) := by decide +kernel
theorem dX8_token_70 : decode cX8_token 70 = .ok (.aload_n 0, 1) := by decide +kernel
theorem dX8_token_71 : decode cX8_token 71 = .ok (.getfield 218, 3) := by decide +kernel
theorem dX8_token_74 : decode cX8_token 74 = .ok (.iconst 1, 1) := by decide +kernel
theorem dX8_token_75 : decode cX8_token 75 = .ok (.iadd, 1) := by decide +kernel
theorem dX8_token_76 : decode cX8_token 76 = .ok (.goto 7, 3) := by decide +kernel
theorem dX8_token_79 : decode cX8_token 79 = .ok (.aload_n 0, 1) := by decide +kernel
theorem dX8_token_80 : decode cX8_token 80 = .ok (.getfield 218, 3) := by decide +kernel
theorem dX8_token_83 : decode cX8_token 83 = .ok (.putfield 215, 3) := by decide +kernel
theorem dX8_token_86 : decode cX8_token 86 = .ok (.iload_n 1, 1) := by decide +kernel
theorem dX8_token_87 : decode cX8_token 87 = .ok (.ifCond .eq 17, 3) := by decide +kernel
theorem dX8_token_90 : decode cX8_token 90 = .ok (.aload_n 0, 1) := by decide +kernel
theorem dX8_token_91 : decode cX8_token 91 = .ok (.aload_n 0, 1) := by decide +kernel
theorem dX8_token_92 : decode cX8_token 92 = .ok (.getfield 215, 3) := by decide +kernel
theorem dX8_token_95 : decode cX8_token 95 = .ok (.invokevirtual 221, 3) := by decide +kernel
theorem dX8_token_98 : decode cX8_token 98 = .ok (.invokestatic 224, 3) := by decide +kernel
theorem dX8_token_101 : decode cX8_token 101 = .ok (.ifCond .ne 21, 3) := by decide +kernel
theorem dX8_token_104 : decode cX8_token 104 = .ok (.iload_n 2, 1) := by decide +kernel
theorem dX8_token_105 : decode cX8_token 105 = .ok (.ifCond .eq 30, 3) := by decide +kernel
theorem dX8_token_108 : decode cX8_token 108 = .ok (.aload_n 0, 1) := by decide +kernel
theorem dX8_token_109 : decode cX8_token 109 = .ok (.aload_n 0, 1) := by decide +kernel
theorem dX8_token_110 : decode cX8_token 110 = .ok (.getfield 215, 3) := by decide +kernel
theorem dX8_token_113 : decode cX8_token 113 = .ok (.invokevirtual 221, 3) := by decide +kernel
theorem dX8_token_116 : decode cX8_token 116 = .ok (.invokestatic 227, 3) := by decide +kernel
theorem dX8_token_119 : decode cX8_token 119 = .ok (.ifCond .eq 16, 3) := by decide +kernel
theorem dX8_token_122 : decode cX8_token 122 = .ok (.aload_n 0, 1) := by decide +kernel
theorem dX8_token_123 : decode cX8_token 123 = .ok (.dup, 1) := by decide +kernel
theorem dX8_token_124 : decode cX8_token 124 = .ok (.getfield 215, 3) := by decide +kernel
theorem dX8_token_127 : decode cX8_token 127 = .ok (.iconst 1, 1) := by decide +kernel
theorem dX8_token_128 : decode cX8_token 128 = .ok (.iadd, 1) := by decide +kernel
theorem dX8_token_129 : decode cX8_token 129 = .ok (.putfield 215, 3) := by decide +kernel
theorem dX8_token_132 : decode cX8_token 132 = .ok (.goto (-46), 3) := by decide +kernel
theorem dX8_token_135 : decode cX8_token 135 = .ok (.return_, 1) := by decide +kernel
theorem dX8_must_0 : decode cX8_must 0 = .ok (.aload_n 0, 1) := by decide +kernel
theorem dX8_must_1 : decode cX8_must 1 = .ok (.aload_n 0, 1) := by decide +kernel
theorem dX8_must_2 : decode cX8_must 2 = .ok (.getfield 230, 3) := by decide +kernel
theorem dX8_must_5 : decode cX8_must 5 = .ok (.ifCond .ne 7, 3) := by decide +kernel
theorem dX8_must_8 : decode cX8_must 8 = .ok (.iload_n 1, 1) := by decide +kernel
theorem dX8_must_9 : decode cX8_must 9 = .ok (.ifCond .ne 7, 3) := by decide +kernel
theorem dX8_must_12 : decode cX8_must 12 = .ok (.iconst 1, 1) := by decide +kernel
theorem dX8_must_13 : decode cX8_must 13 = .ok (.goto 4, 3) := by decide +kernel
theorem dX8_must_16 : decode cX8_must 16 = .ok (.iconst 0, 1) := by decide +kernel
theorem dX8_must_17 : decode cX8_must 17 = .ok (.putfield 230, 3) := by decide +kernel
theorem dX8_must_20 : decode cX8_must 20 = .ok (.aload_n 0, 1) := by decide +kernel
theorem dX8_must_21 : decode cX8_must 21 = .ok (.getfield 230, 3) := by decide +kernel
theorem dX8_must_24 : decode cX8_must 24 = .ok (.ifCond .ne 7, 3) := by decide +kernel
theorem dX8_must_27 : decode cX8_must 27 = .ok (.aload_n 0, 1) := by decide +kernel
theorem dX8_must_28 : decode cX8_must 28 = .ok (.invokevirtual 234, 3) := by decide +kernel
theorem dX8_must_31 : decode cX8_must 31 = .ok (.return_, 1) := by decide +kernel
theorem dX8_word_0 : decode cX8_word 0 = .ok (.lconst 0, 1) := by decide +kernel
theorem dX8_word_1 : decode cX8_word 1 = .ok (.lstore_n 1, 1) := by decide +kernel
theorem dX8_word_2 : decode cX8_word 2 = .ok (.aload_n 0, 1) := by decide +kernel
theorem dX8_word_3 : decode cX8_word 3 = .ok (.getfield 218, 3) := by decide +kernel
theorem dX8_word_6 : decode cX8_word 6 = .ok (.istore_n 3, 1) := by decide +kernel
theorem dX8_word_7 : decode cX8_word 7 = .ok (.iload_n 3, 1) := by decide +kernel
theorem dX8_word_8 : decode cX8_word 8 = .ok (.aload_n 0, 1) := by decide +kernel
theorem dX8_word_9 : decode cX8_word 9 = .ok (.getfield 215, 3) := by decide +kernel
theorem dX8_word_12 : decode cX8_word 12 = .ok (.if_icmp .ge 38, 3) := by decide +kernel
theorem dX8_word_15 : decode cX8_word 15 = .ok (.lload_n 1, 1) := by decide +kernel
theorem dX8_word_16 : decode cX8_word 16 = .ok (.ldc2_w 237, 3) := by decide +kernel
theorem dX8_word_19 : decode cX8_word 19 = .ok (.lcmp, 1) := by decide +kernel
theorem dX8_word_20 : decode cX8_word 20 = .ok (.ifCond .le 7, 3) := by decide +kernel
theorem dX8_word_23 : decode cX8_word 23 = .ok (.lload_n 1, 1) := by decide +kernel
theorem dX8_word_24 : decode cX8_word 24 = .ok (.goto 19, 3) := by decide +kernel
theorem dX8_word_27 : decode cX8_word 27 = .ok (.ldc2_w 239, 3) := by decide +kernel
theorem dX8_word_30 : decode cX8_word 30 = .ok (.lload_n 1, 1) := by decide +kernel
theorem dX8_word_31 : decode cX8_word 31 = .ok (.lmul, 1) := by decide +kernel
theorem dX8_word_32 : decode cX8_word 32 = .ok (.aload_n 0, 1) := by decide +kernel
theorem dX8_word_33 : decode cX8_word 33 = .ok (.getfield 28, 3) := by decide +kernel
theorem dX8_word_36 : decode cX8_word 36 = .ok (.iload_n 3, 1) := by decide +kernel
theorem dX8_word_37 : decode cX8_word 37 = .ok (.iaload, 1) := by decide +kernel
theorem dX8_word_38 : decode cX8_word 38 = .ok (.bipush 96, 2) := by decide +kernel
theorem dX8_word_40 : decode cX8_word 40 = .ok (.isub, 1) := by decide +kernel
theorem dX8_word_41 : decode cX8_word 41 = .ok (.i2l, 1) := by decide +kernel
theorem dX8_word_42 : decode cX8_word 42 = .ok (.ladd, 1) := by decide +kernel
theorem dX8_word_43 : decode cX8_word 43 = .ok (.lstore_n 1, 1) := by decide +kernel
theorem dX8_word_44 : decode cX8_word 44 = .ok (.iinc 3 1, 3) := by decide +kernel
theorem dX8_word_47 : decode cX8_word 47 = .ok (.goto (-40), 3) := by decide +kernel
theorem dX8_word_50 : decode cX8_word 50 = .ok (.aload_n 0, 1) := by decide +kernel
theorem dX8_word_51 : decode cX8_word 51 = .ok (.getfield 230, 3) := by decide +kernel
theorem dX8_word_54 : decode cX8_word 54 = .ok (.ifCond .ne 17, 3) := by decide +kernel
theorem dX8_word_57 : decode cX8_word 57 = .ok (.aload_n 0, 1) := by decide +kernel
theorem dX8_word_58 : decode cX8_word 58 = .ok (.aload_n 0, 1) := by decide +kernel
theorem dX8_word_59 : decode cX8_word 59 = .ok (.getfield 218, 3) := by decide +kernel
theorem dX8_word_62 : decode cX8_word 62 = .ok (.invokevirtual 221, 3) := by decide +kernel
theorem dX8_word_65 : decode cX8_word 65 = .ok (.invokestatic 224, 3) := by decide +kernel
theorem dX8_word_68 : decode cX8_word 68 = .ok (.ifCond .ne 7, 3) := by decide +kernel
theorem dX8_word_71 : decode cX8_word 71 = .ok (.lconst 0, 1) := by decide +kernel
theorem dX8_word_72 : decode cX8_word 72 = .ok (.goto 4, 3) := by decide +kernel
theorem dX8_word_75 : decode cX8_word 75 = .ok (.lload_n 1, 1) := by decide +kernel
theorem dX8_word_76 : decode cX8_word 76 = .ok (.lreturn, 1) := by decide +kernel
theorem dX8_number_0 : decode cX8_number 0 = .ok (.aload_n 0, 1) := by decide +kernel
theorem dX8_number_1 : decode cX8_number 1 = .ok (.getfield 230, 3) := by decide +kernel
theorem dX8_number_4 : decode cX8_number 4 = .ok (.ifCond .eq 4, 3) := by decide +kernel
theorem dX8_number_7 : decode cX8_number 7 = .ok (.return_, 1) := by decide +kernel
theorem dX8_number_8 : decode cX8_number 8 = .ok (.aload_n 0, 1) := by decide +kernel
theorem dX8_number_9 : decode cX8_number 9 = .ok (.aload_n 0, 1) := by decide +kernel
theorem dX8_number_10 : decode cX8_number 10 = .ok (.getfield 218, 3) := by decide +kernel
theorem dX8_number_13 : decode cX8_number 13 = .ok (.invokevirtual 221, 3) := by decide +kernel
theorem dX8_number_16 : decode cX8_number 16 = .ok (.invokestatic 227, 3) := by decide +kernel
theorem dX8_number_19 : decode cX8_number 19 = .ok (.istore_n 3, 1) := by decide +kernel
theorem dX8_number_20 : decode cX8_number 20 = .ok (.iconst 0, 1) := by decide +kernel
theorem dX8_number_21 : decode cX8_number 21 = .ok (.istore 4, 2) := by decide +kernel
theorem dX8_number_23 : decode cX8_number 23 = .ok (.aload_n 0, 1) := by decide +kernel
theorem dX8_number_24 : decode cX8_number 24 = .ok (.getfield 218, 3) := by decide +kernel
theorem dX8_number_27 : decode cX8_number 27 = .ok (.istore 5, 2) := by decide +kernel
theorem dX8_number_29 : decode cX8_number 29 = .ok (.iload 5, 2) := by decide +kernel
theorem dX8_number_31 : decode cX8_number 31 = .ok (.aload_n 0, 1) := by decide +kernel
theorem dX8_number_32 : decode cX8_number 32 = .ok (.getfield 215, 3) := by decide +kernel
theorem dX8_number_35 : decode cX8_number 35 = .ok (.if_icmp .ge 44, 3) := by decide +kernel
theorem dX8_number_38 : decode cX8_number 38 = .ok (.iload_n 3, 1) := by decide +kernel
theorem dX8_number_39 : decode cX8_number 39 = .ok (.ifCond .eq 40, 3) := by decide +kernel
theorem dX8_number_42 : decode cX8_number 42 = .ok (.iload 4, 2) := by decide +kernel
theorem dX8_number_44 : decode cX8_number 44 = .ok (.sipush 999, 3) := by decide +kernel
theorem dX8_number_47 : decode cX8_number 47 = .ok (.if_icmp .le 8, 3) := by decide +kernel
theorem dX8_number_50 : decode cX8_number 50 = .ok (.iload 4, 2) := by decide +kernel
theorem dX8_number_52 : decode cX8_number 52 = .ok (.goto 19, 3) := by decide +kernel
theorem dX8_number_55 : decode cX8_number 55 = .ok (.bipush 10, 2) := by decide +kernel
theorem dX8_number_57 : decode cX8_number 57 = .ok (.iload 4, 2) := by decide +kernel
theorem dX8_number_59 : decode cX8_number 59 = .ok (.imul, 1) := by decide +kernel
theorem dX8_number_60 : decode cX8_number 60 = .ok (.aload_n 0, 1) := by decide +kernel
theorem dX8_number_61 : decode cX8_number 61 = .ok (.getfield 28, 3) := by decide +kernel
theorem dX8_number_64 : decode cX8_number 64 = .ok (.iload 5, 2) := by decide +kernel
theorem dX8_number_66 : decode cX8_number 66 = .ok (.iaload, 1) := by decide +kernel
theorem dX8_number_67 : decode cX8_number 67 = .ok (.iadd, 1) := by decide +kernel
theorem dX8_number_68 : decode cX8_number 68 = .ok (.bipush 48, 2) := by decide +kernel
theorem dX8_number_70 : decode cX8_number 70 = .ok (.isub, 1) := by decide +kernel
theorem dX8_number_71 : decode cX8_number 71 = .ok (.istore 4, 2) := by decide +kernel
theorem dX8_number_73 : decode cX8_number 73 = .ok (.iinc 5 1, 3) := by decide +kernel
theorem dX8_number_76 : decode cX8_number 76 = .ok (.goto (-47), 3) := by decide +kernel
theorem dX8_number_79 : decode cX8_number 79 = .ok (.aload_n 0, 1) := by decide +kernel
theorem dX8_number_80 : decode cX8_number 80 = .ok (.iload 4, 2) := by decide +kernel
theorem dX8_number_82 : decode cX8_number 82 = .ok (.putfield 241, 3) := by decide +kernel
theorem dX8_number_85 : decode cX8_number 85 = .ok (.aload_n 0, 1) := by decide +kernel
theorem dX8_number_86 : decode cX8_number 86 = .ok (.iload_n 3, 1) := by decide +kernel
theorem dX8_number_87 : decode cX8_number 87 = .ok (.ifCond .eq 20, 3) := by decide +kernel
theorem dX8_number_90 : decode cX8_number 90 = .ok (.iload 4, 2) := by decide +kernel
theorem dX8_number_92 : decode cX8_number 92 = .ok (.i2l, 1) := by decide +kernel
theorem dX8_number_93 : decode cX8_number 93 = .ok (.iload_n 1, 1) := by decide +kernel
theorem dX8_number_94 : decode cX8_number 94 = .ok (.i2l, 1) := by decide +kernel
theorem dX8_number_95 : decode cX8_number 95 = .ok (.iload_n 2, 1) := by decide +kernel
theorem dX8_number_96 : decode cX8_number 96 = .ok (.i2l, 1) := by decide +kernel
theorem dX8_number_97 : decode cX8_number 97 = .ok (.invokestatic 45, 3) := by decide +kernel
theorem dX8_number_100 : decode cX8_number 100 = .ok (.ifCond .eq 7, 3) := by decide +kernel
theorem dX8_number_103 : decode cX8_number 103 = .ok (.iconst 1, 1) := by decide +kernel
theorem dX8_number_104 : decode cX8_number 104 = .ok (.goto 4, 3) := by decide +kernel
theorem dX8_number_107 : decode cX8_number 107 = .ok (.iconst 0, 1) := by decide +kernel
theorem dX8_number_108 : decode cX8_number 108 = .ok (.invokevirtual 244, 3) := by decide +kernel
theorem dX8_number_111 : decode cX8_number 111 = .ok (.return_, 1) := by decide +kernel
theorem dX8_kindHere_0 : decode cX8_kindHere 0 = .ok (.aload_n 0, 1) := by decide +kernel
theorem dX8_kindHere_1 : decode cX8_kindHere 1 = .ok (.invokevirtual 248, 3) := by decide +kernel
theorem dX8_kindHere_4 : decode cX8_kindHere 4 = .ok (.lstore_n 1, 1) := by decide +kernel
theorem dX8_kindHere_5 : decode cX8_kindHere 5 = .ok (.lload_n 1, 1) := by decide +kernel
theorem dX8_kindHere_6 : decode cX8_kindHere 6 = .ok (.ldc2_w 252, 3) := by decide +kernel
theorem dX8_kindHere_9 : decode cX8_kindHere 9 = .ok (.lcmp, 1) := by decide +kernel
theorem dX8_kindHere_10 : decode cX8_kindHere 10 = .ok (.ifCond .ne 7, 3) := by decide +kernel
theorem dX8_kindHere_13 : decode cX8_kindHere 13 = .ok (.iconst 0, 1) := by decide +kernel
theorem dX8_kindHere_14 : decode cX8_kindHere 14 = .ok (.goto 64, 3) := by decide +kernel
theorem dX8_kindHere_17 : decode cX8_kindHere 17 = .ok (.lload_n 1, 1) := by decide +kernel
theorem dX8_kindHere_18 : decode cX8_kindHere 18 = .ok (.ldc2_w 254, 3) := by decide +kernel
theorem dX8_kindHere_21 : decode cX8_kindHere 21 = .ok (.lcmp, 1) := by decide +kernel
theorem dX8_kindHere_22 : decode cX8_kindHere 22 = .ok (.ifCond .ne 7, 3) := by decide +kernel
theorem dX8_kindHere_25 : decode cX8_kindHere 25 = .ok (.iconst 1, 1) := by decide +kernel
theorem dX8_kindHere_26 : decode cX8_kindHere 26 = .ok (.goto 52, 3) := by decide +kernel
theorem dX8_kindHere_29 : decode cX8_kindHere 29 = .ok (.lload_n 1, 1) := by decide +kernel
theorem dX8_kindHere_30 : decode cX8_kindHere 30 = .ok (.ldc2_w 256, 3) := by decide +kernel
theorem dX8_kindHere_33 : decode cX8_kindHere 33 = .ok (.lcmp, 1) := by decide +kernel
theorem dX8_kindHere_34 : decode cX8_kindHere 34 = .ok (.ifCond .ne 7, 3) := by decide +kernel
theorem dX8_kindHere_37 : decode cX8_kindHere 37 = .ok (.iconst 2, 1) := by decide +kernel
theorem dX8_kindHere_38 : decode cX8_kindHere 38 = .ok (.goto 40, 3) := by decide +kernel
theorem dX8_kindHere_41 : decode cX8_kindHere 41 = .ok (.lload_n 1, 1) := by decide +kernel
theorem dX8_kindHere_42 : decode cX8_kindHere 42 = .ok (.ldc2_w 258, 3) := by decide +kernel
theorem dX8_kindHere_45 : decode cX8_kindHere 45 = .ok (.lcmp, 1) := by decide +kernel
theorem dX8_kindHere_46 : decode cX8_kindHere 46 = .ok (.ifCond .ne 7, 3) := by decide +kernel
theorem dX8_kindHere_49 : decode cX8_kindHere 49 = .ok (.iconst 3, 1) := by decide +kernel
theorem dX8_kindHere_50 : decode cX8_kindHere 50 = .ok (.goto 28, 3) := by decide +kernel
theorem dX8_kindHere_53 : decode cX8_kindHere 53 = .ok (.lload_n 1, 1) := by decide +kernel
theorem dX8_kindHere_54 : decode cX8_kindHere 54 = .ok (.ldc2_w 260, 3) := by decide +kernel
theorem dX8_kindHere_57 : decode cX8_kindHere 57 = .ok (.lcmp, 1) := by decide +kernel
theorem dX8_kindHere_58 : decode cX8_kindHere 58 = .ok (.ifCond .ne 7, 3) := by decide +kernel
theorem dX8_kindHere_61 : decode cX8_kindHere 61 = .ok (.iconst 4, 1) := by decide +kernel
theorem dX8_kindHere_62 : decode cX8_kindHere 62 = .ok (.goto 16, 3) := by decide +kernel
theorem dX8_kindHere_65 : decode cX8_kindHere 65 = .ok (.lload_n 1, 1) := by decide +kernel
theorem dX8_kindHere_66 : decode cX8_kindHere 66 = .ok (.ldc2_w 262, 3) := by decide +kernel
theorem dX8_kindHere_69 : decode cX8_kindHere 69 = .ok (.lcmp, 1) := by decide +kernel
theorem dX8_kindHere_70 : decode cX8_kindHere 70 = .ok (.ifCond .ne 7, 3) := by decide +kernel
theorem dX8_kindHere_73 : decode cX8_kindHere 73 = .ok (.iconst 5, 1) := by decide +kernel
theorem dX8_kindHere_74 : decode cX8_kindHere 74 = .ok (.goto 4, 3) := by decide +kernel
theorem dX8_kindHere_77 : decode cX8_kindHere 77 = .ok (.iconst (-1), 1) := by decide +kernel
theorem dX8_kindHere_78 : decode cX8_kindHere 78 = .ok (.ireturn, 1) := by decide +kernel
theorem dX8_flueItem_0 : decode cX8_flueItem 0 = .ok (.aload_n 0, 1) := by decide +kernel
theorem dX8_flueItem_1 : decode cX8_flueItem 1 = .ok (.aload_n 0, 1) := by decide +kernel
theorem dX8_flueItem_2 : decode cX8_flueItem 2 = .ok (.getfield 7, 3) := by decide +kernel
theorem dX8_flueItem_5 : decode cX8_flueItem 5 = .ok (.iconst 0, 1) := by decide +kernel
theorem dX8_flueItem_6 : decode cX8_flueItem 6 = .ok (.iaload, 1) := by decide +kernel
theorem dX8_flueItem_7 : decode cX8_flueItem 7 = .ok (.bipush 6, 2) := by decide +kernel
theorem dX8_flueItem_9 : decode cX8_flueItem 9 = .ok (.if_icmp .ge 7, 3) := by decide +kernel
theorem dX8_flueItem_12 : decode cX8_flueItem 12 = .ok (.iconst 1, 1) := by decide +kernel
theorem dX8_flueItem_13 : decode cX8_flueItem 13 = .ok (.goto 4, 3) := by decide +kernel
theorem dX8_flueItem_16 : decode cX8_flueItem 16 = .ok (.iconst 0, 1) := by decide +kernel
theorem dX8_flueItem_17 : decode cX8_flueItem 17 = .ok (.invokevirtual 244, 3) := by decide +kernel
theorem dX8_flueItem_20 : decode cX8_flueItem 20 = .ok (.aload_n 0, 1) := by decide +kernel
theorem dX8_flueItem_21 : decode cX8_flueItem 21 = .ok (.getfield 230, 3) := by decide +kernel
theorem dX8_flueItem_24 : decode cX8_flueItem 24 = .ok (.ifCond .ne 9, 3) := by decide +kernel
theorem dX8_flueItem_27 : decode cX8_flueItem 27 = .ok (.aload_n 0, 1) := by decide +kernel
theorem dX8_flueItem_28 : decode cX8_flueItem 28 = .ok (.iload_n 1, 1) := by decide +kernel
theorem dX8_flueItem_29 : decode cX8_flueItem 29 = .ok (.invokevirtual 72, 3) := by decide +kernel
theorem dX8_flueItem_32 : decode cX8_flueItem 32 = .ok (.istore_n 2, 1) := by decide +kernel
theorem dX8_flueItem_33 : decode cX8_flueItem 33 = .ok (.return_, 1) := by decide +kernel
theorem dX8_perhaps_0 : decode cX8_perhaps 0 = .ok (.aload_n 0, 1) := by decide +kernel
theorem dX8_perhaps_1 : decode cX8_perhaps 1 = .ok (.invokevirtual 248, 3) := by decide +kernel
theorem dX8_perhaps_4 : decode cX8_perhaps 4 = .ok (.lload_n 1, 1) := by decide +kernel
theorem dX8_perhaps_5 : decode cX8_perhaps 5 = .ok (.lcmp, 1) := by decide +kernel
theorem dX8_perhaps_6 : decode cX8_perhaps 6 = .ok (.ifCond .eq 5, 3) := by decide +kernel
theorem dX8_perhaps_9 : decode cX8_perhaps 9 = .ok (.iload_n 3, 1) := by decide +kernel
theorem dX8_perhaps_10 : decode cX8_perhaps 10 = .ok (.ireturn, 1) := by decide +kernel
theorem dX8_perhaps_11 : decode cX8_perhaps 11 = .ok (.aload_n 0, 1) := by decide +kernel
theorem dX8_perhaps_12 : decode cX8_perhaps 12 = .ok (.iconst 1, 1) := by decide +kernel
theorem dX8_perhaps_13 : decode cX8_perhaps 13 = .ok (.invokevirtual 244, 3) := by decide +kernel
theorem dX8_perhaps_16 : decode cX8_perhaps 16 = .ok (.aload_n 0, 1) := by decide +kernel
theorem dX8_perhaps_17 : decode cX8_perhaps 17 = .ok (.iconst 0, 1) := by decide +kernel
theorem dX8_perhaps_18 : decode cX8_perhaps 18 = .ok (.bipush 9, 2) := by decide +kernel
theorem dX8_perhaps_20 : decode cX8_perhaps 20 = .ok (.invokevirtual 264, 3) := by decide +kernel
theorem dX8_perhaps_23 : decode cX8_perhaps 23 = .ok (.aload_n 0, 1) := by decide +kernel
theorem dX8_perhaps_24 : decode cX8_perhaps 24 = .ok (.getfield 241, 3) := by decide +kernel
theorem dX8_perhaps_27 : decode cX8_perhaps 27 = .ok (.ireturn, 1) := by decide +kernel
theorem dX8_sayItem_0 : decode cX8_sayItem 0 = .ok (.aload_n 0, 1) := by decide +kernel
theorem dX8_sayItem_1 : decode cX8_sayItem 1 = .ok (.iconst 1, 1) := by decide +kernel
theorem dX8_sayItem_2 : decode cX8_sayItem 2 = .ok (.invokevirtual 244, 3) := by decide +kernel
theorem dX8_sayItem_5 : decode cX8_sayItem 5 = .ok (.aload_n 0, 1) := by decide +kernel
theorem dX8_sayItem_6 : decode cX8_sayItem 6 = .ok (.iconst 0, 1) := by decide +kernel
theorem dX8_sayItem_7 : decode cX8_sayItem 7 = .ok (.aload_n 0, 1) := by decide +kernel
theorem dX8_sayItem_8 : decode cX8_sayItem 8 = .ok (.getfield 7, 3) := by decide +kernel
theorem dX8_sayItem_11 : decode cX8_sayItem 11 = .ok (.iconst 0, 1) := by decide +kernel
theorem dX8_sayItem_12 : decode cX8_sayItem 12 = .ok (.iaload, 1) := by decide +kernel
theorem dX8_sayItem_13 : decode cX8_sayItem 13 = .ok (.iconst 1, 1) := by decide +kernel
theorem dX8_sayItem_14 : decode cX8_sayItem 14 = .ok (.isub, 1) := by decide +kernel
theorem dX8_sayItem_15 : decode cX8_sayItem 15 = .ok (.invokevirtual 264, 3) := by decide +kernel
theorem dX8_sayItem_18 : decode cX8_sayItem 18 = .ok (.aload_n 0, 1) := by decide +kernel
theorem dX8_sayItem_19 : decode cX8_sayItem 19 = .ok (.getfield 241, 3) := by decide +kernel
theorem dX8_sayItem_22 : decode cX8_sayItem 22 = .ok (.istore_n 1, 1) := by decide +kernel
theorem dX8_sayItem_23 : decode cX8_sayItem 23 = .ok (.aload_n 0, 1) := by decide +kernel
theorem dX8_sayItem_24 : decode cX8_sayItem 24 = .ok (.iconst 0, 1) := by decide +kernel
theorem dX8_sayItem_25 : decode cX8_sayItem 25 = .ok (.bipush 15, 2) := by decide +kernel
theorem dX8_sayItem_27 : decode cX8_sayItem 27 = .ok (.invokevirtual 264, 3) := by decide +kernel
theorem dX8_sayItem_30 : decode cX8_sayItem 30 = .ok (.aload_n 0, 1) := by decide +kernel
theorem dX8_sayItem_31 : decode cX8_sayItem 31 = .ok (.getfield 241, 3) := by decide +kernel
theorem dX8_sayItem_34 : decode cX8_sayItem 34 = .ok (.istore_n 2, 1) := by decide +kernel
theorem dX8_sayItem_35 : decode cX8_sayItem 35 = .ok (.aload_n 0, 1) := by decide +kernel
theorem dX8_sayItem_36 : decode cX8_sayItem 36 = .ok (.ldc2_w 268, 3) := by decide +kernel
theorem dX8_sayItem_39 : decode cX8_sayItem 39 = .ok (.iconst 5, 1) := by decide +kernel
theorem dX8_sayItem_40 : decode cX8_sayItem 40 = .ok (.invokevirtual 270, 3) := by decide +kernel
theorem dX8_sayItem_43 : decode cX8_sayItem 43 = .ok (.istore_n 3, 1) := by decide +kernel
theorem dX8_sayItem_44 : decode cX8_sayItem 44 = .ok (.aload_n 0, 1) := by decide +kernel
theorem dX8_sayItem_45 : decode cX8_sayItem 45 = .ok (.getfield 230, 3) := by decide +kernel
theorem dX8_sayItem_48 : decode cX8_sayItem 48 = .ok (.ifCond .ne 12, 3) := by decide +kernel
theorem dX8_sayItem_51 : decode cX8_sayItem 51 = .ok (.aload_n 0, 1) := by decide +kernel
theorem dX8_sayItem_52 : decode cX8_sayItem 52 = .ok (.iload_n 1, 1) := by decide +kernel
theorem dX8_sayItem_53 : decode cX8_sayItem 53 = .ok (.iload_n 2, 1) := by decide +kernel
theorem dX8_sayItem_54 : decode cX8_sayItem 54 = .ok (.iload_n 3, 1) := by decide +kernel
theorem dX8_sayItem_55 : decode cX8_sayItem 55 = .ok (.invokevirtual 141, 3) := by decide +kernel
theorem dX8_sayItem_58 : decode cX8_sayItem 58 = .ok (.istore 4, 2) := by decide +kernel
theorem dX8_sayItem_60 : decode cX8_sayItem 60 = .ok (.return_, 1) := by decide +kernel
theorem dX8_layerItem_0 : decode cX8_layerItem 0 = .ok (.aload_n 0, 1) := by decide +kernel
theorem dX8_layerItem_1 : decode cX8_layerItem 1 = .ok (.iconst 1, 1) := by decide +kernel
theorem dX8_layerItem_2 : decode cX8_layerItem 2 = .ok (.invokevirtual 244, 3) := by decide +kernel
theorem dX8_layerItem_5 : decode cX8_layerItem 5 = .ok (.aload_n 0, 1) := by decide +kernel
theorem dX8_layerItem_6 : decode cX8_layerItem 6 = .ok (.iconst 0, 1) := by decide +kernel
theorem dX8_layerItem_7 : decode cX8_layerItem 7 = .ok (.aload_n 0, 1) := by decide +kernel
theorem dX8_layerItem_8 : decode cX8_layerItem 8 = .ok (.getfield 7, 3) := by decide +kernel
theorem dX8_layerItem_11 : decode cX8_layerItem 11 = .ok (.iconst 0, 1) := by decide +kernel
theorem dX8_layerItem_12 : decode cX8_layerItem 12 = .ok (.iaload, 1) := by decide +kernel
theorem dX8_layerItem_13 : decode cX8_layerItem 13 = .ok (.iconst 1, 1) := by decide +kernel
theorem dX8_layerItem_14 : decode cX8_layerItem 14 = .ok (.isub, 1) := by decide +kernel
theorem dX8_layerItem_15 : decode cX8_layerItem 15 = .ok (.invokevirtual 264, 3) := by decide +kernel
theorem dX8_layerItem_18 : decode cX8_layerItem 18 = .ok (.aload_n 0, 1) := by decide +kernel
theorem dX8_layerItem_19 : decode cX8_layerItem 19 = .ok (.getfield 241, 3) := by decide +kernel
theorem dX8_layerItem_22 : decode cX8_layerItem 22 = .ok (.istore_n 1, 1) := by decide +kernel
theorem dX8_layerItem_23 : decode cX8_layerItem 23 = .ok (.aload_n 0, 1) := by decide +kernel
theorem dX8_layerItem_24 : decode cX8_layerItem 24 = .ok (.iconst 0, 1) := by decide +kernel
theorem dX8_layerItem_25 : decode cX8_layerItem 25 = .ok (.bipush 7, 2) := by decide +kernel
theorem dX8_layerItem_27 : decode cX8_layerItem 27 = .ok (.invokevirtual 264, 3) := by decide +kernel
theorem dX8_layerItem_30 : decode cX8_layerItem 30 = .ok (.aload_n 0, 1) := by decide +kernel
theorem dX8_layerItem_31 : decode cX8_layerItem 31 = .ok (.getfield 241, 3) := by decide +kernel
theorem dX8_layerItem_34 : decode cX8_layerItem 34 = .ok (.istore_n 2, 1) := by decide +kernel
theorem dX8_layerItem_35 : decode cX8_layerItem 35 = .ok (.aload_n 0, 1) := by decide +kernel
theorem dX8_layerItem_36 : decode cX8_layerItem 36 = .ok (.iconst 0, 1) := by decide +kernel
theorem dX8_layerItem_37 : decode cX8_layerItem 37 = .ok (.bipush 15, 2) := by decide +kernel
theorem dX8_layerItem_39 : decode cX8_layerItem 39 = .ok (.invokevirtual 264, 3) := by decide +kernel
theorem dX8_layerItem_42 : decode cX8_layerItem 42 = .ok (.aload_n 0, 1) := by decide +kernel
theorem dX8_layerItem_43 : decode cX8_layerItem 43 = .ok (.getfield 241, 3) := by decide +kernel
theorem dX8_layerItem_46 : decode cX8_layerItem 46 = .ok (.istore_n 3, 1) := by decide +kernel
theorem dX8_layerItem_47 : decode cX8_layerItem 47 = .ok (.aload_n 0, 1) := by decide +kernel
theorem dX8_layerItem_48 : decode cX8_layerItem 48 = .ok (.ldc2_w 274, 3) := by decide +kernel
theorem dX8_layerItem_51 : decode cX8_layerItem 51 = .ok (.iconst 0, 1) := by decide +kernel
theorem dX8_layerItem_52 : decode cX8_layerItem 52 = .ok (.invokevirtual 270, 3) := by decide +kernel
theorem dX8_layerItem_55 : decode cX8_layerItem 55 = .ok (.istore 4, 2) := by decide +kernel
theorem dX8_layerItem_57 : decode cX8_layerItem 57 = .ok (.aload_n 0, 1) := by decide +kernel
theorem dX8_layerItem_58 : decode cX8_layerItem 58 = .ok (.getfield 230, 3) := by decide +kernel
theorem dX8_layerItem_61 : decode cX8_layerItem 61 = .ok (.ifCond .ne 21, 3) := by decide +kernel
theorem dX8_layerItem_64 : decode cX8_layerItem 64 = .ok (.aload_n 0, 1) := by decide +kernel
theorem dX8_layerItem_65 : decode cX8_layerItem 65 = .ok (.iload_n 1, 1) := by decide +kernel
theorem dX8_layerItem_66 : decode cX8_layerItem 66 = .ok (.iload_n 2, 1) := by decide +kernel
theorem dX8_layerItem_67 : decode cX8_layerItem 67 = .ok (.invokevirtual 131, 3) := by decide +kernel
theorem dX8_layerItem_70 : decode cX8_layerItem 70 = .ok (.ifCond .ne 12, 3) := by decide +kernel
theorem dX8_layerItem_73 : decode cX8_layerItem 73 = .ok (.aload_n 0, 1) := by decide +kernel
theorem dX8_layerItem_74 : decode cX8_layerItem 74 = .ok (.iload_n 1, 1) := by decide +kernel
theorem dX8_layerItem_75 : decode cX8_layerItem 75 = .ok (.iload_n 2, 1) := by decide +kernel
theorem dX8_layerItem_76 : decode cX8_layerItem 76 = .ok (.iload_n 3, 1) := by decide +kernel
theorem dX8_layerItem_77 : decode cX8_layerItem 77 = .ok (.iload 4, 2) := by decide +kernel
theorem dX8_layerItem_79 : decode cX8_layerItem 79 = .ok (.invokevirtual 137, 3) := by decide +kernel
theorem dX8_layerItem_82 : decode cX8_layerItem 82 = .ok (.return_, 1) := by decide +kernel
theorem dX8_item_0 : decode cX8_item 0 = .ok (.aload_n 0, 1) := by decide +kernel
theorem dX8_item_1 : decode cX8_item 1 = .ok (.invokevirtual 276, 3) := by decide +kernel
theorem dX8_item_4 : decode cX8_item 4 = .ok (.istore_n 1, 1) := by decide +kernel
theorem dX8_item_5 : decode cX8_item 5 = .ok (.aload_n 0, 1) := by decide +kernel
theorem dX8_item_6 : decode cX8_item 6 = .ok (.invokevirtual 248, 3) := by decide +kernel
theorem dX8_item_9 : decode cX8_item 9 = .ok (.lstore_n 2, 1) := by decide +kernel
theorem dX8_item_10 : decode cX8_item 10 = .ok (.iload_n 1, 1) := by decide +kernel
theorem dX8_item_11 : decode cX8_item 11 = .ok (.ifCond .lt 11, 3) := by decide +kernel
theorem dX8_item_14 : decode cX8_item 14 = .ok (.aload_n 0, 1) := by decide +kernel
theorem dX8_item_15 : decode cX8_item 15 = .ok (.iload_n 1, 1) := by decide +kernel
theorem dX8_item_16 : decode cX8_item 16 = .ok (.invokevirtual 279, 3) := by decide +kernel
theorem dX8_item_19 : decode cX8_item 19 = .ok (.goto 83, 3) := by decide +kernel
theorem dX8_item_22 : decode cX8_item 22 = .ok (.lload_n 2, 1) := by decide +kernel
theorem dX8_item_23 : decode cX8_item 23 = .ok (.ldc2_w 282, 3) := by decide +kernel
theorem dX8_item_26 : decode cX8_item 26 = .ok (.lcmp, 1) := by decide +kernel
theorem dX8_item_27 : decode cX8_item 27 = .ok (.ifCond .ne 10, 3) := by decide +kernel
theorem dX8_item_30 : decode cX8_item 30 = .ok (.aload_n 0, 1) := by decide +kernel
theorem dX8_item_31 : decode cX8_item 31 = .ok (.invokevirtual 284, 3) := by decide +kernel
theorem dX8_item_34 : decode cX8_item 34 = .ok (.goto 68, 3) := by decide +kernel
theorem dX8_item_37 : decode cX8_item 37 = .ok (.lload_n 2, 1) := by decide +kernel
theorem dX8_item_38 : decode cX8_item 38 = .ok (.ldc2_w 287, 3) := by decide +kernel
theorem dX8_item_41 : decode cX8_item 41 = .ok (.lcmp, 1) := by decide +kernel
theorem dX8_item_42 : decode cX8_item 42 = .ok (.ifCond .ne 10, 3) := by decide +kernel
theorem dX8_item_45 : decode cX8_item 45 = .ok (.aload_n 0, 1) := by decide +kernel
theorem dX8_item_46 : decode cX8_item 46 = .ok (.invokevirtual 289, 3) := by decide +kernel
theorem dX8_item_49 : decode cX8_item 49 = .ok (.goto 53, 3) := by decide +kernel
theorem dX8_item_52 : decode cX8_item 52 = .ok (.aload_n 0, 1) := by decide +kernel
theorem dX8_item_53 : decode cX8_item 53 = .ok (.lload_n 2, 1) := by decide +kernel
theorem dX8_item_54 : decode cX8_item 54 = .ok (.ldc2_w 292, 3) := by decide +kernel
theorem dX8_item_57 : decode cX8_item 57 = .ok (.lcmp, 1) := by decide +kernel
theorem dX8_item_58 : decode cX8_item 58 = .ok (.ifCond .ne 7, 3) := by decide +kernel
theorem dX8_item_61 : decode cX8_item 61 = .ok (.iconst 1, 1) := by decide +kernel
theorem dX8_item_62 : decode cX8_item 62 = .ok (.goto 4, 3) := by decide +kernel
theorem dX8_item_65 : decode cX8_item 65 = .ok (.iconst 0, 1) := by decide +kernel
theorem dX8_item_66 : decode cX8_item 66 = .ok (.invokevirtual 244, 3) := by decide +kernel
theorem dX8_item_69 : decode cX8_item 69 = .ok (.aload_n 0, 1) := by decide +kernel
theorem dX8_item_70 : decode cX8_item 70 = .ok (.iconst 0, 1) := by decide +kernel
theorem dX8_item_71 : decode cX8_item 71 = .ok (.bipush 9, 2) := by decide +kernel
theorem dX8_item_73 : decode cX8_item 73 = .ok (.invokevirtual 264, 3) := by decide +kernel
theorem dX8_item_76 : decode cX8_item 76 = .ok (.aload_n 0, 1) := by decide +kernel
theorem dX8_item_77 : decode cX8_item 77 = .ok (.getfield 7, 3) := by decide +kernel
theorem dX8_item_80 : decode cX8_item 80 = .ok (.iconst 2, 1) := by decide +kernel
theorem dX8_item_81 : decode cX8_item 81 = .ok (.aload_n 0, 1) := by decide +kernel
theorem dX8_item_82 : decode cX8_item 82 = .ok (.getfield 230, 3) := by decide +kernel
theorem dX8_item_85 : decode cX8_item 85 = .ok (.ifCond .eq 12, 3) := by decide +kernel
theorem dX8_item_88 : decode cX8_item 88 = .ok (.aload_n 0, 1) := by decide +kernel
theorem dX8_item_89 : decode cX8_item 89 = .ok (.getfield 7, 3) := by decide +kernel
theorem dX8_item_92 : decode cX8_item 92 = .ok (.iconst 2, 1) := by decide +kernel
theorem dX8_item_93 : decode cX8_item 93 = .ok (.iaload, 1) := by decide +kernel
theorem dX8_item_94 : decode cX8_item 94 = .ok (.goto 7, 3) := by decide +kernel
theorem dX8_item_97 : decode cX8_item 97 = .ok (.aload_n 0, 1) := by decide +kernel
theorem dX8_item_98 : decode cX8_item 98 = .ok (.getfield 241, 3) := by decide +kernel
theorem dX8_item_101 : decode cX8_item 101 = .ok (.iastore, 1) := by decide +kernel
theorem dX8_item_102 : decode cX8_item 102 = .ok (.return_, 1) := by decide +kernel
theorem dX8_house_0 : decode cX8_house 0 = .ok (.aload_n 0, 1) := by decide +kernel
theorem dX8_house_1 : decode cX8_house 1 = .ok (.invokevirtual 294, 3) := by decide +kernel
theorem dX8_house_4 : decode cX8_house 4 = .ok (.aload_n 0, 1) := by decide +kernel
theorem dX8_house_5 : decode cX8_house 5 = .ok (.iconst 0, 1) := by decide +kernel
theorem dX8_house_6 : decode cX8_house 6 = .ok (.putfield 230, 3) := by decide +kernel
theorem dX8_house_9 : decode cX8_house 9 = .ok (.aload_n 0, 1) := by decide +kernel
theorem dX8_house_10 : decode cX8_house 10 = .ok (.iconst 0, 1) := by decide +kernel
theorem dX8_house_11 : decode cX8_house 11 = .ok (.putfield 215, 3) := by decide +kernel
theorem dX8_house_14 : decode cX8_house 14 = .ok (.aload_n 0, 1) := by decide +kernel
theorem dX8_house_15 : decode cX8_house 15 = .ok (.invokevirtual 234, 3) := by decide +kernel
theorem dX8_house_18 : decode cX8_house 18 = .ok (.iconst 1, 1) := by decide +kernel
theorem dX8_house_19 : decode cX8_house 19 = .ok (.istore_n 1, 1) := by decide +kernel
theorem dX8_house_20 : decode cX8_house 20 = .ok (.aload_n 0, 1) := by decide +kernel
theorem dX8_house_21 : decode cX8_house 21 = .ok (.invokevirtual 297, 3) := by decide +kernel
theorem dX8_house_24 : decode cX8_house 24 = .ok (.aload_n 0, 1) := by decide +kernel
theorem dX8_house_25 : decode cX8_house 25 = .ok (.getfield 230, 3) := by decide +kernel
theorem dX8_house_28 : decode cX8_house 28 = .ok (.ifCond .ne 31, 3) := by decide +kernel
theorem dX8_house_31 : decode cX8_house 31 = .ok (.aload_n 0, 1) := by decide +kernel
theorem dX8_house_32 : decode cX8_house 32 = .ok (.aload_n 0, 1) := by decide +kernel
theorem dX8_house_33 : decode cX8_house 33 = .ok (.getfield 218, 3) := by decide +kernel
theorem dX8_house_36 : decode cX8_house 36 = .ok (.invokevirtual 221, 3) := by decide +kernel
theorem dX8_house_39 : decode cX8_house 39 = .ok (.bipush 59, 2) := by decide +kernel
theorem dX8_house_41 : decode cX8_house 41 = .ok (.if_icmp .ne 18, 3) := by decide +kernel
theorem dX8_house_44 : decode cX8_house 44 = .ok (.aload_n 0, 1) := by decide +kernel
theorem dX8_house_45 : decode cX8_house 45 = .ok (.iconst 1, 1) := by decide +kernel
theorem dX8_house_46 : decode cX8_house 46 = .ok (.invokevirtual 244, 3) := by decide +kernel
theorem dX8_house_49 : decode cX8_house 49 = .ok (.aload_n 0, 1) := by decide +kernel
theorem dX8_house_50 : decode cX8_house 50 = .ok (.invokevirtual 297, 3) := by decide +kernel
theorem dX8_house_53 : decode cX8_house 53 = .ok (.iinc 1 1, 3) := by decide +kernel
theorem dX8_house_56 : decode cX8_house 56 = .ok (.goto (-32), 3) := by decide +kernel
theorem dX8_house_59 : decode cX8_house 59 = .ok (.aload_n 0, 1) := by decide +kernel
theorem dX8_house_60 : decode cX8_house 60 = .ok (.aload_n 0, 1) := by decide +kernel
theorem dX8_house_61 : decode cX8_house 61 = .ok (.getfield 230, 3) := by decide +kernel
theorem dX8_house_64 : decode cX8_house 64 = .ok (.ifCond .ne 14, 3) := by decide +kernel
theorem dX8_house_67 : decode cX8_house 67 = .ok (.aload_n 0, 1) := by decide +kernel
theorem dX8_house_68 : decode cX8_house 68 = .ok (.getfield 218, 3) := by decide +kernel
theorem dX8_house_71 : decode cX8_house 71 = .ok (.aload_n 0, 1) := by decide +kernel
theorem dX8_house_72 : decode cX8_house 72 = .ok (.getfield 204, 3) := by decide +kernel
theorem dX8_house_75 : decode cX8_house 75 = .ok (.if_icmp .ge 7, 3) := by decide +kernel
theorem dX8_house_78 : decode cX8_house 78 = .ok (.iconst 1, 1) := by decide +kernel
theorem dX8_house_79 : decode cX8_house 79 = .ok (.goto 4, 3) := by decide +kernel
theorem dX8_house_82 : decode cX8_house 82 = .ok (.iconst 0, 1) := by decide +kernel
theorem dX8_house_83 : decode cX8_house 83 = .ok (.putfield 230, 3) := by decide +kernel
theorem dX8_house_86 : decode cX8_house 86 = .ok (.aload_n 0, 1) := by decide +kernel
theorem dX8_house_87 : decode cX8_house 87 = .ok (.getfield 230, 3) := by decide +kernel
theorem dX8_house_90 : decode cX8_house 90 = .ok (.ifCond .eq 7, 3) := by decide +kernel
theorem dX8_house_93 : decode cX8_house 93 = .ok (.aload_n 0, 1) := by decide +kernel
theorem dX8_house_94 : decode cX8_house 94 = .ok (.invokevirtual 300, 3) := by decide +kernel
theorem dX8_house_97 : decode cX8_house 97 = .ok (.aload_n 0, 1) := by decide +kernel
theorem dX8_house_98 : decode cX8_house 98 = .ok (.iconst 0, 1) := by decide +kernel
theorem dX8_house_99 : decode cX8_house 99 = .ok (.putfield 204, 3) := by decide +kernel
theorem dX8_house_102 : decode cX8_house 102 = .ok (.aload_n 0, 1) := by decide +kernel
theorem dX8_house_103 : decode cX8_house 103 = .ok (.getfield 230, 3) := by decide +kernel
theorem dX8_house_106 : decode cX8_house 106 = .ok (.ifCond .eq 12, 3) := by decide +kernel
theorem dX8_house_109 : decode cX8_house 109 = .ok (.iconst (-1), 1) := by decide +kernel
theorem dX8_house_110 : decode cX8_house 110 = .ok (.aload_n 0, 1) := by decide +kernel
theorem dX8_house_111 : decode cX8_house 111 = .ok (.getfield 218, 3) := by decide +kernel
theorem dX8_house_114 : decode cX8_house 114 = .ok (.isub, 1) := by decide +kernel
theorem dX8_house_115 : decode cX8_house 115 = .ok (.goto 4, 3) := by decide +kernel
theorem dX8_house_118 : decode cX8_house 118 = .ok (.iload_n 1, 1) := by decide +kernel
theorem dX8_house_119 : decode cX8_house 119 = .ok (.ireturn, 1) := by decide +kernel
theorem dX8_isOne_0 : decode cX8_isOne 0 = .ok (.iload_n 0, 1) := by decide +kernel
theorem dX8_isOne_1 : decode cX8_isOne 1 = .ok (.i2l, 1) := by decide +kernel
theorem dX8_isOne_2 : decode cX8_isOne 2 = .ok (.lconst 0, 1) := by decide +kernel
theorem dX8_isOne_3 : decode cX8_isOne 3 = .ok (.ldc2_w 303, 3) := by decide +kernel
theorem dX8_isOne_6 : decode cX8_isOne 6 = .ok (.invokestatic 45, 3) := by decide +kernel
theorem dX8_isOne_9 : decode cX8_isOne 9 = .ok (.ireturn, 1) := by decide +kernel
theorem dX8_sheet_0 : decode cX8_sheet 0 = .ok (.iload_n 1, 1) := by decide +kernel
theorem dX8_sheet_1 : decode cX8_sheet 1 = .ok (.invokestatic 305, 3) := by decide +kernel
theorem dX8_sheet_4 : decode cX8_sheet 4 = .ok (.ifCond .eq 25, 3) := by decide +kernel
theorem dX8_sheet_7 : decode cX8_sheet 7 = .ok (.iload_n 2, 1) := by decide +kernel
theorem dX8_sheet_8 : decode cX8_sheet 8 = .ok (.ifCond .eq 28, 3) := by decide +kernel
theorem dX8_sheet_11 : decode cX8_sheet 11 = .ok (.iload_n 2, 1) := by decide +kernel
theorem dX8_sheet_12 : decode cX8_sheet 12 = .ok (.bipush 8, 2) := by decide +kernel
theorem dX8_sheet_14 : decode cX8_sheet 14 = .ok (.if_icmp .eq 22, 3) := by decide +kernel
theorem dX8_sheet_17 : decode cX8_sheet 17 = .ok (.iload_n 2, 1) := by decide +kernel
theorem dX8_sheet_18 : decode cX8_sheet 18 = .ok (.bipush 16, 2) := by decide +kernel
theorem dX8_sheet_20 : decode cX8_sheet 20 = .ok (.if_icmp .eq 16, 3) := by decide +kernel
theorem dX8_sheet_23 : decode cX8_sheet 23 = .ok (.iload_n 2, 1) := by decide +kernel
theorem dX8_sheet_24 : decode cX8_sheet 24 = .ok (.bipush 64, 2) := by decide +kernel
theorem dX8_sheet_26 : decode cX8_sheet 26 = .ok (.if_icmp .eq 10, 3) := by decide +kernel
theorem dX8_sheet_29 : decode cX8_sheet 29 = .ok (.aload_n 0, 1) := by decide +kernel
theorem dX8_sheet_30 : decode cX8_sheet 30 = .ok (.ldc 44, 2) := by decide +kernel
theorem dX8_sheet_32 : decode cX8_sheet 32 = .ok (.invokevirtual 67, 3) := by decide +kernel
theorem dX8_sheet_35 : decode cX8_sheet 35 = .ok (.ireturn, 1) := by decide +kernel
theorem dX8_sheet_36 : decode cX8_sheet 36 = .ok (.iload_n 3, 1) := by decide +kernel
theorem dX8_sheet_37 : decode cX8_sheet 37 = .ok (.ifCond .ge 11, 3) := by decide +kernel
theorem dX8_sheet_40 : decode cX8_sheet 40 = .ok (.aload_n 0, 1) := by decide +kernel
theorem dX8_sheet_41 : decode cX8_sheet 41 = .ok (.ldc_w 308, 3) := by decide +kernel
theorem dX8_sheet_44 : decode cX8_sheet 44 = .ok (.invokevirtual 67, 3) := by decide +kernel
theorem dX8_sheet_47 : decode cX8_sheet 47 = .ok (.ireturn, 1) := by decide +kernel
theorem dX8_sheet_48 : decode cX8_sheet 48 = .ok (.iload_n 3, 1) := by decide +kernel
theorem dX8_sheet_49 : decode cX8_sheet 49 = .ok (.bipush 40, 2) := by decide +kernel
theorem dX8_sheet_51 : decode cX8_sheet 51 = .ok (.if_icmp .le 10, 3) := by decide +kernel
theorem dX8_sheet_54 : decode cX8_sheet 54 = .ok (.aload_n 0, 1) := by decide +kernel
theorem dX8_sheet_55 : decode cX8_sheet 55 = .ok (.ldc 44, 2) := by decide +kernel
theorem dX8_sheet_57 : decode cX8_sheet 57 = .ok (.invokevirtual 67, 3) := by decide +kernel
theorem dX8_sheet_60 : decode cX8_sheet 60 = .ok (.ireturn, 1) := by decide +kernel
theorem dX8_sheet_61 : decode cX8_sheet 61 = .ok (.aload_n 0, 1) := by decide +kernel
theorem dX8_sheet_62 : decode cX8_sheet 62 = .ok (.getfield 31, 3) := by decide +kernel
theorem dX8_sheet_65 : decode cX8_sheet 65 = .ok (.iload_n 1, 1) := by decide +kernel
theorem dX8_sheet_66 : decode cX8_sheet 66 = .ok (.iload_n 2, 1) := by decide +kernel
theorem dX8_sheet_67 : decode cX8_sheet 67 = .ok (.iastore, 1) := by decide +kernel
theorem dX8_sheet_68 : decode cX8_sheet 68 = .ok (.aload_n 0, 1) := by decide +kernel
theorem dX8_sheet_69 : decode cX8_sheet 69 = .ok (.getfield 34, 3) := by decide +kernel
theorem dX8_sheet_72 : decode cX8_sheet 72 = .ok (.iload_n 1, 1) := by decide +kernel
theorem dX8_sheet_73 : decode cX8_sheet 73 = .ok (.iload_n 2, 1) := by decide +kernel
theorem dX8_sheet_74 : decode cX8_sheet 74 = .ok (.ifCond .ne 7, 3) := by decide +kernel
theorem dX8_sheet_77 : decode cX8_sheet 77 = .ok (.iconst 0, 1) := by decide +kernel
theorem dX8_sheet_78 : decode cX8_sheet 78 = .ok (.goto 4, 3) := by decide +kernel
theorem dX8_sheet_81 : decode cX8_sheet 81 = .ok (.iload_n 3, 1) := by decide +kernel
theorem dX8_sheet_82 : decode cX8_sheet 82 = .ok (.iastore, 1) := by decide +kernel
theorem dX8_sheet_83 : decode cX8_sheet 83 = .ok (.iconst 0, 1) := by decide +kernel
theorem dX8_sheet_84 : decode cX8_sheet 84 = .ok (.istore 4, 2) := by decide +kernel
theorem dX8_sheet_86 : decode cX8_sheet 86 = .ok (.iload 4, 2) := by decide +kernel
theorem dX8_sheet_88 : decode cX8_sheet 88 = .ok (.bipush 40, 2) := by decide +kernel
theorem dX8_sheet_90 : decode cX8_sheet 90 = .ok (.if_icmp .ge 22, 3) := by decide +kernel
theorem dX8_sheet_93 : decode cX8_sheet 93 = .ok (.aload_n 0, 1) := by decide +kernel
theorem dX8_sheet_94 : decode cX8_sheet 94 = .ok (.getfield 37, 3) := by decide +kernel
theorem dX8_sheet_97 : decode cX8_sheet 97 = .ok (.bipush 40, 2) := by decide +kernel
theorem dX8_sheet_99 : decode cX8_sheet 99 = .ok (.iload_n 1, 1) := by decide +kernel
theorem dX8_sheet_100 : decode cX8_sheet 100 = .ok (.imul, 1) := by decide +kernel
theorem dX8_sheet_101 : decode cX8_sheet 101 = .ok (.iload 4, 2) := by decide +kernel
theorem dX8_sheet_103 : decode cX8_sheet 103 = .ok (.iadd, 1) := by decide +kernel
theorem dX8_sheet_104 : decode cX8_sheet 104 = .ok (.lconst 0, 1) := by decide +kernel
theorem dX8_sheet_105 : decode cX8_sheet 105 = .ok (.lastore, 1) := by decide +kernel
theorem dX8_sheet_106 : decode cX8_sheet 106 = .ok (.iinc 4 1, 3) := by decide +kernel
theorem dX8_sheet_109 : decode cX8_sheet 109 = .ok (.goto (-23), 3) := by decide +kernel
theorem dX8_sheet_112 : decode cX8_sheet 112 = .ok (.aload_n 0, 1) := by decide +kernel
theorem dX8_sheet_113 : decode cX8_sheet 113 = .ok (.getfield 34, 3) := by decide +kernel
theorem dX8_sheet_116 : decode cX8_sheet 116 = .ok (.iload_n 1, 1) := by decide +kernel
theorem dX8_sheet_117 : decode cX8_sheet 117 = .ok (.iaload, 1) := by decide +kernel
theorem dX8_sheet_118 : decode cX8_sheet 118 = .ok (.ireturn, 1) := by decide +kernel
theorem dX8_narrowed_0 : decode cX8_narrowed 0 = .ok (.iload_n 0, 1) := by decide +kernel
theorem dX8_narrowed_1 : decode cX8_narrowed 1 = .ok (.bipush 8, 2) := by decide +kernel
theorem dX8_narrowed_3 : decode cX8_narrowed 3 = .ok (.if_icmp .ne 10, 3) := by decide +kernel
theorem dX8_narrowed_6 : decode cX8_narrowed 6 = .ok (.lload_n 1, 1) := by decide +kernel
theorem dX8_narrowed_7 : decode cX8_narrowed 7 = .ok (.l2i, 1) := by decide +kernel
theorem dX8_narrowed_8 : decode cX8_narrowed 8 = .ok (.i2b, 1) := by decide +kernel
theorem dX8_narrowed_9 : decode cX8_narrowed 9 = .ok (.i2l, 1) := by decide +kernel
theorem dX8_narrowed_10 : decode cX8_narrowed 10 = .ok (.goto 17, 3) := by decide +kernel
theorem dX8_narrowed_13 : decode cX8_narrowed 13 = .ok (.iload_n 0, 1) := by decide +kernel
theorem dX8_narrowed_14 : decode cX8_narrowed 14 = .ok (.bipush 16, 2) := by decide +kernel
theorem dX8_narrowed_16 : decode cX8_narrowed 16 = .ok (.if_icmp .ne 10, 3) := by decide +kernel
theorem dX8_narrowed_19 : decode cX8_narrowed 19 = .ok (.lload_n 1, 1) := by decide +kernel
theorem dX8_narrowed_20 : decode cX8_narrowed 20 = .ok (.l2i, 1) := by decide +kernel
theorem dX8_narrowed_21 : decode cX8_narrowed 21 = .ok (.i2s, 1) := by decide +kernel
theorem dX8_narrowed_22 : decode cX8_narrowed 22 = .ok (.i2l, 1) := by decide +kernel
theorem dX8_narrowed_23 : decode cX8_narrowed 23 = .ok (.goto 4, 3) := by decide +kernel
theorem dX8_narrowed_26 : decode cX8_narrowed 26 = .ok (.lload_n 1, 1) := by decide +kernel
theorem dX8_narrowed_27 : decode cX8_narrowed 27 = .ok (.lreturn, 1) := by decide +kernel
theorem dX8_wrongSheet_0 : decode cX8_wrongSheet 0 = .ok (.iload_n 1, 1) := by decide +kernel
theorem dX8_wrongSheet_1 : decode cX8_wrongSheet 1 = .ok (.invokestatic 305, 3) := by decide +kernel
theorem dX8_wrongSheet_4 : decode cX8_wrongSheet 4 = .ok (.ifCond .ne 8, 3) := by decide +kernel
theorem dX8_wrongSheet_7 : decode cX8_wrongSheet 7 = .ok (.ldc 44, 2) := by decide +kernel
theorem dX8_wrongSheet_9 : decode cX8_wrongSheet 9 = .ok (.goto 19, 3) := by decide +kernel
theorem dX8_wrongSheet_12 : decode cX8_wrongSheet 12 = .ok (.aload_n 0, 1) := by decide +kernel
theorem dX8_wrongSheet_13 : decode cX8_wrongSheet 13 = .ok (.getfield 31, 3) := by decide +kernel
theorem dX8_wrongSheet_16 : decode cX8_wrongSheet 16 = .ok (.iload_n 1, 1) := by decide +kernel
theorem dX8_wrongSheet_17 : decode cX8_wrongSheet 17 = .ok (.iaload, 1) := by decide +kernel
theorem dX8_wrongSheet_18 : decode cX8_wrongSheet 18 = .ok (.ifCond .ne 9, 3) := by decide +kernel
theorem dX8_wrongSheet_21 : decode cX8_wrongSheet 21 = .ok (.ldc_w 309, 3) := by decide +kernel
theorem dX8_wrongSheet_24 : decode cX8_wrongSheet 24 = .ok (.goto 4, 3) := by decide +kernel
theorem dX8_wrongSheet_27 : decode cX8_wrongSheet 27 = .ok (.iconst 0, 1) := by decide +kernel
theorem dX8_wrongSheet_28 : decode cX8_wrongSheet 28 = .ok (.ireturn, 1) := by decide +kernel
theorem dX8_write_0 : decode cX8_write 0 = .ok (.aload_n 0, 1) := by decide +kernel
theorem dX8_write_1 : decode cX8_write 1 = .ok (.iload_n 1, 1) := by decide +kernel
theorem dX8_write_2 : decode cX8_write 2 = .ok (.invokevirtual 310, 3) := by decide +kernel
theorem dX8_write_5 : decode cX8_write 5 = .ok (.istore 5, 2) := by decide +kernel
theorem dX8_write_7 : decode cX8_write 7 = .ok (.iload 5, 2) := by decide +kernel
theorem dX8_write_9 : decode cX8_write 9 = .ok (.ifCond .eq 11, 3) := by decide +kernel
theorem dX8_write_12 : decode cX8_write 12 = .ok (.aload_n 0, 1) := by decide +kernel
theorem dX8_write_13 : decode cX8_write 13 = .ok (.iload 5, 2) := by decide +kernel
theorem dX8_write_15 : decode cX8_write 15 = .ok (.invokevirtual 67, 3) := by decide +kernel
theorem dX8_write_18 : decode cX8_write 18 = .ok (.i2l, 1) := by decide +kernel
theorem dX8_write_19 : decode cX8_write 19 = .ok (.lreturn, 1) := by decide +kernel
theorem dX8_write_20 : decode cX8_write 20 = .ok (.iload_n 2, 1) := by decide +kernel
theorem dX8_write_21 : decode cX8_write 21 = .ok (.i2l, 1) := by decide +kernel
theorem dX8_write_22 : decode cX8_write 22 = .ok (.lconst 0, 1) := by decide +kernel
theorem dX8_write_23 : decode cX8_write 23 = .ok (.aload_n 0, 1) := by decide +kernel
theorem dX8_write_24 : decode cX8_write 24 = .ok (.getfield 34, 3) := by decide +kernel
theorem dX8_write_27 : decode cX8_write 27 = .ok (.iload_n 1, 1) := by decide +kernel
theorem dX8_write_28 : decode cX8_write 28 = .ok (.iaload, 1) := by decide +kernel
theorem dX8_write_29 : decode cX8_write 29 = .ok (.iconst 1, 1) := by decide +kernel
theorem dX8_write_30 : decode cX8_write 30 = .ok (.isub, 1) := by decide +kernel
theorem dX8_write_31 : decode cX8_write 31 = .ok (.i2l, 1) := by decide +kernel
theorem dX8_write_32 : decode cX8_write 32 = .ok (.invokestatic 45, 3) := by decide +kernel
theorem dX8_write_35 : decode cX8_write 35 = .ok (.ifCond .ne 11, 3) := by decide +kernel
theorem dX8_write_38 : decode cX8_write 38 = .ok (.aload_n 0, 1) := by decide +kernel
theorem dX8_write_39 : decode cX8_write 39 = .ok (.ldc 44, 2) := by decide +kernel
theorem dX8_write_41 : decode cX8_write 41 = .ok (.invokevirtual 67, 3) := by decide +kernel
theorem dX8_write_44 : decode cX8_write 44 = .ok (.i2l, 1) := by decide +kernel
theorem dX8_write_45 : decode cX8_write 45 = .ok (.lreturn, 1) := by decide +kernel
theorem dX8_write_46 : decode cX8_write 46 = .ok (.aload_n 0, 1) := by decide +kernel
theorem dX8_write_47 : decode cX8_write 47 = .ok (.getfield 37, 3) := by decide +kernel
theorem dX8_write_50 : decode cX8_write 50 = .ok (.bipush 40, 2) := by decide +kernel
theorem dX8_write_52 : decode cX8_write 52 = .ok (.iload_n 1, 1) := by decide +kernel
theorem dX8_write_53 : decode cX8_write 53 = .ok (.imul, 1) := by decide +kernel
theorem dX8_write_54 : decode cX8_write 54 = .ok (.iload_n 2, 1) := by decide +kernel
theorem dX8_write_55 : decode cX8_write 55 = .ok (.iadd, 1) := by decide +kernel
theorem dX8_write_56 : decode cX8_write 56 = .ok (.laload, 1) := by decide +kernel
theorem dX8_write_57 : decode cX8_write 57 = .ok (.lstore 6, 2) := by decide +kernel
theorem dX8_write_59 : decode cX8_write 59 = .ok (.aload_n 0, 1) := by decide +kernel
theorem dX8_write_60 : decode cX8_write 60 = .ok (.getfield 37, 3) := by decide +kernel
theorem dX8_write_63 : decode cX8_write 63 = .ok (.bipush 40, 2) := by decide +kernel
theorem dX8_write_65 : decode cX8_write 65 = .ok (.iload_n 1, 1) := by decide +kernel
theorem dX8_write_66 : decode cX8_write 66 = .ok (.imul, 1) := by decide +kernel
theorem dX8_write_67 : decode cX8_write 67 = .ok (.iload_n 2, 1) := by decide +kernel
theorem dX8_write_68 : decode cX8_write 68 = .ok (.iadd, 1) := by decide +kernel
theorem dX8_write_69 : decode cX8_write 69 = .ok (.aload_n 0, 1) := by decide +kernel
theorem dX8_write_70 : decode cX8_write 70 = .ok (.getfield 31, 3) := by decide +kernel
theorem dX8_write_73 : decode cX8_write 73 = .ok (.iload_n 1, 1) := by decide +kernel
theorem dX8_write_74 : decode cX8_write 74 = .ok (.iaload, 1) := by decide +kernel
theorem dX8_write_75 : decode cX8_write 75 = .ok (.lload_n 3, 1) := by decide +kernel
theorem dX8_write_76 : decode cX8_write 76 = .ok (.invokestatic 313, 3) := by decide +kernel
theorem dX8_write_79 : decode cX8_write 79 = .ok (.lastore, 1) := by decide +kernel
theorem dX8_write_80 : decode cX8_write 80 = .ok (.lload 6, 2) := by decide +kernel
theorem dX8_write_82 : decode cX8_write 82 = .ok (.lreturn, 1) := by decide +kernel
theorem dX8_copy_0 : decode cX8_copy 0 = .ok (.iload_n 1, 1) := by decide +kernel
theorem dX8_copy_1 : decode cX8_copy 1 = .ok (.invokestatic 305, 3) := by decide +kernel
theorem dX8_copy_4 : decode cX8_copy 4 = .ok (.ifCond .eq 10, 3) := by decide +kernel
theorem dX8_copy_7 : decode cX8_copy 7 = .ok (.iload_n 3, 1) := by decide +kernel
theorem dX8_copy_8 : decode cX8_copy 8 = .ok (.invokestatic 305, 3) := by decide +kernel
theorem dX8_copy_11 : decode cX8_copy 11 = .ok (.ifCond .ne 10, 3) := by decide +kernel
theorem dX8_copy_14 : decode cX8_copy 14 = .ok (.aload_n 0, 1) := by decide +kernel
theorem dX8_copy_15 : decode cX8_copy 15 = .ok (.ldc 44, 2) := by decide +kernel
theorem dX8_copy_17 : decode cX8_copy 17 = .ok (.invokevirtual 67, 3) := by decide +kernel
theorem dX8_copy_20 : decode cX8_copy 20 = .ok (.ireturn, 1) := by decide +kernel
theorem dX8_copy_21 : decode cX8_copy 21 = .ok (.aload_n 0, 1) := by decide +kernel
theorem dX8_copy_22 : decode cX8_copy 22 = .ok (.getfield 31, 3) := by decide +kernel
theorem dX8_copy_25 : decode cX8_copy 25 = .ok (.iload_n 1, 1) := by decide +kernel
theorem dX8_copy_26 : decode cX8_copy 26 = .ok (.iaload, 1) := by decide +kernel
theorem dX8_copy_27 : decode cX8_copy 27 = .ok (.ifCond .eq 12, 3) := by decide +kernel
theorem dX8_copy_30 : decode cX8_copy 30 = .ok (.aload_n 0, 1) := by decide +kernel
theorem dX8_copy_31 : decode cX8_copy 31 = .ok (.getfield 31, 3) := by decide +kernel
theorem dX8_copy_34 : decode cX8_copy 34 = .ok (.iload_n 3, 1) := by decide +kernel
theorem dX8_copy_35 : decode cX8_copy 35 = .ok (.iaload, 1) := by decide +kernel
theorem dX8_copy_36 : decode cX8_copy 36 = .ok (.ifCond .ne 11, 3) := by decide +kernel
theorem dX8_copy_39 : decode cX8_copy 39 = .ok (.aload_n 0, 1) := by decide +kernel
theorem dX8_copy_40 : decode cX8_copy 40 = .ok (.ldc_w 309, 3) := by decide +kernel
theorem dX8_copy_43 : decode cX8_copy 43 = .ok (.invokevirtual 67, 3) := by decide +kernel
theorem dX8_copy_46 : decode cX8_copy 46 = .ok (.ireturn, 1) := by decide +kernel
theorem dX8_copy_47 : decode cX8_copy 47 = .ok (.aload_n 0, 1) := by decide +kernel
theorem dX8_copy_48 : decode cX8_copy 48 = .ok (.getfield 31, 3) := by decide +kernel
theorem dX8_copy_51 : decode cX8_copy 51 = .ok (.iload_n 1, 1) := by decide +kernel
theorem dX8_copy_52 : decode cX8_copy 52 = .ok (.iaload, 1) := by decide +kernel
theorem dX8_copy_53 : decode cX8_copy 53 = .ok (.aload_n 0, 1) := by decide +kernel
theorem dX8_copy_54 : decode cX8_copy 54 = .ok (.getfield 31, 3) := by decide +kernel
theorem dX8_copy_57 : decode cX8_copy 57 = .ok (.iload_n 3, 1) := by decide +kernel
theorem dX8_copy_58 : decode cX8_copy 58 = .ok (.iaload, 1) := by decide +kernel
theorem dX8_copy_59 : decode cX8_copy 59 = .ok (.if_icmp .eq 10, 3) := by decide +kernel
theorem dX8_copy_62 : decode cX8_copy 62 = .ok (.aload_n 0, 1) := by decide +kernel
theorem dX8_copy_63 : decode cX8_copy 63 = .ok (.ldc 121, 2) := by decide +kernel
theorem dX8_copy_65 : decode cX8_copy 65 = .ok (.invokevirtual 67, 3) := by decide +kernel
theorem dX8_copy_68 : decode cX8_copy 68 = .ok (.ireturn, 1) := by decide +kernel
theorem dX8_copy_69 : decode cX8_copy 69 = .ok (.iload_n 2, 1) := by decide +kernel
theorem dX8_copy_70 : decode cX8_copy 70 = .ok (.ifCond .lt 40, 3) := by decide +kernel
theorem dX8_copy_73 : decode cX8_copy 73 = .ok (.iload 4, 2) := by decide +kernel
theorem dX8_copy_75 : decode cX8_copy 75 = .ok (.ifCond .lt 35, 3) := by decide +kernel
theorem dX8_copy_78 : decode cX8_copy 78 = .ok (.iload 5, 2) := by decide +kernel
theorem dX8_copy_80 : decode cX8_copy 80 = .ok (.ifCond .lt 30, 3) := by decide +kernel
theorem dX8_copy_83 : decode cX8_copy 83 = .ok (.iload 5, 2) := by decide +kernel
theorem dX8_copy_85 : decode cX8_copy 85 = .ok (.aload_n 0, 1) := by decide +kernel
theorem dX8_copy_86 : decode cX8_copy 86 = .ok (.getfield 34, 3) := by decide +kernel
theorem dX8_copy_89 : decode cX8_copy 89 = .ok (.iload_n 1, 1) := by decide +kernel
theorem dX8_copy_90 : decode cX8_copy 90 = .ok (.iaload, 1) := by decide +kernel
theorem dX8_copy_91 : decode cX8_copy 91 = .ok (.iload_n 2, 1) := by decide +kernel
theorem dX8_copy_92 : decode cX8_copy 92 = .ok (.isub, 1) := by decide +kernel
theorem dX8_copy_93 : decode cX8_copy 93 = .ok (.if_icmp .gt 17, 3) := by decide +kernel
theorem dX8_copy_96 : decode cX8_copy 96 = .ok (.iload 5, 2) := by decide +kernel
theorem dX8_copy_98 : decode cX8_copy 98 = .ok (.aload_n 0, 1) := by decide +kernel
theorem dX8_copy_99 : decode cX8_copy 99 = .ok (.getfield 34, 3) := by decide +kernel
theorem dX8_copy_102 : decode cX8_copy 102 = .ok (.iload_n 3, 1) := by decide +kernel
theorem dX8_copy_103 : decode cX8_copy 103 = .ok (.iaload, 1) := by decide +kernel
theorem dX8_copy_104 : decode cX8_copy 104 = .ok (.iload 4, 2) := by decide +kernel
theorem dX8_copy_106 : decode cX8_copy 106 = .ok (.isub, 1) := by decide +kernel
theorem dX8_copy_107 : decode cX8_copy 107 = .ok (.if_icmp .le 10, 3) := by decide +kernel
theorem dX8_copy_110 : decode cX8_copy 110 = .ok (.aload_n 0, 1) := by decide +kernel
theorem dX8_copy_111 : decode cX8_copy 111 = .ok (.ldc 44, 2) := by decide +kernel
theorem dX8_copy_113 : decode cX8_copy 113 = .ok (.invokevirtual 67, 3) := by decide +kernel
theorem dX8_copy_116 : decode cX8_copy 116 = .ok (.ireturn, 1) := by decide +kernel
theorem dX8_copy_117 : decode cX8_copy 117 = .ok (.iconst 0, 1) := by decide +kernel
theorem dX8_copy_118 : decode cX8_copy 118 = .ok (.istore 6, 2) := by decide +kernel
theorem dX8_copy_120 : decode cX8_copy 120 = .ok (.iload 6, 2) := by decide +kernel
theorem dX8_copy_122 : decode cX8_copy 122 = .ok (.iload 5, 2) := by decide +kernel
theorem dX8_copy_124 : decode cX8_copy 124 = .ok (.if_icmp .ge 30, 3) := by decide +kernel
theorem dX8_copy_127 : decode cX8_copy 127 = .ok (.aload_n 0, 1) := by decide +kernel
theorem dX8_copy_128 : decode cX8_copy 128 = .ok (.getfield 41, 3) := by decide +kernel
theorem dX8_copy_131 : decode cX8_copy 131 = .ok (.iload 6, 2) := by decide +kernel
theorem dX8_copy_133 : decode cX8_copy 133 = .ok (.aload_n 0, 1) := by decide +kernel
theorem dX8_copy_134 : decode cX8_copy 134 = .ok (.getfield 37, 3) := by decide +kernel
theorem dX8_copy_137 : decode cX8_copy 137 = .ok (.bipush 40, 2) := by decide +kernel
theorem dX8_copy_139 : decode cX8_copy 139 = .ok (.iload_n 1, 1) := by decide +kernel
theorem dX8_copy_140 : decode cX8_copy 140 = .ok (.imul, 1) := by decide +kernel
theorem dX8_copy_141 : decode cX8_copy 141 = .ok (.iload_n 2, 1) := by decide +kernel
theorem dX8_copy_142 : decode cX8_copy 142 = .ok (.iadd, 1) := by decide +kernel
theorem dX8_copy_143 : decode cX8_copy 143 = .ok (.iload 6, 2) := by decide +kernel
theorem dX8_copy_145 : decode cX8_copy 145 = .ok (.iadd, 1) := by decide +kernel
theorem dX8_copy_146 : decode cX8_copy 146 = .ok (.laload, 1) := by decide +kernel
theorem dX8_copy_147 : decode cX8_copy 147 = .ok (.lastore, 1) := by decide +kernel
theorem dX8_copy_148 : decode cX8_copy 148 = .ok (.iinc 6 1, 3) := by decide +kernel
theorem dX8_copy_151 : decode cX8_copy 151 = .ok (.goto (-31), 3) := by decide +kernel
theorem dX8_copy_154 : decode cX8_copy 154 = .ok (.iconst 0, 1) := by decide +kernel
theorem dX8_copy_155 : decode cX8_copy 155 = .ok (.istore 6, 2) := by decide +kernel
theorem dX8_copy_157 : decode cX8_copy 157 = .ok (.iload 6, 2) := by decide +kernel
theorem dX8_copy_159 : decode cX8_copy 159 = .ok (.iload 5, 2) := by decide +kernel
theorem dX8_copy_161 : decode cX8_copy 161 = .ok (.if_icmp .ge 31, 3) := by decide +kernel
theorem dX8_copy_164 : decode cX8_copy 164 = .ok (.aload_n 0, 1) := by decide +kernel
theorem dX8_copy_165 : decode cX8_copy 165 = .ok (.getfield 37, 3) := by decide +kernel
theorem dX8_copy_168 : decode cX8_copy 168 = .ok (.bipush 40, 2) := by decide +kernel
theorem dX8_copy_170 : decode cX8_copy 170 = .ok (.iload_n 3, 1) := by decide +kernel
theorem dX8_copy_171 : decode cX8_copy 171 = .ok (.imul, 1) := by decide +kernel
theorem dX8_copy_172 : decode cX8_copy 172 = .ok (.iload 4, 2) := by decide +kernel
theorem dX8_copy_174 : decode cX8_copy 174 = .ok (.iadd, 1) := by decide +kernel
theorem dX8_copy_175 : decode cX8_copy 175 = .ok (.iload 6, 2) := by decide +kernel
theorem dX8_copy_177 : decode cX8_copy 177 = .ok (.iadd, 1) := by decide +kernel
theorem dX8_copy_178 : decode cX8_copy 178 = .ok (.aload_n 0, 1) := by decide +kernel
theorem dX8_copy_179 : decode cX8_copy 179 = .ok (.getfield 41, 3) := by decide +kernel
theorem dX8_copy_182 : decode cX8_copy 182 = .ok (.iload 6, 2) := by decide +kernel
theorem dX8_copy_184 : decode cX8_copy 184 = .ok (.laload, 1) := by decide +kernel
theorem dX8_copy_185 : decode cX8_copy 185 = .ok (.lastore, 1) := by decide +kernel
theorem dX8_copy_186 : decode cX8_copy 186 = .ok (.iinc 6 1, 3) := by decide +kernel
theorem dX8_copy_189 : decode cX8_copy 189 = .ok (.goto (-32), 3) := by decide +kernel
theorem dX8_copy_192 : decode cX8_copy 192 = .ok (.iload 5, 2) := by decide +kernel
theorem dX8_copy_194 : decode cX8_copy 194 = .ok (.ireturn, 1) := by decide +kernel
theorem dX8_wrongFlue_0 : decode cX8_wrongFlue 0 = .ok (.aload_n 0, 1) := by decide +kernel
theorem dX8_wrongFlue_1 : decode cX8_wrongFlue 1 = .ok (.iload_n 1, 1) := by decide +kernel
theorem dX8_wrongFlue_2 : decode cX8_wrongFlue 2 = .ok (.invokevirtual 310, 3) := by decide +kernel
theorem dX8_wrongFlue_5 : decode cX8_wrongFlue 5 = .ok (.istore_n 3, 1) := by decide +kernel
theorem dX8_wrongFlue_6 : decode cX8_wrongFlue 6 = .ok (.iload_n 3, 1) := by decide +kernel
theorem dX8_wrongFlue_7 : decode cX8_wrongFlue 7 = .ok (.ifCond .eq 7, 3) := by decide +kernel
theorem dX8_wrongFlue_10 : decode cX8_wrongFlue 10 = .ok (.iload_n 3, 1) := by decide +kernel
theorem dX8_wrongFlue_11 : decode cX8_wrongFlue 11 = .ok (.goto 17, 3) := by decide +kernel
theorem dX8_wrongFlue_14 : decode cX8_wrongFlue 14 = .ok (.aload_n 0, 1) := by decide +kernel
theorem dX8_wrongFlue_15 : decode cX8_wrongFlue 15 = .ok (.iload_n 2, 1) := by decide +kernel
theorem dX8_wrongFlue_16 : decode cX8_wrongFlue 16 = .ok (.invokevirtual 91, 3) := by decide +kernel
theorem dX8_wrongFlue_19 : decode cX8_wrongFlue 19 = .ok (.ifCond .eq 7, 3) := by decide +kernel
theorem dX8_wrongFlue_22 : decode cX8_wrongFlue 22 = .ok (.iconst 0, 1) := by decide +kernel
theorem dX8_wrongFlue_23 : decode cX8_wrongFlue 23 = .ok (.goto 5, 3) := by decide +kernel
theorem dX8_wrongFlue_26 : decode cX8_wrongFlue 26 = .ok (.ldc 44, 2) := by decide +kernel
theorem dX8_wrongFlue_28 : decode cX8_wrongFlue 28 = .ok (.ireturn, 1) := by decide +kernel
theorem dX8_lays_0 : decode cX8_lays 0 = .ok (.aload_n 0, 1) := by decide +kernel
theorem dX8_lays_1 : decode cX8_lays 1 = .ok (.iload_n 1, 1) := by decide +kernel
theorem dX8_lays_2 : decode cX8_lays 2 = .ok (.iload_n 2, 1) := by decide +kernel
theorem dX8_lays_3 : decode cX8_lays 3 = .ok (.invokevirtual 317, 3) := by decide +kernel
theorem dX8_lays_6 : decode cX8_lays 6 = .ok (.istore_n 3, 1) := by decide +kernel
theorem dX8_lays_7 : decode cX8_lays 7 = .ok (.iload_n 3, 1) := by decide +kernel
theorem dX8_lays_8 : decode cX8_lays 8 = .ok (.ifCond .eq 9, 3) := by decide +kernel
theorem dX8_lays_11 : decode cX8_lays 11 = .ok (.aload_n 0, 1) := by decide +kernel
theorem dX8_lays_12 : decode cX8_lays 12 = .ok (.iload_n 3, 1) := by decide +kernel
theorem dX8_lays_13 : decode cX8_lays 13 = .ok (.invokevirtual 67, 3) := by decide +kernel
theorem dX8_lays_16 : decode cX8_lays 16 = .ok (.ireturn, 1) := by decide +kernel
theorem dX8_lays_17 : decode cX8_lays 17 = .ok (.iconst 0, 1) := by decide +kernel
theorem dX8_lays_18 : decode cX8_lays 18 = .ok (.istore 4, 2) := by decide +kernel
theorem dX8_lays_20 : decode cX8_lays 20 = .ok (.iconst 0, 1) := by decide +kernel
theorem dX8_lays_21 : decode cX8_lays 21 = .ok (.istore 5, 2) := by decide +kernel
theorem dX8_lays_23 : decode cX8_lays 23 = .ok (.iload 5, 2) := by decide +kernel
theorem dX8_lays_25 : decode cX8_lays 25 = .ok (.aload_n 0, 1) := by decide +kernel
theorem dX8_lays_26 : decode cX8_lays 26 = .ok (.getfield 34, 3) := by decide +kernel
theorem dX8_lays_29 : decode cX8_lays 29 = .ok (.iload_n 1, 1) := by decide +kernel
theorem dX8_lays_30 : decode cX8_lays 30 = .ok (.iaload, 1) := by decide +kernel
theorem dX8_lays_31 : decode cX8_lays 31 = .ok (.if_icmp .ge 67, 3) := by decide +kernel
theorem dX8_lays_34 : decode cX8_lays 34 = .ok (.aload_n 0, 1) := by decide +kernel
theorem dX8_lays_35 : decode cX8_lays 35 = .ok (.getfield 37, 3) := by decide +kernel
theorem dX8_lays_38 : decode cX8_lays 38 = .ok (.bipush 40, 2) := by decide +kernel
theorem dX8_lays_40 : decode cX8_lays 40 = .ok (.iload_n 1, 1) := by decide +kernel
theorem dX8_lays_41 : decode cX8_lays 41 = .ok (.imul, 1) := by decide +kernel
theorem dX8_lays_42 : decode cX8_lays 42 = .ok (.iload 5, 2) := by decide +kernel
theorem dX8_lays_44 : decode cX8_lays 44 = .ok (.iadd, 1) := by decide +kernel
theorem dX8_lays_45 : decode cX8_lays 45 = .ok (.laload, 1) := by decide +kernel
theorem dX8_lays_46 : decode cX8_lays 46 = .ok (.lconst 0, 1) := by decide +kernel
theorem dX8_lays_47 : decode cX8_lays 47 = .ok (.ldc2_w 53, 3) := by decide +kernel
theorem dX8_lays_50 : decode cX8_lays 50 = .ok (.invokestatic 45, 3) := by decide +kernel
theorem dX8_lays_53 : decode cX8_lays 53 = .ok (.istore 6, 2) := by decide +kernel
theorem dX8_lays_55 : decode cX8_lays 55 = .ok (.iload 4, 2) := by decide +kernel
theorem dX8_lays_57 : decode cX8_lays 57 = .ok (.iload 6, 2) := by decide +kernel
theorem dX8_lays_59 : decode cX8_lays 59 = .ok (.ifCond .eq 29, 3) := by decide +kernel
theorem dX8_lays_62 : decode cX8_lays 62 = .ok (.aload_n 0, 1) := by decide +kernel
theorem dX8_lays_63 : decode cX8_lays 63 = .ok (.iload_n 2, 1) := by decide +kernel
theorem dX8_lays_64 : decode cX8_lays 64 = .ok (.aload_n 0, 1) := by decide +kernel
theorem dX8_lays_65 : decode cX8_lays 65 = .ok (.getfield 37, 3) := by decide +kernel
theorem dX8_lays_68 : decode cX8_lays 68 = .ok (.bipush 40, 2) := by decide +kernel
theorem dX8_lays_70 : decode cX8_lays 70 = .ok (.iload_n 1, 1) := by decide +kernel
theorem dX8_lays_71 : decode cX8_lays 71 = .ok (.imul, 1) := by decide +kernel
theorem dX8_lays_72 : decode cX8_lays 72 = .ok (.iload 5, 2) := by decide +kernel
theorem dX8_lays_74 : decode cX8_lays 74 = .ok (.iadd, 1) := by decide +kernel
theorem dX8_lays_75 : decode cX8_lays 75 = .ok (.laload, 1) := by decide +kernel
theorem dX8_lays_76 : decode cX8_lays 76 = .ok (.l2i, 1) := by decide +kernel
theorem dX8_lays_77 : decode cX8_lays 77 = .ok (.iconst 5, 1) := by decide +kernel
theorem dX8_lays_78 : decode cX8_lays 78 = .ok (.invokevirtual 141, 3) := by decide +kernel
theorem dX8_lays_81 : decode cX8_lays 81 = .ok (.ifCond .lt 7, 3) := by decide +kernel
theorem dX8_lays_84 : decode cX8_lays 84 = .ok (.iconst 1, 1) := by decide +kernel
theorem dX8_lays_85 : decode cX8_lays 85 = .ok (.goto 4, 3) := by decide +kernel
theorem dX8_lays_88 : decode cX8_lays 88 = .ok (.iconst 0, 1) := by decide +kernel
theorem dX8_lays_89 : decode cX8_lays 89 = .ok (.iadd, 1) := by decide +kernel
theorem dX8_lays_90 : decode cX8_lays 90 = .ok (.istore 4, 2) := by decide +kernel
theorem dX8_lays_92 : decode cX8_lays 92 = .ok (.iinc 5 1, 3) := by decide +kernel
theorem dX8_lays_95 : decode cX8_lays 95 = .ok (.goto (-72), 3) := by decide +kernel
theorem dX8_lays_98 : decode cX8_lays 98 = .ok (.iload 4, 2) := by decide +kernel
theorem dX8_lays_100 : decode cX8_lays 100 = .ok (.ireturn, 1) := by decide +kernel
theorem dX8_book_0 : decode cX8_book 0 = .ok (.aload_n 0, 1) := by decide +kernel
theorem dX8_book_1 : decode cX8_book 1 = .ok (.iload_n 1, 1) := by decide +kernel
theorem dX8_book_2 : decode cX8_book 2 = .ok (.iload_n 2, 1) := by decide +kernel
theorem dX8_book_3 : decode cX8_book 3 = .ok (.invokevirtual 317, 3) := by decide +kernel
theorem dX8_book_6 : decode cX8_book 6 = .ok (.istore_n 3, 1) := by decide +kernel
theorem dX8_book_7 : decode cX8_book 7 = .ok (.iload_n 3, 1) := by decide +kernel
theorem dX8_book_8 : decode cX8_book 8 = .ok (.ifCond .eq 9, 3) := by decide +kernel
theorem dX8_book_11 : decode cX8_book 11 = .ok (.aload_n 0, 1) := by decide +kernel
theorem dX8_book_12 : decode cX8_book 12 = .ok (.iload_n 3, 1) := by decide +kernel
theorem dX8_book_13 : decode cX8_book 13 = .ok (.invokevirtual 67, 3) := by decide +kernel
theorem dX8_book_16 : decode cX8_book 16 = .ok (.ireturn, 1) := by decide +kernel
theorem dX8_book_17 : decode cX8_book 17 = .ok (.aload_n 0, 1) := by decide +kernel
theorem dX8_book_18 : decode cX8_book 18 = .ok (.iload_n 2, 1) := by decide +kernel
theorem dX8_book_19 : decode cX8_book 19 = .ok (.bipush 7, 2) := by decide +kernel
theorem dX8_book_21 : decode cX8_book 21 = .ok (.bipush 9, 2) := by decide +kernel
theorem dX8_book_23 : decode cX8_book 23 = .ok (.invokevirtual 174, 3) := by decide +kernel
theorem dX8_book_26 : decode cX8_book 26 = .ok (.iconst 0, 1) := by decide +kernel
theorem dX8_book_27 : decode cX8_book 27 = .ok (.istore 4, 2) := by decide +kernel
theorem dX8_book_29 : decode cX8_book 29 = .ok (.iload 4, 2) := by decide +kernel
theorem dX8_book_31 : decode cX8_book 31 = .ok (.aload_n 0, 1) := by decide +kernel
theorem dX8_book_32 : decode cX8_book 32 = .ok (.getfield 34, 3) := by decide +kernel
theorem dX8_book_35 : decode cX8_book 35 = .ok (.iload_n 1, 1) := by decide +kernel
theorem dX8_book_36 : decode cX8_book 36 = .ok (.iaload, 1) := by decide +kernel
theorem dX8_book_37 : decode cX8_book 37 = .ok (.if_icmp .ge 44, 3) := by decide +kernel
theorem dX8_book_40 : decode cX8_book 40 = .ok (.aload_n 0, 1) := by decide +kernel
theorem dX8_book_41 : decode cX8_book 41 = .ok (.getfield 37, 3) := by decide +kernel
theorem dX8_book_44 : decode cX8_book 44 = .ok (.bipush 40, 2) := by decide +kernel
theorem dX8_book_46 : decode cX8_book 46 = .ok (.iload_n 1, 1) := by decide +kernel
theorem dX8_book_47 : decode cX8_book 47 = .ok (.imul, 1) := by decide +kernel
theorem dX8_book_48 : decode cX8_book 48 = .ok (.iload 4, 2) := by decide +kernel
theorem dX8_book_50 : decode cX8_book 50 = .ok (.iadd, 1) := by decide +kernel
theorem dX8_book_51 : decode cX8_book 51 = .ok (.iload 4, 2) := by decide +kernel
theorem dX8_book_53 : decode cX8_book 53 = .ok (.aload_n 0, 1) := by decide +kernel
theorem dX8_book_54 : decode cX8_book 54 = .ok (.getfield 167, 3) := by decide +kernel
theorem dX8_book_57 : decode cX8_book 57 = .ok (.if_icmp .ge 14, 3) := by decide +kernel
theorem dX8_book_60 : decode cX8_book 60 = .ok (.aload_n 0, 1) := by decide +kernel
theorem dX8_book_61 : decode cX8_book 61 = .ok (.getfield 25, 3) := by decide +kernel
theorem dX8_book_64 : decode cX8_book 64 = .ok (.iload 4, 2) := by decide +kernel
theorem dX8_book_66 : decode cX8_book 66 = .ok (.iaload, 1) := by decide +kernel
theorem dX8_book_67 : decode cX8_book 67 = .ok (.i2l, 1) := by decide +kernel
theorem dX8_book_68 : decode cX8_book 68 = .ok (.goto 6, 3) := by decide +kernel
theorem dX8_book_71 : decode cX8_book 71 = .ok (.ldc2_w 320, 3) := by decide +kernel
theorem dX8_book_74 : decode cX8_book 74 = .ok (.lastore, 1) := by decide +kernel
theorem dX8_book_75 : decode cX8_book 75 = .ok (.iinc 4 1, 3) := by decide +kernel
theorem dX8_book_78 : decode cX8_book 78 = .ok (.goto (-49), 3) := by decide +kernel
theorem dX8_book_81 : decode cX8_book 81 = .ok (.aload_n 0, 1) := by decide +kernel
theorem dX8_book_82 : decode cX8_book 82 = .ok (.getfield 167, 3) := by decide +kernel
theorem dX8_book_85 : decode cX8_book 85 = .ok (.ireturn, 1) := by decide +kernel
theorem dX8_isBook_0 : decode cX8_isBook 0 = .ok (.aload_n 0, 1) := by decide +kernel
theorem dX8_isBook_1 : decode cX8_isBook 1 = .ok (.getfield 167, 3) := by decide +kernel
theorem dX8_isBook_4 : decode cX8_isBook 4 = .ok (.aload_n 0, 1) := by decide +kernel
theorem dX8_isBook_5 : decode cX8_isBook 5 = .ok (.getfield 34, 3) := by decide +kernel
theorem dX8_isBook_8 : decode cX8_isBook 8 = .ok (.iload_n 1, 1) := by decide +kernel
theorem dX8_isBook_9 : decode cX8_isBook 9 = .ok (.iaload, 1) := by decide +kernel
theorem dX8_isBook_10 : decode cX8_isBook 10 = .ok (.if_icmp .ne 7, 3) := by decide +kernel
theorem dX8_isBook_13 : decode cX8_isBook 13 = .ok (.iconst 1, 1) := by decide +kernel
theorem dX8_isBook_14 : decode cX8_isBook 14 = .ok (.goto 4, 3) := by decide +kernel
theorem dX8_isBook_17 : decode cX8_isBook 17 = .ok (.iconst 0, 1) := by decide +kernel
theorem dX8_isBook_18 : decode cX8_isBook 18 = .ok (.istore_n 2, 1) := by decide +kernel
theorem dX8_isBook_19 : decode cX8_isBook 19 = .ok (.iconst 0, 1) := by decide +kernel
theorem dX8_isBook_20 : decode cX8_isBook 20 = .ok (.istore_n 3, 1) := by decide +kernel
theorem dX8_isBook_21 : decode cX8_isBook 21 = .ok (.iload_n 3, 1) := by decide +kernel
theorem dX8_isBook_22 : decode cX8_isBook 22 = .ok (.aload_n 0, 1) := by decide +kernel
theorem dX8_isBook_23 : decode cX8_isBook 23 = .ok (.getfield 167, 3) := by decide +kernel
theorem dX8_isBook_26 : decode cX8_isBook 26 = .ok (.if_icmp .ge 41, 3) := by decide +kernel
theorem dX8_isBook_29 : decode cX8_isBook 29 = .ok (.iload_n 2, 1) := by decide +kernel
theorem dX8_isBook_30 : decode cX8_isBook 30 = .ok (.ifCond .eq 37, 3) := by decide +kernel
theorem dX8_isBook_33 : decode cX8_isBook 33 = .ok (.aload_n 0, 1) := by decide +kernel
theorem dX8_isBook_34 : decode cX8_isBook 34 = .ok (.getfield 37, 3) := by decide +kernel
theorem dX8_isBook_37 : decode cX8_isBook 37 = .ok (.bipush 40, 2) := by decide +kernel
theorem dX8_isBook_39 : decode cX8_isBook 39 = .ok (.iload_n 1, 1) := by decide +kernel
theorem dX8_isBook_40 : decode cX8_isBook 40 = .ok (.imul, 1) := by decide +kernel
theorem dX8_isBook_41 : decode cX8_isBook 41 = .ok (.iload_n 3, 1) := by decide +kernel
theorem dX8_isBook_42 : decode cX8_isBook 42 = .ok (.iadd, 1) := by decide +kernel
theorem dX8_isBook_43 : decode cX8_isBook 43 = .ok (.laload, 1) := by decide +kernel
theorem dX8_isBook_44 : decode cX8_isBook 44 = .ok (.aload_n 0, 1) := by decide +kernel
theorem dX8_isBook_45 : decode cX8_isBook 45 = .ok (.getfield 25, 3) := by decide +kernel
theorem dX8_isBook_48 : decode cX8_isBook 48 = .ok (.iload_n 3, 1) := by decide +kernel
theorem dX8_isBook_49 : decode cX8_isBook 49 = .ok (.iaload, 1) := by decide +kernel
theorem dX8_isBook_50 : decode cX8_isBook 50 = .ok (.i2l, 1) := by decide +kernel
theorem dX8_isBook_51 : decode cX8_isBook 51 = .ok (.lcmp, 1) := by decide +kernel
theorem dX8_isBook_52 : decode cX8_isBook 52 = .ok (.ifCond .ne 7, 3) := by decide +kernel
theorem dX8_isBook_55 : decode cX8_isBook 55 = .ok (.iconst 1, 1) := by decide +kernel
theorem dX8_isBook_56 : decode cX8_isBook 56 = .ok (.goto 4, 3) := by decide +kernel
theorem dX8_isBook_59 : decode cX8_isBook 59 = .ok (.iconst 0, 1) := by decide +kernel
theorem dX8_isBook_60 : decode cX8_isBook 60 = .ok (.istore_n 2, 1) := by decide +kernel
theorem dX8_isBook_61 : decode cX8_isBook 61 = .ok (.iinc 3 1, 3) := by decide +kernel
theorem dX8_isBook_64 : decode cX8_isBook 64 = .ok (.goto (-43), 3) := by decide +kernel
theorem dX8_isBook_67 : decode cX8_isBook 67 = .ok (.iload_n 2, 1) := by decide +kernel
theorem dX8_isBook_68 : decode cX8_isBook 68 = .ok (.ireturn, 1) := by decide +kernel
theorem dX8_read_0 : decode cX8_read 0 = .ok (.aload_n 0, 1) := by decide +kernel
theorem dX8_read_1 : decode cX8_read 1 = .ok (.iload_n 1, 1) := by decide +kernel
theorem dX8_read_2 : decode cX8_read 2 = .ok (.iload_n 2, 1) := by decide +kernel
theorem dX8_read_3 : decode cX8_read 3 = .ok (.invokevirtual 317, 3) := by decide +kernel
theorem dX8_read_6 : decode cX8_read 6 = .ok (.istore_n 3, 1) := by decide +kernel
theorem dX8_read_7 : decode cX8_read 7 = .ok (.iload_n 3, 1) := by decide +kernel
theorem dX8_read_8 : decode cX8_read 8 = .ok (.ifCond .eq 9, 3) := by decide +kernel
theorem dX8_read_11 : decode cX8_read 11 = .ok (.aload_n 0, 1) := by decide +kernel
theorem dX8_read_12 : decode cX8_read 12 = .ok (.iload_n 3, 1) := by decide +kernel
theorem dX8_read_13 : decode cX8_read 13 = .ok (.invokevirtual 67, 3) := by decide +kernel
theorem dX8_read_16 : decode cX8_read 16 = .ok (.ireturn, 1) := by decide +kernel
theorem dX8_read_17 : decode cX8_read 17 = .ok (.iconst 0, 1) := by decide +kernel
theorem dX8_read_18 : decode cX8_read 18 = .ok (.istore 4, 2) := by decide +kernel
theorem dX8_read_20 : decode cX8_read 20 = .ok (.iconst 0, 1) := by decide +kernel
theorem dX8_read_21 : decode cX8_read 21 = .ok (.istore 5, 2) := by decide +kernel
theorem dX8_read_23 : decode cX8_read 23 = .ok (.iload 5, 2) := by decide +kernel
theorem dX8_read_25 : decode cX8_read 25 = .ok (.bipush 72, 2) := by decide +kernel
theorem dX8_read_27 : decode cX8_read 27 = .ok (.if_icmp .ge 44, 3) := by decide +kernel
theorem dX8_read_30 : decode cX8_read 30 = .ok (.aload_n 0, 1) := by decide +kernel
theorem dX8_read_31 : decode cX8_read 31 = .ok (.iload_n 2, 1) := by decide +kernel
theorem dX8_read_32 : decode cX8_read 32 = .ok (.iload 5, 2) := by decide +kernel
theorem dX8_read_34 : decode cX8_read 34 = .ok (.bipush 9, 2) := by decide +kernel
theorem dX8_read_36 : decode cX8_read 36 = .ok (.idiv, 1) := by decide +kernel
theorem dX8_read_37 : decode cX8_read 37 = .ok (.iconst 1, 1) := by decide +kernel
theorem dX8_read_38 : decode cX8_read 38 = .ok (.iload 5, 2) := by decide +kernel
theorem dX8_read_40 : decode cX8_read 40 = .ok (.bipush 9, 2) := by decide +kernel
theorem dX8_read_42 : decode cX8_read 42 = .ok (.irem, 1) := by decide +kernel
theorem dX8_read_43 : decode cX8_read 43 = .ok (.iadd, 1) := by decide +kernel
theorem dX8_read_44 : decode cX8_read 44 = .ok (.invokevirtual 174, 3) := by decide +kernel
theorem dX8_read_47 : decode cX8_read 47 = .ok (.iload 4, 2) := by decide +kernel
theorem dX8_read_49 : decode cX8_read 49 = .ok (.aload_n 0, 1) := by decide +kernel
theorem dX8_read_50 : decode cX8_read 50 = .ok (.iload_n 1, 1) := by decide +kernel
theorem dX8_read_51 : decode cX8_read 51 = .ok (.invokevirtual 322, 3) := by decide +kernel
theorem dX8_read_54 : decode cX8_read 54 = .ok (.ifCond .eq 7, 3) := by decide +kernel
theorem dX8_read_57 : decode cX8_read 57 = .ok (.iconst 1, 1) := by decide +kernel
theorem dX8_read_58 : decode cX8_read 58 = .ok (.goto 4, 3) := by decide +kernel
theorem dX8_read_61 : decode cX8_read 61 = .ok (.iconst 0, 1) := by decide +kernel
theorem dX8_read_62 : decode cX8_read 62 = .ok (.iadd, 1) := by decide +kernel
theorem dX8_read_63 : decode cX8_read 63 = .ok (.istore 4, 2) := by decide +kernel
theorem dX8_read_65 : decode cX8_read 65 = .ok (.iinc 5 1, 3) := by decide +kernel
theorem dX8_read_68 : decode cX8_read 68 = .ok (.goto (-45), 3) := by decide +kernel
theorem dX8_read_71 : decode cX8_read 71 = .ok (.iload 4, 2) := by decide +kernel
theorem dX8_read_73 : decode cX8_read 73 = .ok (.ireturn, 1) := by decide +kernel
theorem dX8_image_0 : decode cX8_image 0 = .ok (.iconst 0, 1) := by decide +kernel
theorem dX8_image_1 : decode cX8_image 1 = .ok (.istore_n 1, 1) := by decide +kernel
theorem dX8_image_2 : decode cX8_image 2 = .ok (.iload_n 1, 1) := by decide +kernel
theorem dX8_image_3 : decode cX8_image 3 = .ok (.sipush 633, 3) := by decide +kernel
theorem dX8_image_6 : decode cX8_image 6 = .ok (.if_icmp .ge 21, 3) := by decide +kernel
theorem dX8_image_9 : decode cX8_image 9 = .ok (.aload_n 0, 1) := by decide +kernel
theorem dX8_image_10 : decode cX8_image 10 = .ok (.getfield 13, 3) := by decide +kernel
theorem dX8_image_13 : decode cX8_image 13 = .ok (.iload_n 1, 1) := by decide +kernel
theorem dX8_image_14 : decode cX8_image 14 = .ok (.aload_n 0, 1) := by decide +kernel
theorem dX8_image_15 : decode cX8_image 15 = .ok (.getfield 7, 3) := by decide +kernel
theorem dX8_image_18 : decode cX8_image 18 = .ok (.iload_n 1, 1) := by decide +kernel
theorem dX8_image_19 : decode cX8_image 19 = .ok (.iaload, 1) := by decide +kernel
theorem dX8_image_20 : decode cX8_image 20 = .ok (.iastore, 1) := by decide +kernel
theorem dX8_image_21 : decode cX8_image 21 = .ok (.iinc 1 1, 3) := by decide +kernel
theorem dX8_image_24 : decode cX8_image 24 = .ok (.goto (-22), 3) := by decide +kernel
theorem dX8_image_27 : decode cX8_image 27 = .ok (.aload_n 0, 1) := by decide +kernel
theorem dX8_image_28 : decode cX8_image 28 = .ok (.iconst 1, 1) := by decide +kernel
theorem dX8_image_29 : decode cX8_image 29 = .ok (.putfield 325, 3) := by decide +kernel
theorem dX8_image_32 : decode cX8_image 32 = .ok (.iconst 1, 1) := by decide +kernel
theorem dX8_image_33 : decode cX8_image 33 = .ok (.ireturn, 1) := by decide +kernel
theorem dX8_undo_0 : decode cX8_undo 0 = .ok (.aload_n 0, 1) := by decide +kernel
theorem dX8_undo_1 : decode cX8_undo 1 = .ok (.getfield 325, 3) := by decide +kernel
theorem dX8_undo_4 : decode cX8_undo 4 = .ok (.ifCond .ne 10, 3) := by decide +kernel
theorem dX8_undo_7 : decode cX8_undo 7 = .ok (.aload_n 0, 1) := by decide +kernel
theorem dX8_undo_8 : decode cX8_undo 8 = .ok (.ldc 113, 2) := by decide +kernel
theorem dX8_undo_10 : decode cX8_undo 10 = .ok (.invokevirtual 67, 3) := by decide +kernel
theorem dX8_undo_13 : decode cX8_undo 13 = .ok (.ireturn, 1) := by decide +kernel
theorem dX8_undo_14 : decode cX8_undo 14 = .ok (.iconst 0, 1) := by decide +kernel
theorem dX8_undo_15 : decode cX8_undo 15 = .ok (.istore_n 1, 1) := by decide +kernel
theorem dX8_undo_16 : decode cX8_undo 16 = .ok (.iload_n 1, 1) := by decide +kernel
theorem dX8_undo_17 : decode cX8_undo 17 = .ok (.sipush 633, 3) := by decide +kernel
theorem dX8_undo_20 : decode cX8_undo 20 = .ok (.if_icmp .ge 21, 3) := by decide +kernel
theorem dX8_undo_23 : decode cX8_undo 23 = .ok (.aload_n 0, 1) := by decide +kernel
theorem dX8_undo_24 : decode cX8_undo 24 = .ok (.getfield 7, 3) := by decide +kernel
theorem dX8_undo_27 : decode cX8_undo 27 = .ok (.iload_n 1, 1) := by decide +kernel
theorem dX8_undo_28 : decode cX8_undo 28 = .ok (.aload_n 0, 1) := by decide +kernel
theorem dX8_undo_29 : decode cX8_undo 29 = .ok (.getfield 13, 3) := by decide +kernel
theorem dX8_undo_32 : decode cX8_undo 32 = .ok (.iload_n 1, 1) := by decide +kernel
theorem dX8_undo_33 : decode cX8_undo 33 = .ok (.iaload, 1) := by decide +kernel
theorem dX8_undo_34 : decode cX8_undo 34 = .ok (.iastore, 1) := by decide +kernel
theorem dX8_undo_35 : decode cX8_undo 35 = .ok (.iinc 1 1, 3) := by decide +kernel
theorem dX8_undo_38 : decode cX8_undo 38 = .ok (.goto (-22), 3) := by decide +kernel
theorem dX8_undo_41 : decode cX8_undo 41 = .ok (.aload_n 0, 1) := by decide +kernel
theorem dX8_undo_42 : decode cX8_undo 42 = .ok (.getfield 7, 3) := by decide +kernel
theorem dX8_undo_45 : decode cX8_undo 45 = .ok (.iconst 0, 1) := by decide +kernel
theorem dX8_undo_46 : decode cX8_undo 46 = .ok (.iaload, 1) := by decide +kernel
theorem dX8_undo_47 : decode cX8_undo 47 = .ok (.ireturn, 1) := by decide +kernel
theorem dX8_tear_0 : decode cX8_tear 0 = .ok (.aload_n 0, 1) := by decide +kernel
theorem dX8_tear_1 : decode cX8_tear 1 = .ok (.getfield 325, 3) := by decide +kernel
theorem dX8_tear_4 : decode cX8_tear 4 = .ok (.ifCond .eq 7, 3) := by decide +kernel
theorem dX8_tear_7 : decode cX8_tear 7 = .ok (.iconst 1, 1) := by decide +kernel
theorem dX8_tear_8 : decode cX8_tear 8 = .ok (.goto 4, 3) := by decide +kernel
theorem dX8_tear_11 : decode cX8_tear 11 = .ok (.iconst 0, 1) := by decide +kernel
theorem dX8_tear_12 : decode cX8_tear 12 = .ok (.istore_n 1, 1) := by decide +kernel
theorem dX8_tear_13 : decode cX8_tear 13 = .ok (.aload_n 0, 1) := by decide +kernel
theorem dX8_tear_14 : decode cX8_tear 14 = .ok (.iconst 0, 1) := by decide +kernel
theorem dX8_tear_15 : decode cX8_tear 15 = .ok (.putfield 325, 3) := by decide +kernel
theorem dX8_tear_18 : decode cX8_tear 18 = .ok (.iload_n 1, 1) := by decide +kernel
theorem dX8_tear_19 : decode cX8_tear 19 = .ok (.ireturn, 1) := by decide +kernel
theorem dX8_fullOnes_0 : decode cX8_fullOnes 0 = .ok (.iconst 0, 1) := by decide +kernel
theorem dX8_fullOnes_1 : decode cX8_fullOnes 1 = .ok (.istore_n 1, 1) := by decide +kernel
theorem dX8_fullOnes_2 : decode cX8_fullOnes 2 = .ok (.iconst 0, 1) := by decide +kernel
theorem dX8_fullOnes_3 : decode cX8_fullOnes 3 = .ok (.istore_n 2, 1) := by decide +kernel
theorem dX8_fullOnes_4 : decode cX8_fullOnes 4 = .ok (.iload_n 2, 1) := by decide +kernel
theorem dX8_fullOnes_5 : decode cX8_fullOnes 5 = .ok (.bipush 8, 2) := by decide +kernel
theorem dX8_fullOnes_7 : decode cX8_fullOnes 7 = .ok (.aload_n 0, 1) := by decide +kernel
theorem dX8_fullOnes_8 : decode cX8_fullOnes 8 = .ok (.getfield 7, 3) := by decide +kernel
theorem dX8_fullOnes_11 : decode cX8_fullOnes 11 = .ok (.iconst 0, 1) := by decide +kernel
theorem dX8_fullOnes_12 : decode cX8_fullOnes 12 = .ok (.iaload, 1) := by decide +kernel
theorem dX8_fullOnes_13 : decode cX8_fullOnes 13 = .ok (.imul, 1) := by decide +kernel
theorem dX8_fullOnes_14 : decode cX8_fullOnes 14 = .ok (.if_icmp .ge 32, 3) := by decide +kernel
theorem dX8_fullOnes_17 : decode cX8_fullOnes 17 = .ok (.iload_n 1, 1) := by decide +kernel
theorem dX8_fullOnes_18 : decode cX8_fullOnes 18 = .ok (.aload_n 0, 1) := by decide +kernel
theorem dX8_fullOnes_19 : decode cX8_fullOnes 19 = .ok (.iload_n 2, 1) := by decide +kernel
theorem dX8_fullOnes_20 : decode cX8_fullOnes 20 = .ok (.bipush 8, 2) := by decide +kernel
theorem dX8_fullOnes_22 : decode cX8_fullOnes 22 = .ok (.idiv, 1) := by decide +kernel
theorem dX8_fullOnes_23 : decode cX8_fullOnes 23 = .ok (.iload_n 2, 1) := by decide +kernel
theorem dX8_fullOnes_24 : decode cX8_fullOnes 24 = .ok (.bipush 8, 2) := by decide +kernel
theorem dX8_fullOnes_26 : decode cX8_fullOnes 26 = .ok (.irem, 1) := by decide +kernel
theorem dX8_fullOnes_27 : decode cX8_fullOnes 27 = .ok (.invokevirtual 131, 3) := by decide +kernel
theorem dX8_fullOnes_30 : decode cX8_fullOnes 30 = .ok (.ifCond .eq 7, 3) := by decide +kernel
theorem dX8_fullOnes_33 : decode cX8_fullOnes 33 = .ok (.iconst 1, 1) := by decide +kernel
theorem dX8_fullOnes_34 : decode cX8_fullOnes 34 = .ok (.goto 4, 3) := by decide +kernel
theorem dX8_fullOnes_37 : decode cX8_fullOnes 37 = .ok (.iconst 0, 1) := by decide +kernel
theorem dX8_fullOnes_38 : decode cX8_fullOnes 38 = .ok (.iadd, 1) := by decide +kernel
theorem dX8_fullOnes_39 : decode cX8_fullOnes 39 = .ok (.istore_n 1, 1) := by decide +kernel
theorem dX8_fullOnes_40 : decode cX8_fullOnes 40 = .ok (.iinc 2 1, 3) := by decide +kernel
theorem dX8_fullOnes_43 : decode cX8_fullOnes 43 = .ok (.goto (-39), 3) := by decide +kernel
theorem dX8_fullOnes_46 : decode cX8_fullOnes 46 = .ok (.iload_n 1, 1) := by decide +kernel
theorem dX8_fullOnes_47 : decode cX8_fullOnes 47 = .ok (.ireturn, 1) := by decide +kernel
theorem dX8_count_0 : decode cX8_count 0 = .ok (.iload_n 1, 1) := by decide +kernel
theorem dX8_count_1 : decode cX8_count 1 = .ok (.tableswitch 54 0 3 #[31, 38, 43, 49], 31) := by decide +kernel
theorem dX8_count_32 : decode cX8_count 32 = .ok (.aload_n 0, 1) := by decide +kernel
theorem dX8_count_33 : decode cX8_count 33 = .ok (.getfield 7, 3) := by decide +kernel
theorem dX8_count_36 : decode cX8_count 36 = .ok (.iconst 0, 1) := by decide +kernel
theorem dX8_count_37 : decode cX8_count 37 = .ok (.iaload, 1) := by decide +kernel
theorem dX8_count_38 : decode cX8_count 38 = .ok (.ireturn, 1) := by decide +kernel
theorem dX8_count_39 : decode cX8_count 39 = .ok (.aload_n 0, 1) := by decide +kernel
theorem dX8_count_40 : decode cX8_count 40 = .ok (.getfield 204, 3) := by decide +kernel
theorem dX8_count_43 : decode cX8_count 43 = .ok (.ireturn, 1) := by decide +kernel
theorem dX8_count_44 : decode cX8_count 44 = .ok (.aload_n 0, 1) := by decide +kernel
theorem dX8_count_45 : decode cX8_count 45 = .ok (.iconst 0, 1) := by decide +kernel
theorem dX8_count_46 : decode cX8_count 46 = .ok (.invokevirtual 154, 3) := by decide +kernel
theorem dX8_count_49 : decode cX8_count 49 = .ok (.ireturn, 1) := by decide +kernel
theorem dX8_count_50 : decode cX8_count 50 = .ok (.aload_n 0, 1) := by decide +kernel
theorem dX8_count_51 : decode cX8_count 51 = .ok (.invokevirtual 328, 3) := by decide +kernel
theorem dX8_count_54 : decode cX8_count 54 = .ok (.ireturn, 1) := by decide +kernel
theorem dX8_count_55 : decode cX8_count 55 = .ok (.aload_n 0, 1) := by decide +kernel
theorem dX8_count_56 : decode cX8_count 56 = .ok (.ldc 44, 2) := by decide +kernel
theorem dX8_count_58 : decode cX8_count 58 = .ok (.invokevirtual 67, 3) := by decide +kernel
theorem dX8_count_61 : decode cX8_count 61 = .ok (.ireturn, 1) := by decide +kernel
theorem dX8_status_0 : decode cX8_status 0 = .ok (.iload_n 1, 1) := by decide +kernel
theorem dX8_status_1 : decode cX8_status 1 = .ok (.i2l, 1) := by decide +kernel
theorem dX8_status_2 : decode cX8_status 2 = .ok (.ldc2_w 320, 3) := by decide +kernel
theorem dX8_status_5 : decode cX8_status 5 = .ok (.ldc2_w 331, 3) := by decide +kernel
theorem dX8_status_8 : decode cX8_status 8 = .ok (.invokestatic 45, 3) := by decide +kernel
theorem dX8_status_11 : decode cX8_status 11 = .ok (.ifCond .ne 10, 3) := by decide +kernel
theorem dX8_status_14 : decode cX8_status 14 = .ok (.aload_n 0, 1) := by decide +kernel
theorem dX8_status_15 : decode cX8_status 15 = .ok (.ldc 44, 2) := by decide +kernel
theorem dX8_status_17 : decode cX8_status 17 = .ok (.invokevirtual 67, 3) := by decide +kernel
theorem dX8_status_20 : decode cX8_status 20 = .ok (.ireturn, 1) := by decide +kernel
theorem dX8_status_21 : decode cX8_status 21 = .ok (.iconst 0, 1) := by decide +kernel
theorem dX8_status_22 : decode cX8_status 22 = .ok (.istore_n 2, 1) := by decide +kernel
theorem dX8_status_23 : decode cX8_status 23 = .ok (.iconst 0, 1) := by decide +kernel
theorem dX8_status_24 : decode cX8_status 24 = .ok (.istore_n 3, 1) := by decide +kernel
theorem dX8_status_25 : decode cX8_status 25 = .ok (.iload_n 3, 1) := by decide +kernel
theorem dX8_status_26 : decode cX8_status 26 = .ok (.bipush 7, 2) := by decide +kernel
theorem dX8_status_28 : decode cX8_status 28 = .ok (.if_icmp .ge 31, 3) := by decide +kernel
theorem dX8_status_31 : decode cX8_status 31 = .ok (.iload_n 2, 1) := by decide +kernel
theorem dX8_status_32 : decode cX8_status 32 = .ok (.iload_n 1, 1) := by decide +kernel
theorem dX8_status_33 : decode cX8_status 33 = .ok (.ifCond .lt 8, 3) := by decide +kernel
theorem dX8_status_36 : decode cX8_status 36 = .ok (.iload_n 3, 1) := by decide +kernel
theorem dX8_status_37 : decode cX8_status 37 = .ok (.iload_n 1, 1) := by decide +kernel
theorem dX8_status_38 : decode cX8_status 38 = .ok (.if_icmp .ne 12, 3) := by decide +kernel
theorem dX8_status_41 : decode cX8_status 41 = .ok (.aload_n 0, 1) := by decide +kernel
theorem dX8_status_42 : decode cX8_status 42 = .ok (.getfield 22, 3) := by decide +kernel
theorem dX8_status_45 : decode cX8_status 45 = .ok (.iload_n 3, 1) := by decide +kernel
theorem dX8_status_46 : decode cX8_status 46 = .ok (.iaload, 1) := by decide +kernel
theorem dX8_status_47 : decode cX8_status 47 = .ok (.goto 4, 3) := by decide +kernel
theorem dX8_status_50 : decode cX8_status 50 = .ok (.iconst 0, 1) := by decide +kernel
theorem dX8_status_51 : decode cX8_status 51 = .ok (.iadd, 1) := by decide +kernel
theorem dX8_status_52 : decode cX8_status 52 = .ok (.istore_n 2, 1) := by decide +kernel
theorem dX8_status_53 : decode cX8_status 53 = .ok (.iinc 3 1, 3) := by decide +kernel
theorem dX8_status_56 : decode cX8_status 56 = .ok (.goto (-31), 3) := by decide +kernel
theorem dX8_status_59 : decode cX8_status 59 = .ok (.iload_n 2, 1) := by decide +kernel
theorem dX8_status_60 : decode cX8_status 60 = .ok (.ireturn, 1) := by decide +kernel
