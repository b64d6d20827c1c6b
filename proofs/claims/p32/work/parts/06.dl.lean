theorem dL_cell_0 : decode cL_cell 0 = .ok (.iload_n 1, 1) := by decide +kernel
theorem dL_cell_1 : decode cL_cell 1 = .ok (.aload_n 0, 1) := by decide +kernel
theorem dL_cell_2 : decode cL_cell 2 = .ok (.arraylength, 1) := by decide +kernel
theorem dL_cell_3 : decode cL_cell 3 = .ok (.if_icmp .ge 9, 3) := by decide +kernel
theorem dL_cell_6 : decode cL_cell 6 = .ok (.aload_n 0, 1) := by decide +kernel
theorem dL_cell_7 : decode cL_cell 7 = .ok (.iload_n 1, 1) := by decide +kernel
theorem dL_cell_8 : decode cL_cell 8 = .ok (.iaload, 1) := by decide +kernel
theorem dL_cell_9 : decode cL_cell 9 = .ok (.goto 17, 3) := by decide +kernel
theorem dL_cell_12 : decode cL_cell 12 = .ok (.sipush 7919, 3) := by decide +kernel
theorem dL_cell_15 : decode cL_cell 15 = .ok (.iload_n 1, 1) := by decide +kernel
theorem dL_cell_16 : decode cL_cell 16 = .ok (.bipush 73, 2) := by decide +kernel
theorem dL_cell_18 : decode cL_cell 18 = .ok (.iadd, 1) := by decide +kernel
theorem dL_cell_19 : decode cL_cell 19 = .ok (.imul, 1) := by decide +kernel
theorem dL_cell_20 : decode cL_cell 20 = .ok (.iload_n 1, 1) := by decide +kernel
theorem dL_cell_21 : decode cL_cell 21 = .ok (.sipush 2239, 3) := by decide +kernel
theorem dL_cell_24 : decode cL_cell 24 = .ok (.iadd, 1) := by decide +kernel
theorem dL_cell_25 : decode cL_cell 25 = .ok (.imul, 1) := by decide +kernel
theorem dL_cell_26 : decode cL_cell 26 = .ok (.ireturn, 1) := by decide +kernel
theorem dL_low_0 : decode cL_low 0 = .ok (.iload_n 0, 1) := by decide +kernel
theorem dL_low_1 : decode cL_low 1 = .ok (.ldc 7, 2) := by decide +kernel
theorem dL_low_3 : decode cL_low 3 = .ok (.iand, 1) := by decide +kernel
theorem dL_low_4 : decode cL_low 4 = .ok (.iload_n 1, 1) := by decide +kernel
theorem dL_low_5 : decode cL_low 5 = .ok (.irem, 1) := by decide +kernel
theorem dL_low_6 : decode cL_low 6 = .ok (.ireturn, 1) := by decide +kernel
theorem dL_asks_0 : decode cL_asks 0 = .ok (.iload_n 1, 1) := by decide +kernel
theorem dL_asks_1 : decode cL_asks 1 = .ok (.ifCond .ne 14, 3) := by decide +kernel
theorem dL_asks_4 : decode cL_asks 4 = .ok (.aload_n 0, 1) := by decide +kernel
theorem dL_asks_5 : decode cL_asks 5 = .ok (.iload_n 2, 1) := by decide +kernel
theorem dL_asks_6 : decode cL_asks 6 = .ok (.iload_n 3, 1) := by decide +kernel
theorem dL_asks_7 : decode cL_asks 7 = .ok (.iload 4, 2) := by decide +kernel
theorem dL_asks_9 : decode cL_asks 9 = .ok (.invokevirtual 8, 3) := by decide +kernel
theorem dL_asks_12 : decode cL_asks 12 = .ok (.goto 49, 3) := by decide +kernel
theorem dL_asks_15 : decode cL_asks 15 = .ok (.iload_n 1, 1) := by decide +kernel
theorem dL_asks_16 : decode cL_asks 16 = .ok (.iconst 1, 1) := by decide +kernel
theorem dL_asks_17 : decode cL_asks 17 = .ok (.if_icmp .ne 12, 3) := by decide +kernel
theorem dL_asks_20 : decode cL_asks 20 = .ok (.aload_n 0, 1) := by decide +kernel
theorem dL_asks_21 : decode cL_asks 21 = .ok (.iload_n 2, 1) := by decide +kernel
theorem dL_asks_22 : decode cL_asks 22 = .ok (.iload_n 3, 1) := by decide +kernel
theorem dL_asks_23 : decode cL_asks 23 = .ok (.invokevirtual 14, 3) := by decide +kernel
theorem dL_asks_26 : decode cL_asks 26 = .ok (.goto 35, 3) := by decide +kernel
theorem dL_asks_29 : decode cL_asks 29 = .ok (.iload_n 1, 1) := by decide +kernel
theorem dL_asks_30 : decode cL_asks 30 = .ok (.iconst 2, 1) := by decide +kernel
theorem dL_asks_31 : decode cL_asks 31 = .ok (.if_icmp .ne 12, 3) := by decide +kernel
theorem dL_asks_34 : decode cL_asks 34 = .ok (.aload_n 0, 1) := by decide +kernel
theorem dL_asks_35 : decode cL_asks 35 = .ok (.iload_n 2, 1) := by decide +kernel
theorem dL_asks_36 : decode cL_asks 36 = .ok (.iload_n 3, 1) := by decide +kernel
theorem dL_asks_37 : decode cL_asks 37 = .ok (.invokevirtual 18, 3) := by decide +kernel
theorem dL_asks_40 : decode cL_asks 40 = .ok (.goto 21, 3) := by decide +kernel
theorem dL_asks_43 : decode cL_asks 43 = .ok (.iload_n 1, 1) := by decide +kernel
theorem dL_asks_44 : decode cL_asks 44 = .ok (.iconst 3, 1) := by decide +kernel
theorem dL_asks_45 : decode cL_asks 45 = .ok (.if_icmp .ne 11, 3) := by decide +kernel
theorem dL_asks_48 : decode cL_asks 48 = .ok (.aload_n 0, 1) := by decide +kernel
theorem dL_asks_49 : decode cL_asks 49 = .ok (.iload_n 2, 1) := by decide +kernel
theorem dL_asks_50 : decode cL_asks 50 = .ok (.invokevirtual 21, 3) := by decide +kernel
theorem dL_asks_53 : decode cL_asks 53 = .ok (.goto 8, 3) := by decide +kernel
theorem dL_asks_56 : decode cL_asks 56 = .ok (.aload_n 0, 1) := by decide +kernel
theorem dL_asks_57 : decode cL_asks 57 = .ok (.iload_n 2, 1) := by decide +kernel
theorem dL_asks_58 : decode cL_asks 58 = .ok (.invokevirtual 25, 3) := by decide +kernel
theorem dL_asks_61 : decode cL_asks 61 = .ok (.ireturn, 1) := by decide +kernel
theorem dL_asks_62 : decode cL_asks 62 = .ok (.astore 5, 2) := by decide +kernel
theorem dL_asks_64 : decode cL_asks 64 = .ok (.ldc 30, 2) := by decide +kernel
theorem dL_asks_66 : decode cL_asks 66 = .ok (.ireturn, 1) := by decide +kernel
theorem dL_asks_67 : decode cL_asks 67 = .ok (.astore 5, 2) := by decide +kernel
theorem dL_asks_69 : decode cL_asks 69 = .ok (.ldc 30, 2) := by decide +kernel
theorem dL_asks_71 : decode cL_asks 71 = .ok (.ireturn, 1) := by decide +kernel
theorem dL_holdAt_0 : decode cL_holdAt 0 = .ok (.aload_n 0, 1) := by decide +kernel
theorem dL_holdAt_1 : decode cL_holdAt 1 = .ok (.iload_n 1, 1) := by decide +kernel
theorem dL_holdAt_2 : decode cL_holdAt 2 = .ok (.iload_n 2, 1) := by decide +kernel
theorem dL_holdAt_3 : decode cL_holdAt 3 = .ok (.iload_n 3, 1) := by decide +kernel
theorem dL_holdAt_4 : decode cL_holdAt 4 = .ok (.iload 4, 2) := by decide +kernel
theorem dL_holdAt_6 : decode cL_holdAt 6 = .ok (.invokevirtual 33, 3) := by decide +kernel
theorem dL_holdAt_9 : decode cL_holdAt 9 = .ok (.ireturn, 1) := by decide +kernel
theorem dL_holdAt_10 : decode cL_holdAt 10 = .ok (.astore 5, 2) := by decide +kernel
theorem dL_holdAt_12 : decode cL_holdAt 12 = .ok (.ldc 30, 2) := by decide +kernel
theorem dL_holdAt_14 : decode cL_holdAt 14 = .ok (.ireturn, 1) := by decide +kernel
theorem dL_holdAt_15 : decode cL_holdAt 15 = .ok (.astore 5, 2) := by decide +kernel
theorem dL_holdAt_17 : decode cL_holdAt 17 = .ok (.ldc 30, 2) := by decide +kernel
theorem dL_holdAt_19 : decode cL_holdAt 19 = .ok (.ireturn, 1) := by decide +kernel
theorem dL_holdAt_20 : decode cL_holdAt 20 = .ok (.astore 5, 2) := by decide +kernel
theorem dL_holdAt_22 : decode cL_holdAt 22 = .ok (.ldc 30, 2) := by decide +kernel
theorem dL_holdAt_24 : decode cL_holdAt 24 = .ok (.ireturn, 1) := by decide +kernel
theorem dL_toggles_0 : decode cL_toggles 0 = .ok (.aload_n 0, 1) := by decide +kernel
theorem dL_toggles_1 : decode cL_toggles 1 = .ok (.iload_n 1, 1) := by decide +kernel
theorem dL_toggles_2 : decode cL_toggles 2 = .ok (.iload_n 2, 1) := by decide +kernel
theorem dL_toggles_3 : decode cL_toggles 3 = .ok (.invokevirtual 39, 3) := by decide +kernel
theorem dL_toggles_6 : decode cL_toggles 6 = .ok (.ifCond .eq 7, 3) := by decide +kernel
theorem dL_toggles_9 : decode cL_toggles 9 = .ok (.iconst 1, 1) := by decide +kernel
theorem dL_toggles_10 : decode cL_toggles 10 = .ok (.goto 4, 3) := by decide +kernel
theorem dL_toggles_13 : decode cL_toggles 13 = .ok (.iconst 0, 1) := by decide +kernel
theorem dL_toggles_14 : decode cL_toggles 14 = .ok (.ireturn, 1) := by decide +kernel
theorem dL_toggles_15 : decode cL_toggles 15 = .ok (.astore_n 3, 1) := by decide +kernel
theorem dL_toggles_16 : decode cL_toggles 16 = .ok (.ldc 30, 2) := by decide +kernel
theorem dL_toggles_18 : decode cL_toggles 18 = .ok (.ireturn, 1) := by decide +kernel
theorem dL_toggles_19 : decode cL_toggles 19 = .ok (.astore_n 3, 1) := by decide +kernel
theorem dL_toggles_20 : decode cL_toggles 20 = .ok (.ldc 30, 2) := by decide +kernel
theorem dL_toggles_22 : decode cL_toggles 22 = .ok (.ireturn, 1) := by decide +kernel
theorem dL_tends_0 : decode cL_tends 0 = .ok (.iload_n 1, 1) := by decide +kernel
theorem dL_tends_1 : decode cL_tends 1 = .ok (.ifCond .ne 12, 3) := by decide +kernel
theorem dL_tends_4 : decode cL_tends 4 = .ok (.aload_n 0, 1) := by decide +kernel
theorem dL_tends_5 : decode cL_tends 5 = .ok (.iload_n 2, 1) := by decide +kernel
theorem dL_tends_6 : decode cL_tends 6 = .ok (.iload_n 3, 1) := by decide +kernel
theorem dL_tends_7 : decode cL_tends 7 = .ok (.invokevirtual 43, 3) := by decide +kernel
theorem dL_tends_10 : decode cL_tends 10 = .ok (.goto 61, 3) := by decide +kernel
theorem dL_tends_13 : decode cL_tends 13 = .ok (.iload_n 1, 1) := by decide +kernel
theorem dL_tends_14 : decode cL_tends 14 = .ok (.iconst 1, 1) := by decide +kernel
theorem dL_tends_15 : decode cL_tends 15 = .ok (.if_icmp .ne 11, 3) := by decide +kernel
theorem dL_tends_18 : decode cL_tends 18 = .ok (.aload_n 0, 1) := by decide +kernel
theorem dL_tends_19 : decode cL_tends 19 = .ok (.iload_n 2, 1) := by decide +kernel
theorem dL_tends_20 : decode cL_tends 20 = .ok (.invokevirtual 46, 3) := by decide +kernel
theorem dL_tends_23 : decode cL_tends 23 = .ok (.goto 48, 3) := by decide +kernel
theorem dL_tends_26 : decode cL_tends 26 = .ok (.iload_n 1, 1) := by decide +kernel
theorem dL_tends_27 : decode cL_tends 27 = .ok (.iconst 2, 1) := by decide +kernel
theorem dL_tends_28 : decode cL_tends 28 = .ok (.if_icmp .ne 11, 3) := by decide +kernel
theorem dL_tends_31 : decode cL_tends 31 = .ok (.aload_n 0, 1) := by decide +kernel
theorem dL_tends_32 : decode cL_tends 32 = .ok (.iload_n 2, 1) := by decide +kernel
theorem dL_tends_33 : decode cL_tends 33 = .ok (.invokevirtual 49, 3) := by decide +kernel
theorem dL_tends_36 : decode cL_tends 36 = .ok (.goto 35, 3) := by decide +kernel
theorem dL_tends_39 : decode cL_tends 39 = .ok (.iload_n 1, 1) := by decide +kernel
theorem dL_tends_40 : decode cL_tends 40 = .ok (.iconst 3, 1) := by decide +kernel
theorem dL_tends_41 : decode cL_tends 41 = .ok (.if_icmp .ne 12, 3) := by decide +kernel
theorem dL_tends_44 : decode cL_tends 44 = .ok (.aload_n 0, 1) := by decide +kernel
theorem dL_tends_45 : decode cL_tends 45 = .ok (.iload_n 2, 1) := by decide +kernel
theorem dL_tends_46 : decode cL_tends 46 = .ok (.iload_n 3, 1) := by decide +kernel
theorem dL_tends_47 : decode cL_tends 47 = .ok (.invokevirtual 52, 3) := by decide +kernel
theorem dL_tends_50 : decode cL_tends 50 = .ok (.goto 21, 3) := by decide +kernel
theorem dL_tends_53 : decode cL_tends 53 = .ok (.iload_n 1, 1) := by decide +kernel
theorem dL_tends_54 : decode cL_tends 54 = .ok (.iconst 4, 1) := by decide +kernel
theorem dL_tends_55 : decode cL_tends 55 = .ok (.if_icmp .ne 11, 3) := by decide +kernel
theorem dL_tends_58 : decode cL_tends 58 = .ok (.aload_n 0, 1) := by decide +kernel
theorem dL_tends_59 : decode cL_tends 59 = .ok (.iload_n 2, 1) := by decide +kernel
theorem dL_tends_60 : decode cL_tends 60 = .ok (.invokevirtual 55, 3) := by decide +kernel
theorem dL_tends_63 : decode cL_tends 63 = .ok (.goto 8, 3) := by decide +kernel
theorem dL_tends_66 : decode cL_tends 66 = .ok (.aload_n 0, 1) := by decide +kernel
theorem dL_tends_67 : decode cL_tends 67 = .ok (.iload_n 3, 1) := by decide +kernel
theorem dL_tends_68 : decode cL_tends 68 = .ok (.invokevirtual 58, 3) := by decide +kernel
theorem dL_tends_71 : decode cL_tends 71 = .ok (.ireturn, 1) := by decide +kernel
theorem dL_tends_72 : decode cL_tends 72 = .ok (.astore 4, 2) := by decide +kernel
theorem dL_tends_74 : decode cL_tends 74 = .ok (.ldc 30, 2) := by decide +kernel
theorem dL_tends_76 : decode cL_tends 76 = .ok (.ireturn, 1) := by decide +kernel
theorem dL_tends_77 : decode cL_tends 77 = .ok (.astore 4, 2) := by decide +kernel
theorem dL_tends_79 : decode cL_tends 79 = .ok (.ldc 30, 2) := by decide +kernel
theorem dL_tends_81 : decode cL_tends 81 = .ok (.ireturn, 1) := by decide +kernel
theorem dL_tends_82 : decode cL_tends 82 = .ok (.astore 4, 2) := by decide +kernel
theorem dL_tends_84 : decode cL_tends 84 = .ok (.ldc 30, 2) := by decide +kernel
theorem dL_tends_86 : decode cL_tends 86 = .ok (.ireturn, 1) := by decide +kernel
theorem dL_nextExpiry_0 : decode cL_nextExpiry 0 = .ok (.aload_n 0, 1) := by decide +kernel
theorem dL_nextExpiry_1 : decode cL_nextExpiry 1 = .ok (.invokevirtual 61, 3) := by decide +kernel
theorem dL_nextExpiry_4 : decode cL_nextExpiry 4 = .ok (.ireturn, 1) := by decide +kernel
theorem dL_nextExpiry_5 : decode cL_nextExpiry 5 = .ok (.astore_n 1, 1) := by decide +kernel
theorem dL_nextExpiry_6 : decode cL_nextExpiry 6 = .ok (.ldc 30, 2) := by decide +kernel
theorem dL_nextExpiry_8 : decode cL_nextExpiry 8 = .ok (.ireturn, 1) := by decide +kernel
theorem dL_act_0 : decode cL_act 0 = .ok (.iload_n 1, 1) := by decide +kernel
theorem dL_act_1 : decode cL_act 1 = .ok (.bipush 24, 2) := by decide +kernel
theorem dL_act_3 : decode cL_act 3 = .ok (.ishr, 1) := by decide +kernel
theorem dL_act_4 : decode cL_act 4 = .ok (.bipush 8, 2) := by decide +kernel
theorem dL_act_6 : decode cL_act 6 = .ok (.invokestatic 65, 3) := by decide +kernel
theorem dL_act_9 : decode cL_act 9 = .ok (.ifCond .ne 7, 3) := by decide +kernel
theorem dL_act_12 : decode cL_act 12 = .ok (.iconst 1, 1) := by decide +kernel
theorem dL_act_13 : decode cL_act 13 = .ok (.goto 4, 3) := by decide +kernel
theorem dL_act_16 : decode cL_act 16 = .ok (.iconst 0, 1) := by decide +kernel
theorem dL_act_17 : decode cL_act 17 = .ok (.istore_n 2, 1) := by decide +kernel
theorem dL_act_18 : decode cL_act 18 = .ok (.iload_n 1, 1) := by decide +kernel
theorem dL_act_19 : decode cL_act 19 = .ok (.iconst 5, 1) := by decide +kernel
theorem dL_act_20 : decode cL_act 20 = .ok (.ishr, 1) := by decide +kernel
theorem dL_act_21 : decode cL_act 21 = .ok (.aload_n 0, 1) := by decide +kernel
theorem dL_act_22 : decode cL_act 22 = .ok (.invokevirtual 70, 3) := by decide +kernel
theorem dL_act_25 : decode cL_act 25 = .ok (.iconst 1, 1) := by decide +kernel
theorem dL_act_26 : decode cL_act 26 = .ok (.iadd, 1) := by decide +kernel
theorem dL_act_27 : decode cL_act 27 = .ok (.invokestatic 65, 3) := by decide +kernel
theorem dL_act_30 : decode cL_act 30 = .ok (.iload_n 2, 1) := by decide +kernel
theorem dL_act_31 : decode cL_act 31 = .ok (.ifCond .eq 7, 3) := by decide +kernel
theorem dL_act_34 : decode cL_act 34 = .ok (.iconst 0, 1) := by decide +kernel
theorem dL_act_35 : decode cL_act 35 = .ok (.goto 4, 3) := by decide +kernel
theorem dL_act_38 : decode cL_act 38 = .ok (.iconst 1, 1) := by decide +kernel
theorem dL_act_39 : decode cL_act 39 = .ok (.iadd, 1) := by decide +kernel
theorem dL_act_40 : decode cL_act 40 = .ok (.istore_n 3, 1) := by decide +kernel
theorem dL_act_41 : decode cL_act 41 = .ok (.iload_n 1, 1) := by decide +kernel
theorem dL_act_42 : decode cL_act 42 = .ok (.iconst 4, 1) := by decide +kernel
theorem dL_act_43 : decode cL_act 43 = .ok (.ishr, 1) := by decide +kernel
theorem dL_act_44 : decode cL_act 44 = .ok (.iload_n 2, 1) := by decide +kernel
theorem dL_act_45 : decode cL_act 45 = .ok (.ifCond .eq 8, 3) := by decide +kernel
theorem dL_act_48 : decode cL_act 48 = .ok (.bipush 14, 2) := by decide +kernel
theorem dL_act_50 : decode cL_act 50 = .ok (.goto 9, 3) := by decide +kernel
theorem dL_act_53 : decode cL_act 53 = .ok (.aload_n 0, 1) := by decide +kernel
theorem dL_act_54 : decode cL_act 54 = .ok (.invokevirtual 73, 3) := by decide +kernel
theorem dL_act_57 : decode cL_act 57 = .ok (.iconst 1, 1) := by decide +kernel
theorem dL_act_58 : decode cL_act 58 = .ok (.iadd, 1) := by decide +kernel
theorem dL_act_59 : decode cL_act 59 = .ok (.invokestatic 65, 3) := by decide +kernel
theorem dL_act_62 : decode cL_act 62 = .ok (.istore 4, 2) := by decide +kernel
theorem dL_act_64 : decode cL_act 64 = .ok (.iconst 1, 1) := by decide +kernel
theorem dL_act_65 : decode cL_act 65 = .ok (.iload_n 1, 1) := by decide +kernel
theorem dL_act_66 : decode cL_act 66 = .ok (.bipush 7, 2) := by decide +kernel
theorem dL_act_68 : decode cL_act 68 = .ok (.ishr, 1) := by decide +kernel
theorem dL_act_69 : decode cL_act 69 = .ok (.iload_n 2, 1) := by decide +kernel
theorem dL_act_70 : decode cL_act 70 = .ok (.ifCond .eq 8, 3) := by decide +kernel
theorem dL_act_73 : decode cL_act 73 = .ok (.bipush 24, 2) := by decide +kernel
theorem dL_act_75 : decode cL_act 75 = .ok (.goto 4, 3) := by decide +kernel
theorem dL_act_78 : decode cL_act 78 = .ok (.iconst 3, 1) := by decide +kernel
theorem dL_act_79 : decode cL_act 79 = .ok (.invokestatic 65, 3) := by decide +kernel
theorem dL_act_82 : decode cL_act 82 = .ok (.iadd, 1) := by decide +kernel
theorem dL_act_83 : decode cL_act 83 = .ok (.istore 5, 2) := by decide +kernel
theorem dL_act_85 : decode cL_act 85 = .ok (.iload_n 1, 1) := by decide +kernel
theorem dL_act_86 : decode cL_act 86 = .ok (.bipush 24, 2) := by decide +kernel
theorem dL_act_88 : decode cL_act 88 = .ok (.invokestatic 65, 3) := by decide +kernel
theorem dL_act_91 : decode cL_act 91 = .ok (.istore 6, 2) := by decide +kernel
theorem dL_act_93 : decode cL_act 93 = .ok (.iload 6, 2) := by decide +kernel
theorem dL_act_95 : decode cL_act 95 = .ok (.iconst 2, 1) := by decide +kernel
theorem dL_act_96 : decode cL_act 96 = .ok (.if_icmp .lt 11, 3) := by decide +kernel
theorem dL_act_99 : decode cL_act 99 = .ok (.aload_n 0, 1) := by decide +kernel
theorem dL_act_100 : decode cL_act 100 = .ok (.invokevirtual 73, 3) := by decide +kernel
theorem dL_act_103 : decode cL_act 103 = .ok (.iconst 2, 1) := by decide +kernel
theorem dL_act_104 : decode cL_act 104 = .ok (.if_icmp .ge 74, 3) := by decide +kernel
theorem dL_act_107 : decode cL_act 107 = .ok (.aload_n 0, 1) := by decide +kernel
theorem dL_act_108 : decode cL_act 108 = .ok (.iconst 0, 1) := by decide +kernel
theorem dL_act_109 : decode cL_act 109 = .ok (.iload_n 1, 1) := by decide +kernel
theorem dL_act_110 : decode cL_act 110 = .ok (.iconst 5, 1) := by decide +kernel
theorem dL_act_111 : decode cL_act 111 = .ok (.ishr, 1) := by decide +kernel
theorem dL_act_112 : decode cL_act 112 = .ok (.iload_n 2, 1) := by decide +kernel
theorem dL_act_113 : decode cL_act 113 = .ok (.ifCond .eq 8, 3) := by decide +kernel
theorem dL_act_116 : decode cL_act 116 = .ok (.bipush 23, 2) := by decide +kernel
theorem dL_act_118 : decode cL_act 118 = .ok (.goto 5, 3) := by decide +kernel
theorem dL_act_121 : decode cL_act 121 = .ok (.bipush 10, 2) := by decide +kernel
theorem dL_act_123 : decode cL_act 123 = .ok (.invokestatic 65, 3) := by decide +kernel
theorem dL_act_126 : decode cL_act 126 = .ok (.iload_n 2, 1) := by decide +kernel
theorem dL_act_127 : decode cL_act 127 = .ok (.ifCond .eq 7, 3) := by decide +kernel
theorem dL_act_130 : decode cL_act 130 = .ok (.iconst 0, 1) := by decide +kernel
theorem dL_act_131 : decode cL_act 131 = .ok (.goto 4, 3) := by decide +kernel
theorem dL_act_134 : decode cL_act 134 = .ok (.iconst 1, 1) := by decide +kernel
theorem dL_act_135 : decode cL_act 135 = .ok (.iadd, 1) := by decide +kernel
theorem dL_act_136 : decode cL_act 136 = .ok (.iload_n 1, 1) := by decide +kernel
theorem dL_act_137 : decode cL_act 137 = .ok (.bipush 9, 2) := by decide +kernel
theorem dL_act_139 : decode cL_act 139 = .ok (.ishr, 1) := by decide +kernel
theorem dL_act_140 : decode cL_act 140 = .ok (.iload_n 2, 1) := by decide +kernel
theorem dL_act_141 : decode cL_act 141 = .ok (.ifCond .eq 9, 3) := by decide +kernel
theorem dL_act_144 : decode cL_act 144 = .ok (.sipush 1100, 3) := by decide +kernel
theorem dL_act_147 : decode cL_act 147 = .ok (.goto 5, 3) := by decide +kernel
theorem dL_act_150 : decode cL_act 150 = .ok (.bipush 20, 2) := by decide +kernel
theorem dL_act_152 : decode cL_act 152 = .ok (.invokestatic 65, 3) := by decide +kernel
theorem dL_act_155 : decode cL_act 155 = .ok (.iload_n 1, 1) := by decide +kernel
theorem dL_act_156 : decode cL_act 156 = .ok (.iconst 3, 1) := by decide +kernel
theorem dL_act_157 : decode cL_act 157 = .ok (.ishr, 1) := by decide +kernel
theorem dL_act_158 : decode cL_act 158 = .ok (.iload_n 2, 1) := by decide +kernel
theorem dL_act_159 : decode cL_act 159 = .ok (.ifCond .eq 9, 3) := by decide +kernel
theorem dL_act_162 : decode cL_act 162 = .ok (.sipush 11000, 3) := by decide +kernel
theorem dL_act_165 : decode cL_act 165 = .ok (.goto 6, 3) := by decide +kernel
theorem dL_act_168 : decode cL_act 168 = .ok (.sipush 200, 3) := by decide +kernel
theorem dL_act_171 : decode cL_act 171 = .ok (.invokestatic 65, 3) := by decide +kernel
theorem dL_act_174 : decode cL_act 174 = .ok (.invokestatic 76, 3) := by decide +kernel
theorem dL_act_177 : decode cL_act 177 = .ok (.ireturn, 1) := by decide +kernel
theorem dL_act_178 : decode cL_act 178 = .ok (.iload 6, 2) := by decide +kernel
theorem dL_act_180 : decode cL_act 180 = .ok (.bipush 8, 2) := by decide +kernel
theorem dL_act_182 : decode cL_act 182 = .ok (.if_icmp .ge 41, 3) := by decide +kernel
theorem dL_act_185 : decode cL_act 185 = .ok (.aload_n 0, 1) := by decide +kernel
theorem dL_act_186 : decode cL_act 186 = .ok (.iconst 1, 1) := by decide +kernel
theorem dL_act_187 : decode cL_act 187 = .ok (.iload 5, 2) := by decide +kernel
theorem dL_act_189 : decode cL_act 189 = .ok (.iload_n 1, 1) := by decide +kernel
theorem dL_act_190 : decode cL_act 190 = .ok (.bipush 10, 2) := by decide +kernel
theorem dL_act_192 : decode cL_act 192 = .ok (.ishr, 1) := by decide +kernel
theorem dL_act_193 : decode cL_act 193 = .ok (.iload_n 2, 1) := by decide +kernel
theorem dL_act_194 : decode cL_act 194 = .ok (.ifCond .eq 9, 3) := by decide +kernel
theorem dL_act_197 : decode cL_act 197 = .ok (.sipush 220, 3) := by decide +kernel
theorem dL_act_200 : decode cL_act 200 = .ok (.goto 5, 3) := by decide +kernel
theorem dL_act_203 : decode cL_act 203 = .ok (.bipush 40, 2) := by decide +kernel
theorem dL_act_205 : decode cL_act 205 = .ok (.invokestatic 65, 3) := by decide +kernel
theorem dL_act_208 : decode cL_act 208 = .ok (.iload_n 2, 1) := by decide +kernel
theorem dL_act_209 : decode cL_act 209 = .ok (.ifCond .eq 7, 3) := by decide +kernel
theorem dL_act_212 : decode cL_act 212 = .ok (.iconst 0, 1) := by decide +kernel
theorem dL_act_213 : decode cL_act 213 = .ok (.goto 4, 3) := by decide +kernel
theorem dL_act_216 : decode cL_act 216 = .ok (.iconst 1, 1) := by decide +kernel
theorem dL_act_217 : decode cL_act 217 = .ok (.iadd, 1) := by decide +kernel
theorem dL_act_218 : decode cL_act 218 = .ok (.iconst 0, 1) := by decide +kernel
theorem dL_act_219 : decode cL_act 219 = .ok (.invokestatic 76, 3) := by decide +kernel
theorem dL_act_222 : decode cL_act 222 = .ok (.ireturn, 1) := by decide +kernel
theorem dL_act_223 : decode cL_act 223 = .ok (.iload 6, 2) := by decide +kernel
theorem dL_act_225 : decode cL_act 225 = .ok (.bipush 8, 2) := by decide +kernel
theorem dL_act_227 : decode cL_act 227 = .ok (.if_icmp .ne 23, 3) := by decide +kernel
theorem dL_act_230 : decode cL_act 230 = .ok (.aload_n 0, 1) := by decide +kernel
theorem dL_act_231 : decode cL_act 231 = .ok (.iload 4, 2) := by decide +kernel
theorem dL_act_233 : decode cL_act 233 = .ok (.iload_n 1, 1) := by decide +kernel
theorem dL_act_234 : decode cL_act 234 = .ok (.bipush 6, 2) := by decide +kernel
theorem dL_act_236 : decode cL_act 236 = .ok (.ishr, 1) := by decide +kernel
theorem dL_act_237 : decode cL_act 237 = .ok (.bipush 10, 2) := by decide +kernel
theorem dL_act_239 : decode cL_act 239 = .ok (.invokestatic 65, 3) := by decide +kernel
theorem dL_act_242 : decode cL_act 242 = .ok (.iload 5, 2) := by decide +kernel
theorem dL_act_244 : decode cL_act 244 = .ok (.bipush 20, 2) := by decide +kernel
theorem dL_act_246 : decode cL_act 246 = .ok (.invokestatic 80, 3) := by decide +kernel
theorem dL_act_249 : decode cL_act 249 = .ok (.ireturn, 1) := by decide +kernel
theorem dL_act_250 : decode cL_act 250 = .ok (.iload 6, 2) := by decide +kernel
theorem dL_act_252 : decode cL_act 252 = .ok (.bipush 9, 2) := by decide +kernel
theorem dL_act_254 : decode cL_act 254 = .ok (.if_icmp .ne 29, 3) := by decide +kernel
theorem dL_act_257 : decode cL_act 257 = .ok (.aload_n 0, 1) := by decide +kernel
theorem dL_act_258 : decode cL_act 258 = .ok (.iconst 2, 1) := by decide +kernel
theorem dL_act_259 : decode cL_act 259 = .ok (.iload_n 1, 1) := by decide +kernel
theorem dL_act_260 : decode cL_act 260 = .ok (.iconst 5, 1) := by decide +kernel
theorem dL_act_261 : decode cL_act 261 = .ok (.ishr, 1) := by decide +kernel
theorem dL_act_262 : decode cL_act 262 = .ok (.iload_n 2, 1) := by decide +kernel
theorem dL_act_263 : decode cL_act 263 = .ok (.ifCond .eq 8, 3) := by decide +kernel
theorem dL_act_266 : decode cL_act 266 = .ok (.bipush 120, 2) := by decide +kernel
theorem dL_act_268 : decode cL_act 268 = .ok (.goto 5, 3) := by decide +kernel
theorem dL_act_271 : decode cL_act 271 = .ok (.bipush 14, 2) := by decide +kernel
theorem dL_act_273 : decode cL_act 273 = .ok (.invokestatic 65, 3) := by decide +kernel
theorem dL_act_276 : decode cL_act 276 = .ok (.bipush 15, 2) := by decide +kernel
theorem dL_act_278 : decode cL_act 278 = .ok (.iconst 0, 1) := by decide +kernel
theorem dL_act_279 : decode cL_act 279 = .ok (.invokestatic 76, 3) := by decide +kernel
theorem dL_act_282 : decode cL_act 282 = .ok (.ireturn, 1) := by decide +kernel
theorem dL_act_283 : decode cL_act 283 = .ok (.iload 6, 2) := by decide +kernel
theorem dL_act_285 : decode cL_act 285 = .ok (.bipush 10, 2) := by decide +kernel
theorem dL_act_287 : decode cL_act 287 = .ok (.if_icmp .ne 19, 3) := by decide +kernel
theorem dL_act_290 : decode cL_act 290 = .ok (.aload_n 0, 1) := by decide +kernel
theorem dL_act_291 : decode cL_act 291 = .ok (.iload 4, 2) := by decide +kernel
theorem dL_act_293 : decode cL_act 293 = .ok (.iload_n 1, 1) := by decide +kernel
theorem dL_act_294 : decode cL_act 294 = .ok (.bipush 7, 2) := by decide +kernel
theorem dL_act_296 : decode cL_act 296 = .ok (.ishr, 1) := by decide +kernel
theorem dL_act_297 : decode cL_act 297 = .ok (.bipush 10, 2) := by decide +kernel
theorem dL_act_299 : decode cL_act 299 = .ok (.invokestatic 65, 3) := by decide +kernel
theorem dL_act_302 : decode cL_act 302 = .ok (.invokestatic 82, 3) := by decide +kernel
theorem dL_act_305 : decode cL_act 305 = .ok (.ireturn, 1) := by decide +kernel
theorem dL_act_306 : decode cL_act 306 = .ok (.iload 6, 2) := by decide +kernel
theorem dL_act_308 : decode cL_act 308 = .ok (.bipush 11, 2) := by decide +kernel
theorem dL_act_310 : decode cL_act 310 = .ok (.if_icmp .ne 28, 3) := by decide +kernel
theorem dL_act_313 : decode cL_act 313 = .ok (.aload_n 0, 1) := by decide +kernel
theorem dL_act_314 : decode cL_act 314 = .ok (.iconst 5, 1) := by decide +kernel
theorem dL_act_315 : decode cL_act 315 = .ok (.iconst 0, 1) := by decide +kernel
theorem dL_act_316 : decode cL_act 316 = .ok (.iload_n 1, 1) := by decide +kernel
theorem dL_act_317 : decode cL_act 317 = .ok (.iconst 5, 1) := by decide +kernel
theorem dL_act_318 : decode cL_act 318 = .ok (.ishr, 1) := by decide +kernel
theorem dL_act_319 : decode cL_act 319 = .ok (.iload_n 2, 1) := by decide +kernel
theorem dL_act_320 : decode cL_act 320 = .ok (.ifCond .eq 9, 3) := by decide +kernel
theorem dL_act_323 : decode cL_act 323 = .ok (.sipush 1100, 3) := by decide +kernel
theorem dL_act_326 : decode cL_act 326 = .ok (.goto 5, 3) := by decide +kernel
theorem dL_act_329 : decode cL_act 329 = .ok (.bipush 10, 2) := by decide +kernel
theorem dL_act_331 : decode cL_act 331 = .ok (.invokestatic 65, 3) := by decide +kernel
theorem dL_act_334 : decode cL_act 334 = .ok (.invokestatic 86, 3) := by decide +kernel
theorem dL_act_337 : decode cL_act 337 = .ok (.ireturn, 1) := by decide +kernel
theorem dL_act_338 : decode cL_act 338 = .ok (.aload_n 0, 1) := by decide +kernel
theorem dL_act_339 : decode cL_act 339 = .ok (.iload 6, 2) := by decide +kernel
theorem dL_act_341 : decode cL_act 341 = .ok (.bipush 16, 2) := by decide +kernel
theorem dL_act_343 : decode cL_act 343 = .ok (.if_icmp .ge 7, 3) := by decide +kernel
theorem dL_act_346 : decode cL_act 346 = .ok (.iconst 1, 1) := by decide +kernel
theorem dL_act_347 : decode cL_act 347 = .ok (.goto 37, 3) := by decide +kernel
theorem dL_act_350 : decode cL_act 350 = .ok (.iload 6, 2) := by decide +kernel
theorem dL_act_352 : decode cL_act 352 = .ok (.bipush 16, 2) := by decide +kernel
theorem dL_act_354 : decode cL_act 354 = .ok (.if_icmp .ne 7, 3) := by decide +kernel
theorem dL_act_357 : decode cL_act 357 = .ok (.iconst 2, 1) := by decide +kernel
theorem dL_act_358 : decode cL_act 358 = .ok (.goto 26, 3) := by decide +kernel
theorem dL_act_361 : decode cL_act 361 = .ok (.iload 6, 2) := by decide +kernel
theorem dL_act_363 : decode cL_act 363 = .ok (.bipush 17, 2) := by decide +kernel
theorem dL_act_365 : decode cL_act 365 = .ok (.if_icmp .ne 7, 3) := by decide +kernel
theorem dL_act_368 : decode cL_act 368 = .ok (.iconst 0, 1) := by decide +kernel
theorem dL_act_369 : decode cL_act 369 = .ok (.goto 15, 3) := by decide +kernel
theorem dL_act_372 : decode cL_act 372 = .ok (.iload 6, 2) := by decide +kernel
theorem dL_act_374 : decode cL_act 374 = .ok (.bipush 21, 2) := by decide +kernel
theorem dL_act_376 : decode cL_act 376 = .ok (.if_icmp .ge 7, 3) := by decide +kernel
theorem dL_act_379 : decode cL_act 379 = .ok (.iconst 3, 1) := by decide +kernel
theorem dL_act_380 : decode cL_act 380 = .ok (.goto 4, 3) := by decide +kernel
theorem dL_act_383 : decode cL_act 383 = .ok (.iconst 4, 1) := by decide +kernel
theorem dL_act_384 : decode cL_act 384 = .ok (.iload_n 3, 1) := by decide +kernel
theorem dL_act_385 : decode cL_act 385 = .ok (.iload 6, 2) := by decide +kernel
theorem dL_act_387 : decode cL_act 387 = .ok (.bipush 17, 2) := by decide +kernel
theorem dL_act_389 : decode cL_act 389 = .ok (.if_icmp .ne 25, 3) := by decide +kernel
theorem dL_act_392 : decode cL_act 392 = .ok (.iload_n 1, 1) := by decide +kernel
theorem dL_act_393 : decode cL_act 393 = .ok (.bipush 8, 2) := by decide +kernel
theorem dL_act_395 : decode cL_act 395 = .ok (.ishr, 1) := by decide +kernel
theorem dL_act_396 : decode cL_act 396 = .ok (.iload_n 2, 1) := by decide +kernel
theorem dL_act_397 : decode cL_act 397 = .ok (.ifCond .eq 9, 3) := by decide +kernel
theorem dL_act_400 : decode cL_act 400 = .ok (.sipush 220, 3) := by decide +kernel
theorem dL_act_403 : decode cL_act 403 = .ok (.goto 5, 3) := by decide +kernel
theorem dL_act_406 : decode cL_act 406 = .ok (.bipush 30, 2) := by decide +kernel
theorem dL_act_408 : decode cL_act 408 = .ok (.invokestatic 65, 3) := by decide +kernel
theorem dL_act_411 : decode cL_act 411 = .ok (.goto 5, 3) := by decide +kernel
theorem dL_act_414 : decode cL_act 414 = .ok (.iload 4, 2) := by decide +kernel
theorem dL_act_416 : decode cL_act 416 = .ok (.invokestatic 86, 3) := by decide +kernel
theorem dL_act_419 : decode cL_act 419 = .ok (.ireturn, 1) := by decide +kernel
theorem dL_areAlike_0 : decode cL_areAlike 0 = .ok (.aload_n 0, 1) := by decide +kernel
theorem dL_areAlike_1 : decode cL_areAlike 1 = .ok (.invokevirtual 73, 3) := by decide +kernel
theorem dL_areAlike_4 : decode cL_areAlike 4 = .ok (.aload_n 1, 1) := by decide +kernel
theorem dL_areAlike_5 : decode cL_areAlike 5 = .ok (.invokevirtual 73, 3) := by decide +kernel
theorem dL_areAlike_8 : decode cL_areAlike 8 = .ok (.if_icmp .ne 92, 3) := by decide +kernel
theorem dL_areAlike_11 : decode cL_areAlike 11 = .ok (.aload_n 0, 1) := by decide +kernel
theorem dL_areAlike_12 : decode cL_areAlike 12 = .ok (.invokevirtual 70, 3) := by decide +kernel
theorem dL_areAlike_15 : decode cL_areAlike 15 = .ok (.aload_n 1, 1) := by decide +kernel
theorem dL_areAlike_16 : decode cL_areAlike 16 = .ok (.invokevirtual 70, 3) := by decide +kernel
theorem dL_areAlike_19 : decode cL_areAlike 19 = .ok (.if_icmp .ne 81, 3) := by decide +kernel
theorem dL_areAlike_22 : decode cL_areAlike 22 = .ok (.aload_n 0, 1) := by decide +kernel
theorem dL_areAlike_23 : decode cL_areAlike 23 = .ok (.invokevirtual 90, 3) := by decide +kernel
theorem dL_areAlike_26 : decode cL_areAlike 26 = .ok (.aload_n 1, 1) := by decide +kernel
theorem dL_areAlike_27 : decode cL_areAlike 27 = .ok (.invokevirtual 90, 3) := by decide +kernel
theorem dL_areAlike_30 : decode cL_areAlike 30 = .ok (.if_icmp .ne 70, 3) := by decide +kernel
theorem dL_areAlike_33 : decode cL_areAlike 33 = .ok (.aload_n 0, 1) := by decide +kernel
theorem dL_areAlike_34 : decode cL_areAlike 34 = .ok (.invokevirtual 93, 3) := by decide +kernel
theorem dL_areAlike_37 : decode cL_areAlike 37 = .ok (.aload_n 1, 1) := by decide +kernel
theorem dL_areAlike_38 : decode cL_areAlike 38 = .ok (.invokevirtual 93, 3) := by decide +kernel
theorem dL_areAlike_41 : decode cL_areAlike 41 = .ok (.if_icmp .ne 59, 3) := by decide +kernel
theorem dL_areAlike_44 : decode cL_areAlike 44 = .ok (.aload_n 0, 1) := by decide +kernel
theorem dL_areAlike_45 : decode cL_areAlike 45 = .ok (.invokevirtual 96, 3) := by decide +kernel
theorem dL_areAlike_48 : decode cL_areAlike 48 = .ok (.aload_n 1, 1) := by decide +kernel
theorem dL_areAlike_49 : decode cL_areAlike 49 = .ok (.invokevirtual 96, 3) := by decide +kernel
theorem dL_areAlike_52 : decode cL_areAlike 52 = .ok (.if_icmp .ne 48, 3) := by decide +kernel
theorem dL_areAlike_55 : decode cL_areAlike 55 = .ok (.aload_n 0, 1) := by decide +kernel
theorem dL_areAlike_56 : decode cL_areAlike 56 = .ok (.invokevirtual 99, 3) := by decide +kernel
theorem dL_areAlike_59 : decode cL_areAlike 59 = .ok (.aload_n 1, 1) := by decide +kernel
theorem dL_areAlike_60 : decode cL_areAlike 60 = .ok (.invokevirtual 99, 3) := by decide +kernel
theorem dL_areAlike_63 : decode cL_areAlike 63 = .ok (.if_icmp .ne 37, 3) := by decide +kernel
theorem dL_areAlike_66 : decode cL_areAlike 66 = .ok (.aload_n 0, 1) := by decide +kernel
theorem dL_areAlike_67 : decode cL_areAlike 67 = .ok (.invokestatic 102, 3) := by decide +kernel
theorem dL_areAlike_70 : decode cL_areAlike 70 = .ok (.aload_n 1, 1) := by decide +kernel
theorem dL_areAlike_71 : decode cL_areAlike 71 = .ok (.invokestatic 102, 3) := by decide +kernel
theorem dL_areAlike_74 : decode cL_areAlike 74 = .ok (.if_icmp .ne 26, 3) := by decide +kernel
theorem dL_areAlike_77 : decode cL_areAlike 77 = .ok (.aload_n 0, 1) := by decide +kernel
theorem dL_areAlike_78 : decode cL_areAlike 78 = .ok (.iconst 3, 1) := by decide +kernel
theorem dL_areAlike_79 : decode cL_areAlike 79 = .ok (.iconst 2, 1) := by decide +kernel
theorem dL_areAlike_80 : decode cL_areAlike 80 = .ok (.iconst 0, 1) := by decide +kernel
theorem dL_areAlike_81 : decode cL_areAlike 81 = .ok (.iconst 0, 1) := by decide +kernel
theorem dL_areAlike_82 : decode cL_areAlike 82 = .ok (.invokestatic 76, 3) := by decide +kernel
theorem dL_areAlike_85 : decode cL_areAlike 85 = .ok (.aload_n 1, 1) := by decide +kernel
theorem dL_areAlike_86 : decode cL_areAlike 86 = .ok (.iconst 3, 1) := by decide +kernel
theorem dL_areAlike_87 : decode cL_areAlike 87 = .ok (.iconst 2, 1) := by decide +kernel
theorem dL_areAlike_88 : decode cL_areAlike 88 = .ok (.iconst 0, 1) := by decide +kernel
theorem dL_areAlike_89 : decode cL_areAlike 89 = .ok (.iconst 0, 1) := by decide +kernel
theorem dL_areAlike_90 : decode cL_areAlike 90 = .ok (.invokestatic 76, 3) := by decide +kernel
theorem dL_areAlike_93 : decode cL_areAlike 93 = .ok (.if_icmp .ne 7, 3) := by decide +kernel
theorem dL_areAlike_96 : decode cL_areAlike 96 = .ok (.iconst 1, 1) := by decide +kernel
theorem dL_areAlike_97 : decode cL_areAlike 97 = .ok (.goto 4, 3) := by decide +kernel
theorem dL_areAlike_100 : decode cL_areAlike 100 = .ok (.iconst 0, 1) := by decide +kernel
theorem dL_areAlike_101 : decode cL_areAlike 101 = .ok (.istore_n 2, 1) := by decide +kernel
theorem dL_areAlike_102 : decode cL_areAlike 102 = .ok (.iconst 0, 1) := by decide +kernel
theorem dL_areAlike_103 : decode cL_areAlike 103 = .ok (.istore_n 3, 1) := by decide +kernel
theorem dL_areAlike_104 : decode cL_areAlike 104 = .ok (.iload_n 3, 1) := by decide +kernel
theorem dL_areAlike_105 : decode cL_areAlike 105 = .ok (.aload_n 0, 1) := by decide +kernel
theorem dL_areAlike_106 : decode cL_areAlike 106 = .ok (.invokevirtual 73, 3) := by decide +kernel
theorem dL_areAlike_109 : decode cL_areAlike 109 = .ok (.if_icmp .ge 62, 3) := by decide +kernel
theorem dL_areAlike_112 : decode cL_areAlike 112 = .ok (.iload_n 2, 1) := by decide +kernel
theorem dL_areAlike_113 : decode cL_areAlike 113 = .ok (.ifCond .eq 58, 3) := by decide +kernel
theorem dL_areAlike_116 : decode cL_areAlike 116 = .ok (.aload_n 0, 1) := by decide +kernel
theorem dL_areAlike_117 : decode cL_areAlike 117 = .ok (.iload_n 3, 1) := by decide +kernel
theorem dL_areAlike_118 : decode cL_areAlike 118 = .ok (.invokevirtual 105, 3) := by decide +kernel
theorem dL_areAlike_121 : decode cL_areAlike 121 = .ok (.aload_n 1, 1) := by decide +kernel
theorem dL_areAlike_122 : decode cL_areAlike 122 = .ok (.iload_n 3, 1) := by decide +kernel
theorem dL_areAlike_123 : decode cL_areAlike 123 = .ok (.invokevirtual 105, 3) := by decide +kernel
theorem dL_areAlike_126 : decode cL_areAlike 126 = .ok (.if_icmp .ne 37, 3) := by decide +kernel
theorem dL_areAlike_129 : decode cL_areAlike 129 = .ok (.aload_n 0, 1) := by decide +kernel
theorem dL_areAlike_130 : decode cL_areAlike 130 = .ok (.iload_n 3, 1) := by decide +kernel
theorem dL_areAlike_131 : decode cL_areAlike 131 = .ok (.iconst 0, 1) := by decide +kernel
theorem dL_areAlike_132 : decode cL_areAlike 132 = .ok (.invokevirtual 108, 3) := by decide +kernel
theorem dL_areAlike_135 : decode cL_areAlike 135 = .ok (.aload_n 1, 1) := by decide +kernel
theorem dL_areAlike_136 : decode cL_areAlike 136 = .ok (.iload_n 3, 1) := by decide +kernel
theorem dL_areAlike_137 : decode cL_areAlike 137 = .ok (.iconst 0, 1) := by decide +kernel
theorem dL_areAlike_138 : decode cL_areAlike 138 = .ok (.invokevirtual 108, 3) := by decide +kernel
theorem dL_areAlike_141 : decode cL_areAlike 141 = .ok (.if_icmp .ne 22, 3) := by decide +kernel
theorem dL_areAlike_144 : decode cL_areAlike 144 = .ok (.aload_n 0, 1) := by decide +kernel
theorem dL_areAlike_145 : decode cL_areAlike 145 = .ok (.iload_n 3, 1) := by decide +kernel
theorem dL_areAlike_146 : decode cL_areAlike 146 = .ok (.iconst 0, 1) := by decide +kernel
theorem dL_areAlike_147 : decode cL_areAlike 147 = .ok (.invokevirtual 111, 3) := by decide +kernel
theorem dL_areAlike_150 : decode cL_areAlike 150 = .ok (.aload_n 1, 1) := by decide +kernel
theorem dL_areAlike_151 : decode cL_areAlike 151 = .ok (.iload_n 3, 1) := by decide +kernel
theorem dL_areAlike_152 : decode cL_areAlike 152 = .ok (.iconst 0, 1) := by decide +kernel
theorem dL_areAlike_153 : decode cL_areAlike 153 = .ok (.invokevirtual 111, 3) := by decide +kernel
theorem dL_areAlike_156 : decode cL_areAlike 156 = .ok (.if_icmp .ne 7, 3) := by decide +kernel
theorem dL_areAlike_159 : decode cL_areAlike 159 = .ok (.iconst 1, 1) := by decide +kernel
theorem dL_areAlike_160 : decode cL_areAlike 160 = .ok (.goto 4, 3) := by decide +kernel
theorem dL_areAlike_163 : decode cL_areAlike 163 = .ok (.iconst 0, 1) := by decide +kernel
theorem dL_areAlike_164 : decode cL_areAlike 164 = .ok (.istore_n 2, 1) := by decide +kernel
theorem dL_areAlike_165 : decode cL_areAlike 165 = .ok (.iinc 3 1, 3) := by decide +kernel
theorem dL_areAlike_168 : decode cL_areAlike 168 = .ok (.goto (-64), 3) := by decide +kernel
theorem dL_areAlike_171 : decode cL_areAlike 171 = .ok (.iconst 1, 1) := by decide +kernel
theorem dL_areAlike_172 : decode cL_areAlike 172 = .ok (.istore_n 3, 1) := by decide +kernel
theorem dL_areAlike_173 : decode cL_areAlike 173 = .ok (.iload_n 3, 1) := by decide +kernel
theorem dL_areAlike_174 : decode cL_areAlike 174 = .ok (.aload_n 0, 1) := by decide +kernel
theorem dL_areAlike_175 : decode cL_areAlike 175 = .ok (.invokevirtual 70, 3) := by decide +kernel
theorem dL_areAlike_178 : decode cL_areAlike 178 = .ok (.if_icmp .gt 58, 3) := by decide +kernel
theorem dL_areAlike_181 : decode cL_areAlike 181 = .ok (.iload_n 2, 1) := by decide +kernel
theorem dL_areAlike_182 : decode cL_areAlike 182 = .ok (.ifCond .eq 54, 3) := by decide +kernel
theorem dL_areAlike_185 : decode cL_areAlike 185 = .ok (.aload_n 0, 1) := by decide +kernel
theorem dL_areAlike_186 : decode cL_areAlike 186 = .ok (.iload_n 3, 1) := by decide +kernel
theorem dL_areAlike_187 : decode cL_areAlike 187 = .ok (.invokevirtual 114, 3) := by decide +kernel
theorem dL_areAlike_190 : decode cL_areAlike 190 = .ok (.aload_n 1, 1) := by decide +kernel
theorem dL_areAlike_191 : decode cL_areAlike 191 = .ok (.iload_n 3, 1) := by decide +kernel
theorem dL_areAlike_192 : decode cL_areAlike 192 = .ok (.invokevirtual 114, 3) := by decide +kernel
theorem dL_areAlike_195 : decode cL_areAlike 195 = .ok (.if_icmp .ne 33, 3) := by decide +kernel
theorem dL_areAlike_198 : decode cL_areAlike 198 = .ok (.aload_n 0, 1) := by decide +kernel
theorem dL_areAlike_199 : decode cL_areAlike 199 = .ok (.iload_n 3, 1) := by decide +kernel
theorem dL_areAlike_200 : decode cL_areAlike 200 = .ok (.invokevirtual 117, 3) := by decide +kernel
theorem dL_areAlike_203 : decode cL_areAlike 203 = .ok (.aload_n 1, 1) := by decide +kernel
theorem dL_areAlike_204 : decode cL_areAlike 204 = .ok (.iload_n 3, 1) := by decide +kernel
theorem dL_areAlike_205 : decode cL_areAlike 205 = .ok (.invokevirtual 117, 3) := by decide +kernel
theorem dL_areAlike_208 : decode cL_areAlike 208 = .ok (.if_icmp .ne 20, 3) := by decide +kernel
theorem dL_areAlike_211 : decode cL_areAlike 211 = .ok (.aload_n 0, 1) := by decide +kernel
theorem dL_areAlike_212 : decode cL_areAlike 212 = .ok (.iload_n 3, 1) := by decide +kernel
theorem dL_areAlike_213 : decode cL_areAlike 213 = .ok (.invokevirtual 120, 3) := by decide +kernel
theorem dL_areAlike_216 : decode cL_areAlike 216 = .ok (.aload_n 1, 1) := by decide +kernel
theorem dL_areAlike_217 : decode cL_areAlike 217 = .ok (.iload_n 3, 1) := by decide +kernel
theorem dL_areAlike_218 : decode cL_areAlike 218 = .ok (.invokevirtual 120, 3) := by decide +kernel
theorem dL_areAlike_221 : decode cL_areAlike 221 = .ok (.if_icmp .ne 7, 3) := by decide +kernel
theorem dL_areAlike_224 : decode cL_areAlike 224 = .ok (.iconst 1, 1) := by decide +kernel
theorem dL_areAlike_225 : decode cL_areAlike 225 = .ok (.goto 4, 3) := by decide +kernel
theorem dL_areAlike_228 : decode cL_areAlike 228 = .ok (.iconst 0, 1) := by decide +kernel
theorem dL_areAlike_229 : decode cL_areAlike 229 = .ok (.istore_n 2, 1) := by decide +kernel
theorem dL_areAlike_230 : decode cL_areAlike 230 = .ok (.iinc 3 1, 3) := by decide +kernel
theorem dL_areAlike_233 : decode cL_areAlike 233 = .ok (.goto (-60), 3) := by decide +kernel
theorem dL_areAlike_236 : decode cL_areAlike 236 = .ok (.iload_n 2, 1) := by decide +kernel
theorem dL_areAlike_237 : decode cL_areAlike 237 = .ok (.ireturn, 1) := by decide +kernel
theorem dL_wide_0 : decode cL_wide 0 = .ok (.iconst 0, 1) := by decide +kernel
theorem dL_wide_1 : decode cL_wide 1 = .ok (.istore_n 2, 1) := by decide +kernel
theorem dL_wide_2 : decode cL_wide 2 = .ok (.iconst 1, 1) := by decide +kernel
theorem dL_wide_3 : decode cL_wide 3 = .ok (.istore_n 3, 1) := by decide +kernel
theorem dL_wide_4 : decode cL_wide 4 = .ok (.iload_n 3, 1) := by decide +kernel
theorem dL_wide_5 : decode cL_wide 5 = .ok (.ifCond .eq 31, 3) := by decide +kernel
theorem dL_wide_8 : decode cL_wide 8 = .ok (.iload_n 2, 1) := by decide +kernel
theorem dL_wide_9 : decode cL_wide 9 = .ok (.bipush 21, 2) := by decide +kernel
theorem dL_wide_11 : decode cL_wide 11 = .ok (.if_icmp .ge 25, 3) := by decide +kernel
theorem dL_wide_14 : decode cL_wide 14 = .ok (.aload_n 0, 1) := by decide +kernel
theorem dL_wide_15 : decode cL_wide 15 = .ok (.iload_n 1, 1) := by decide +kernel
theorem dL_wide_16 : decode cL_wide 16 = .ok (.iload_n 2, 1) := by decide +kernel
theorem dL_wide_17 : decode cL_wide 17 = .ok (.invokestatic 123, 3) := by decide +kernel
theorem dL_wide_20 : decode cL_wide 20 = .ok (.istore_n 3, 1) := by decide +kernel
theorem dL_wide_21 : decode cL_wide 21 = .ok (.iload_n 2, 1) := by decide +kernel
theorem dL_wide_22 : decode cL_wide 22 = .ok (.iload_n 3, 1) := by decide +kernel
theorem dL_wide_23 : decode cL_wide 23 = .ok (.ifCond .eq 7, 3) := by decide +kernel
theorem dL_wide_26 : decode cL_wide 26 = .ok (.iconst 1, 1) := by decide +kernel
theorem dL_wide_27 : decode cL_wide 27 = .ok (.goto 4, 3) := by decide +kernel
theorem dL_wide_30 : decode cL_wide 30 = .ok (.iconst 0, 1) := by decide +kernel
theorem dL_wide_31 : decode cL_wide 31 = .ok (.iadd, 1) := by decide +kernel
theorem dL_wide_32 : decode cL_wide 32 = .ok (.istore_n 2, 1) := by decide +kernel
theorem dL_wide_33 : decode cL_wide 33 = .ok (.goto (-29), 3) := by decide +kernel
theorem dL_wide_36 : decode cL_wide 36 = .ok (.iload_n 2, 1) := by decide +kernel
theorem dL_wide_37 : decode cL_wide 37 = .ok (.ireturn, 1) := by decide +kernel
theorem dL_isSeat_0 : decode cL_isSeat 0 = .ok (.aload_n 0, 1) := by decide +kernel
theorem dL_isSeat_1 : decode cL_isSeat 1 = .ok (.iload_n 1, 1) := by decide +kernel
theorem dL_isSeat_2 : decode cL_isSeat 2 = .ok (.iload_n 2, 1) := by decide +kernel
theorem dL_isSeat_3 : decode cL_isSeat 3 = .ok (.invokevirtual 111, 3) := by decide +kernel
theorem dL_isSeat_6 : decode cL_isSeat 6 = .ok (.ifCond .lt 7, 3) := by decide +kernel
theorem dL_isSeat_9 : decode cL_isSeat 9 = .ok (.iconst 1, 1) := by decide +kernel
theorem dL_isSeat_10 : decode cL_isSeat 10 = .ok (.goto 4, 3) := by decide +kernel
theorem dL_isSeat_13 : decode cL_isSeat 13 = .ok (.iconst 0, 1) := by decide +kernel
theorem dL_isSeat_14 : decode cL_isSeat 14 = .ok (.ireturn, 1) := by decide +kernel
theorem dL_isSeat_15 : decode cL_isSeat 15 = .ok (.astore_n 3, 1) := by decide +kernel
theorem dL_isSeat_16 : decode cL_isSeat 16 = .ok (.iconst 0, 1) := by decide +kernel
theorem dL_isSeat_17 : decode cL_isSeat 17 = .ok (.ireturn, 1) := by decide +kernel
theorem dL_areSeatsSo_0 : decode cL_areSeatsSo 0 = .ok (.iconst 0, 1) := by decide +kernel
theorem dL_areSeatsSo_1 : decode cL_areSeatsSo 1 = .ok (.istore_n 1, 1) := by decide +kernel
theorem dL_areSeatsSo_2 : decode cL_areSeatsSo 2 = .ok (.iconst 0, 1) := by decide +kernel
theorem dL_areSeatsSo_3 : decode cL_areSeatsSo 3 = .ok (.istore_n 2, 1) := by decide +kernel
theorem dL_areSeatsSo_4 : decode cL_areSeatsSo 4 = .ok (.iconst 0, 1) := by decide +kernel
theorem dL_areSeatsSo_5 : decode cL_areSeatsSo 5 = .ok (.istore_n 3, 1) := by decide +kernel
theorem dL_areSeatsSo_6 : decode cL_areSeatsSo 6 = .ok (.iconst 0, 1) := by decide +kernel
theorem dL_areSeatsSo_7 : decode cL_areSeatsSo 7 = .ok (.istore 4, 2) := by decide +kernel
theorem dL_areSeatsSo_9 : decode cL_areSeatsSo 9 = .ok (.iload 4, 2) := by decide +kernel
theorem dL_areSeatsSo_11 : decode cL_areSeatsSo 11 = .ok (.aload_n 0, 1) := by decide +kernel
theorem dL_areSeatsSo_12 : decode cL_areSeatsSo 12 = .ok (.invokevirtual 73, 3) := by decide +kernel
theorem dL_areSeatsSo_15 : decode cL_areSeatsSo 15 = .ok (.if_icmp .ge 273, 3) := by decide +kernel
theorem dL_areSeatsSo_18 : decode cL_areSeatsSo 18 = .ok (.aload_n 0, 1) := by decide +kernel
theorem dL_areSeatsSo_19 : decode cL_areSeatsSo 19 = .ok (.iload 4, 2) := by decide +kernel
theorem dL_areSeatsSo_21 : decode cL_areSeatsSo 21 = .ok (.invokestatic 127, 3) := by decide +kernel
theorem dL_areSeatsSo_24 : decode cL_areSeatsSo 24 = .ok (.istore 5, 2) := by decide +kernel
theorem dL_areSeatsSo_26 : decode cL_areSeatsSo 26 = .ok (.iconst 0, 1) := by decide +kernel
theorem dL_areSeatsSo_27 : decode cL_areSeatsSo 27 = .ok (.istore 6, 2) := by decide +kernel
theorem dL_areSeatsSo_29 : decode cL_areSeatsSo 29 = .ok (.iconst 0, 1) := by decide +kernel
theorem dL_areSeatsSo_30 : decode cL_areSeatsSo 30 = .ok (.istore 7, 2) := by decide +kernel
theorem dL_areSeatsSo_32 : decode cL_areSeatsSo 32 = .ok (.iconst 0, 1) := by decide +kernel
theorem dL_areSeatsSo_33 : decode cL_areSeatsSo 33 = .ok (.istore 8, 2) := by decide +kernel
theorem dL_areSeatsSo_35 : decode cL_areSeatsSo 35 = .ok (.iload 8, 2) := by decide +kernel
theorem dL_areSeatsSo_37 : decode cL_areSeatsSo 37 = .ok (.iload 5, 2) := by decide +kernel
theorem dL_areSeatsSo_39 : decode cL_areSeatsSo 39 = .ok (.if_icmp .ge 217, 3) := by decide +kernel
theorem dL_areSeatsSo_42 : decode cL_areSeatsSo 42 = .ok (.aload_n 0, 1) := by decide +kernel
theorem dL_areSeatsSo_43 : decode cL_areSeatsSo 43 = .ok (.iload 4, 2) := by decide +kernel
theorem dL_areSeatsSo_45 : decode cL_areSeatsSo 45 = .ok (.iload 8, 2) := by decide +kernel
theorem dL_areSeatsSo_47 : decode cL_areSeatsSo 47 = .ok (.invokevirtual 111, 3) := by decide +kernel
theorem dL_areSeatsSo_50 : decode cL_areSeatsSo 50 = .ok (.istore 9, 2) := by decide +kernel
theorem dL_areSeatsSo_52 : decode cL_areSeatsSo 52 = .ok (.aload_n 0, 1) := by decide +kernel
theorem dL_areSeatsSo_53 : decode cL_areSeatsSo 53 = .ok (.iload 4, 2) := by decide +kernel
theorem dL_areSeatsSo_55 : decode cL_areSeatsSo 55 = .ok (.iload 8, 2) := by decide +kernel
theorem dL_areSeatsSo_57 : decode cL_areSeatsSo 57 = .ok (.invokevirtual 108, 3) := by decide +kernel
theorem dL_areSeatsSo_60 : decode cL_areSeatsSo 60 = .ok (.istore 10, 2) := by decide +kernel
theorem dL_areSeatsSo_62 : decode cL_areSeatsSo 62 = .ok (.iload 9, 2) := by decide +kernel
theorem dL_areSeatsSo_64 : decode cL_areSeatsSo 64 = .ok (.iconst 3, 1) := by decide +kernel
theorem dL_areSeatsSo_65 : decode cL_areSeatsSo 65 = .ok (.if_icmp .gt 75, 3) := by decide +kernel
theorem dL_areSeatsSo_68 : decode cL_areSeatsSo 68 = .ok (.iload 10, 2) := by decide +kernel
theorem dL_areSeatsSo_70 : decode cL_areSeatsSo 70 = .ok (.ifCond .le 7, 3) := by decide +kernel
theorem dL_areSeatsSo_73 : decode cL_areSeatsSo 73 = .ok (.iconst 1, 1) := by decide +kernel
theorem dL_areSeatsSo_74 : decode cL_areSeatsSo 74 = .ok (.goto 4, 3) := by decide +kernel
theorem dL_areSeatsSo_77 : decode cL_areSeatsSo 77 = .ok (.iconst 0, 1) := by decide +kernel
theorem dL_areSeatsSo_78 : decode cL_areSeatsSo 78 = .ok (.iload 9, 2) := by decide +kernel
theorem dL_areSeatsSo_80 : decode cL_areSeatsSo 80 = .ok (.iconst 1, 1) := by decide +kernel
theorem dL_areSeatsSo_81 : decode cL_areSeatsSo 81 = .ok (.if_icmp .eq 9, 3) := by decide +kernel
theorem dL_areSeatsSo_84 : decode cL_areSeatsSo 84 = .ok (.iload 9, 2) := by decide +kernel
theorem dL_areSeatsSo_86 : decode cL_areSeatsSo 86 = .ok (.iconst 2, 1) := by decide +kernel
theorem dL_areSeatsSo_87 : decode cL_areSeatsSo 87 = .ok (.if_icmp .ne 7, 3) := by decide +kernel
theorem dL_areSeatsSo_90 : decode cL_areSeatsSo 90 = .ok (.iconst 1, 1) := by decide +kernel
theorem dL_areSeatsSo_91 : decode cL_areSeatsSo 91 = .ok (.goto 4, 3) := by decide +kernel
theorem dL_areSeatsSo_94 : decode cL_areSeatsSo 94 = .ok (.iconst 0, 1) := by decide +kernel
theorem dL_areSeatsSo_95 : decode cL_areSeatsSo 95 = .ok (.if_icmp .ne 45, 3) := by decide +kernel
theorem dL_areSeatsSo_98 : decode cL_areSeatsSo 98 = .ok (.iload 10, 2) := by decide +kernel
theorem dL_areSeatsSo_100 : decode cL_areSeatsSo 100 = .ok (.ifCond .le 16, 3) := by decide +kernel
theorem dL_areSeatsSo_103 : decode cL_areSeatsSo 103 = .ok (.aload_n 0, 1) := by decide +kernel
theorem dL_areSeatsSo_104 : decode cL_areSeatsSo 104 = .ok (.iload 10, 2) := by decide +kernel
theorem dL_areSeatsSo_106 : decode cL_areSeatsSo 106 = .ok (.invokevirtual 114, 3) := by decide +kernel
theorem dL_areSeatsSo_109 : decode cL_areSeatsSo 109 = .ok (.iload 9, 2) := by decide +kernel
theorem dL_areSeatsSo_111 : decode cL_areSeatsSo 111 = .ok (.iconst 1, 1) := by decide +kernel
theorem dL_areSeatsSo_112 : decode cL_areSeatsSo 112 = .ok (.isub, 1) := by decide +kernel
theorem dL_areSeatsSo_113 : decode cL_areSeatsSo 113 = .ok (.if_icmp .ne 27, 3) := by decide +kernel
theorem dL_areSeatsSo_116 : decode cL_areSeatsSo 116 = .ok (.aload_n 0, 1) := by decide +kernel
theorem dL_areSeatsSo_117 : decode cL_areSeatsSo 117 = .ok (.iload 4, 2) := by decide +kernel
theorem dL_areSeatsSo_119 : decode cL_areSeatsSo 119 = .ok (.iload 8, 2) := by decide +kernel
theorem dL_areSeatsSo_121 : decode cL_areSeatsSo 121 = .ok (.invokevirtual 131, 3) := by decide +kernel
theorem dL_areSeatsSo_124 : decode cL_areSeatsSo 124 = .ok (.aload_n 0, 1) := by decide +kernel
theorem dL_areSeatsSo_125 : decode cL_areSeatsSo 125 = .ok (.iload 4, 2) := by decide +kernel
theorem dL_areSeatsSo_127 : decode cL_areSeatsSo 127 = .ok (.iload 5, 2) := by decide +kernel
theorem dL_areSeatsSo_129 : decode cL_areSeatsSo 129 = .ok (.iconst 1, 1) := by decide +kernel
theorem dL_areSeatsSo_130 : decode cL_areSeatsSo 130 = .ok (.isub, 1) := by decide +kernel
theorem dL_areSeatsSo_131 : decode cL_areSeatsSo 131 = .ok (.iload 8, 2) := by decide +kernel
theorem dL_areSeatsSo_133 : decode cL_areSeatsSo 133 = .ok (.isub, 1) := by decide +kernel
theorem dL_areSeatsSo_134 : decode cL_areSeatsSo 134 = .ok (.invokevirtual 131, 3) := by decide +kernel
theorem dL_areSeatsSo_137 : decode cL_areSeatsSo 137 = .ok (.if_icmp .eq 5, 3) := by decide +kernel
theorem dL_areSeatsSo_140 : decode cL_areSeatsSo 140 = .ok (.iconst 0, 1) := by decide +kernel
theorem dL_areSeatsSo_141 : decode cL_areSeatsSo 141 = .ok (.ireturn, 1) := by decide +kernel
theorem dL_areSeatsSo_142 : decode cL_areSeatsSo 142 = .ok (.iload 9, 2) := by decide +kernel
theorem dL_areSeatsSo_144 : decode cL_areSeatsSo 144 = .ok (.ifCond .ne 34, 3) := by decide +kernel
theorem dL_areSeatsSo_147 : decode cL_areSeatsSo 147 = .ok (.iload 7, 2) := by decide +kernel
theorem dL_areSeatsSo_149 : decode cL_areSeatsSo 149 = .ok (.ifCond .ne 29, 3) := by decide +kernel
theorem dL_areSeatsSo_152 : decode cL_areSeatsSo 152 = .ok (.iload 8, 2) := by decide +kernel
theorem dL_areSeatsSo_154 : decode cL_areSeatsSo 154 = .ok (.iconst 1, 1) := by decide +kernel
theorem dL_areSeatsSo_155 : decode cL_areSeatsSo 155 = .ok (.iadd, 1) := by decide +kernel
theorem dL_areSeatsSo_156 : decode cL_areSeatsSo 156 = .ok (.iload 5, 2) := by decide +kernel
theorem dL_areSeatsSo_158 : decode cL_areSeatsSo 158 = .ok (.if_icmp .eq 16, 3) := by decide +kernel
theorem dL_areSeatsSo_161 : decode cL_areSeatsSo 161 = .ok (.aload_n 0, 1) := by decide +kernel
theorem dL_areSeatsSo_162 : decode cL_areSeatsSo 162 = .ok (.iload 4, 2) := by decide +kernel
theorem dL_areSeatsSo_164 : decode cL_areSeatsSo 164 = .ok (.iload 8, 2) := by decide +kernel
theorem dL_areSeatsSo_166 : decode cL_areSeatsSo 166 = .ok (.iconst 1, 1) := by decide +kernel
theorem dL_areSeatsSo_167 : decode cL_areSeatsSo 167 = .ok (.iadd, 1) := by decide +kernel
theorem dL_areSeatsSo_168 : decode cL_areSeatsSo 168 = .ok (.invokevirtual 111, 3) := by decide +kernel
theorem dL_areSeatsSo_171 : decode cL_areSeatsSo 171 = .ok (.ifCond .eq 7, 3) := by decide +kernel
theorem dL_areSeatsSo_174 : decode cL_areSeatsSo 174 = .ok (.iconst 1, 1) := by decide +kernel
theorem dL_areSeatsSo_175 : decode cL_areSeatsSo 175 = .ok (.goto 4, 3) := by decide +kernel
theorem dL_areSeatsSo_178 : decode cL_areSeatsSo 178 = .ok (.iconst 0, 1) := by decide +kernel
theorem dL_areSeatsSo_179 : decode cL_areSeatsSo 179 = .ok (.istore 11, 2) := by decide +kernel
theorem dL_areSeatsSo_181 : decode cL_areSeatsSo 181 = .ok (.iload_n 3, 1) := by decide +kernel
theorem dL_areSeatsSo_182 : decode cL_areSeatsSo 182 = .ok (.iload 10, 2) := by decide +kernel
theorem dL_areSeatsSo_184 : decode cL_areSeatsSo 184 = .ok (.ifCond .le 7, 3) := by decide +kernel
theorem dL_areSeatsSo_187 : decode cL_areSeatsSo 187 = .ok (.iconst 1, 1) := by decide +kernel
theorem dL_areSeatsSo_188 : decode cL_areSeatsSo 188 = .ok (.goto 4, 3) := by decide +kernel
theorem dL_areSeatsSo_191 : decode cL_areSeatsSo 191 = .ok (.iconst 0, 1) := by decide +kernel
theorem dL_areSeatsSo_192 : decode cL_areSeatsSo 192 = .ok (.iadd, 1) := by decide +kernel
theorem dL_areSeatsSo_193 : decode cL_areSeatsSo 193 = .ok (.istore_n 3, 1) := by decide +kernel
theorem dL_areSeatsSo_194 : decode cL_areSeatsSo 194 = .ok (.iload 6, 2) := by decide +kernel
theorem dL_areSeatsSo_196 : decode cL_areSeatsSo 196 = .ok (.iload 9, 2) := by decide +kernel
theorem dL_areSeatsSo_198 : decode cL_areSeatsSo 198 = .ok (.ifCond .ne 7, 3) := by decide +kernel
theorem dL_areSeatsSo_201 : decode cL_areSeatsSo 201 = .ok (.iconst 1, 1) := by decide +kernel
theorem dL_areSeatsSo_202 : decode cL_areSeatsSo 202 = .ok (.goto 4, 3) := by decide +kernel
theorem dL_areSeatsSo_205 : decode cL_areSeatsSo 205 = .ok (.iconst 0, 1) := by decide +kernel
theorem dL_areSeatsSo_206 : decode cL_areSeatsSo 206 = .ok (.iadd, 1) := by decide +kernel
theorem dL_areSeatsSo_207 : decode cL_areSeatsSo 207 = .ok (.istore 6, 2) := by decide +kernel
theorem dL_areSeatsSo_209 : decode cL_areSeatsSo 209 = .ok (.iload 9, 2) := by decide +kernel
theorem dL_areSeatsSo_211 : decode cL_areSeatsSo 211 = .ok (.ifCond .ne 10, 3) := by decide +kernel
theorem dL_areSeatsSo_214 : decode cL_areSeatsSo 214 = .ok (.iload 7, 2) := by decide +kernel
theorem dL_areSeatsSo_216 : decode cL_areSeatsSo 216 = .ok (.iconst 1, 1) := by decide +kernel
theorem dL_areSeatsSo_217 : decode cL_areSeatsSo 217 = .ok (.iadd, 1) := by decide +kernel
theorem dL_areSeatsSo_218 : decode cL_areSeatsSo 218 = .ok (.goto 4, 3) := by decide +kernel
theorem dL_areSeatsSo_221 : decode cL_areSeatsSo 221 = .ok (.iconst 0, 1) := by decide +kernel
theorem dL_areSeatsSo_222 : decode cL_areSeatsSo 222 = .ok (.istore 7, 2) := by decide +kernel
theorem dL_areSeatsSo_224 : decode cL_areSeatsSo 224 = .ok (.iload 7, 2) := by decide +kernel
theorem dL_areSeatsSo_226 : decode cL_areSeatsSo 226 = .ok (.iload_n 2, 1) := by decide +kernel
theorem dL_areSeatsSo_227 : decode cL_areSeatsSo 227 = .ok (.if_icmp .le 8, 3) := by decide +kernel
theorem dL_areSeatsSo_230 : decode cL_areSeatsSo 230 = .ok (.iload 7, 2) := by decide +kernel
theorem dL_areSeatsSo_232 : decode cL_areSeatsSo 232 = .ok (.goto 4, 3) := by decide +kernel
theorem dL_areSeatsSo_235 : decode cL_areSeatsSo 235 = .ok (.iload_n 2, 1) := by decide +kernel
theorem dL_areSeatsSo_236 : decode cL_areSeatsSo 236 = .ok (.istore_n 2, 1) := by decide +kernel
theorem dL_areSeatsSo_237 : decode cL_areSeatsSo 237 = .ok (.iload_n 1, 1) := by decide +kernel
theorem dL_areSeatsSo_238 : decode cL_areSeatsSo 238 = .ok (.iload 11, 2) := by decide +kernel
theorem dL_areSeatsSo_240 : decode cL_areSeatsSo 240 = .ok (.ifCond .eq 7, 3) := by decide +kernel
theorem dL_areSeatsSo_243 : decode cL_areSeatsSo 243 = .ok (.iconst 1, 1) := by decide +kernel
theorem dL_areSeatsSo_244 : decode cL_areSeatsSo 244 = .ok (.goto 4, 3) := by decide +kernel
theorem dL_areSeatsSo_247 : decode cL_areSeatsSo 247 = .ok (.iconst 0, 1) := by decide +kernel
theorem dL_areSeatsSo_248 : decode cL_areSeatsSo 248 = .ok (.iadd, 1) := by decide +kernel
theorem dL_areSeatsSo_249 : decode cL_areSeatsSo 249 = .ok (.istore_n 1, 1) := by decide +kernel
theorem dL_areSeatsSo_250 : decode cL_areSeatsSo 250 = .ok (.iinc 8 1, 3) := by decide +kernel
theorem dL_areSeatsSo_253 : decode cL_areSeatsSo 253 = .ok (.goto (-218), 3) := by decide +kernel
theorem dL_areSeatsSo_256 : decode cL_areSeatsSo 256 = .ok (.iload 5, 2) := by decide +kernel
theorem dL_areSeatsSo_258 : decode cL_areSeatsSo 258 = .ok (.iconst 1, 1) := by decide +kernel
theorem dL_areSeatsSo_259 : decode cL_areSeatsSo 259 = .ok (.if_icmp .lt 21, 3) := by decide +kernel
theorem dL_areSeatsSo_262 : decode cL_areSeatsSo 262 = .ok (.iload 5, 2) := by decide +kernel
theorem dL_areSeatsSo_264 : decode cL_areSeatsSo 264 = .ok (.bipush 20, 2) := by decide +kernel
theorem dL_areSeatsSo_266 : decode cL_areSeatsSo 266 = .ok (.if_icmp .gt 14, 3) := by decide +kernel
theorem dL_areSeatsSo_269 : decode cL_areSeatsSo 269 = .ok (.aload_n 0, 1) := by decide +kernel
theorem dL_areSeatsSo_270 : decode cL_areSeatsSo 270 = .ok (.iload 4, 2) := by decide +kernel
theorem dL_areSeatsSo_272 : decode cL_areSeatsSo 272 = .ok (.invokevirtual 105, 3) := by decide +kernel
theorem dL_areSeatsSo_275 : decode cL_areSeatsSo 275 = .ok (.iload 6, 2) := by decide +kernel
theorem dL_areSeatsSo_277 : decode cL_areSeatsSo 277 = .ok (.if_icmp .eq 5, 3) := by decide +kernel
theorem dL_areSeatsSo_280 : decode cL_areSeatsSo 280 = .ok (.iconst 0, 1) := by decide +kernel
theorem dL_areSeatsSo_281 : decode cL_areSeatsSo 281 = .ok (.ireturn, 1) := by decide +kernel
theorem dL_areSeatsSo_282 : decode cL_areSeatsSo 282 = .ok (.iinc 4 1, 3) := by decide +kernel
theorem dL_areSeatsSo_285 : decode cL_areSeatsSo 285 = .ok (.goto (-276), 3) := by decide +kernel
theorem dL_areSeatsSo_288 : decode cL_areSeatsSo 288 = .ok (.iconst 1, 1) := by decide +kernel
theorem dL_areSeatsSo_289 : decode cL_areSeatsSo 289 = .ok (.istore 4, 2) := by decide +kernel
theorem dL_areSeatsSo_291 : decode cL_areSeatsSo 291 = .ok (.iload 4, 2) := by decide +kernel
theorem dL_areSeatsSo_293 : decode cL_areSeatsSo 293 = .ok (.aload_n 0, 1) := by decide +kernel
theorem dL_areSeatsSo_294 : decode cL_areSeatsSo 294 = .ok (.invokevirtual 70, 3) := by decide +kernel
theorem dL_areSeatsSo_297 : decode cL_areSeatsSo 297 = .ok (.if_icmp .gt 71, 3) := by decide +kernel
theorem dL_areSeatsSo_300 : decode cL_areSeatsSo 300 = .ok (.iload_n 3, 1) := by decide +kernel
theorem dL_areSeatsSo_301 : decode cL_areSeatsSo 301 = .ok (.aload_n 0, 1) := by decide +kernel
theorem dL_areSeatsSo_302 : decode cL_areSeatsSo 302 = .ok (.iload 4, 2) := by decide +kernel
theorem dL_areSeatsSo_304 : decode cL_areSeatsSo 304 = .ok (.invokevirtual 117, 3) := by decide +kernel
theorem dL_areSeatsSo_307 : decode cL_areSeatsSo 307 = .ok (.isub, 1) := by decide +kernel
theorem dL_areSeatsSo_308 : decode cL_areSeatsSo 308 = .ok (.istore_n 3, 1) := by decide +kernel
theorem dL_areSeatsSo_309 : decode cL_areSeatsSo 309 = .ok (.aload_n 0, 1) := by decide +kernel
theorem dL_areSeatsSo_310 : decode cL_areSeatsSo 310 = .ok (.iload 4, 2) := by decide +kernel
theorem dL_areSeatsSo_312 : decode cL_areSeatsSo 312 = .ok (.invokevirtual 114, 3) := by decide +kernel
theorem dL_areSeatsSo_315 : decode cL_areSeatsSo 315 = .ok (.iconst 2, 1) := by decide +kernel
theorem dL_areSeatsSo_316 : decode cL_areSeatsSo 316 = .ok (.if_icmp .ge 7, 3) := by decide +kernel
theorem dL_areSeatsSo_319 : decode cL_areSeatsSo 319 = .ok (.iconst 1, 1) := by decide +kernel
theorem dL_areSeatsSo_320 : decode cL_areSeatsSo 320 = .ok (.goto 4, 3) := by decide +kernel
theorem dL_areSeatsSo_323 : decode cL_areSeatsSo 323 = .ok (.iconst 0, 1) := by decide +kernel
theorem dL_areSeatsSo_324 : decode cL_areSeatsSo 324 = .ok (.aload_n 0, 1) := by decide +kernel
theorem dL_areSeatsSo_325 : decode cL_areSeatsSo 325 = .ok (.iload 4, 2) := by decide +kernel
theorem dL_areSeatsSo_327 : decode cL_areSeatsSo 327 = .ok (.invokevirtual 117, 3) := by decide +kernel
theorem dL_areSeatsSo_330 : decode cL_areSeatsSo 330 = .ok (.ifCond .le 7, 3) := by decide +kernel
theorem dL_areSeatsSo_333 : decode cL_areSeatsSo 333 = .ok (.iconst 1, 1) := by decide +kernel
theorem dL_areSeatsSo_334 : decode cL_areSeatsSo 334 = .ok (.goto 4, 3) := by decide +kernel
theorem dL_areSeatsSo_337 : decode cL_areSeatsSo 337 = .ok (.iconst 0, 1) := by decide +kernel
theorem dL_areSeatsSo_338 : decode cL_areSeatsSo 338 = .ok (.if_icmp .ne 22, 3) := by decide +kernel
theorem dL_areSeatsSo_341 : decode cL_areSeatsSo 341 = .ok (.aload_n 0, 1) := by decide +kernel
theorem dL_areSeatsSo_342 : decode cL_areSeatsSo 342 = .ok (.iload 4, 2) := by decide +kernel
theorem dL_areSeatsSo_344 : decode cL_areSeatsSo 344 = .ok (.invokevirtual 114, 3) := by decide +kernel
theorem dL_areSeatsSo_347 : decode cL_areSeatsSo 347 = .ok (.iconst 1, 1) := by decide +kernel
theorem dL_areSeatsSo_348 : decode cL_areSeatsSo 348 = .ok (.if_icmp .le 14, 3) := by decide +kernel
theorem dL_areSeatsSo_351 : decode cL_areSeatsSo 351 = .ok (.aload_n 0, 1) := by decide +kernel
theorem dL_areSeatsSo_352 : decode cL_areSeatsSo 352 = .ok (.iload 4, 2) := by decide +kernel
theorem dL_areSeatsSo_354 : decode cL_areSeatsSo 354 = .ok (.invokevirtual 120, 3) := by decide +kernel
theorem dL_areSeatsSo_357 : decode cL_areSeatsSo 357 = .ok (.ifCond .eq 5, 3) := by decide +kernel
theorem dL_areSeatsSo_360 : decode cL_areSeatsSo 360 = .ok (.iconst 0, 1) := by decide +kernel
theorem dL_areSeatsSo_361 : decode cL_areSeatsSo 361 = .ok (.ireturn, 1) := by decide +kernel
theorem dL_areSeatsSo_362 : decode cL_areSeatsSo 362 = .ok (.iinc 4 1, 3) := by decide +kernel
theorem dL_areSeatsSo_365 : decode cL_areSeatsSo 365 = .ok (.goto (-74), 3) := by decide +kernel
theorem dL_areSeatsSo_368 : decode cL_areSeatsSo 368 = .ok (.aload_n 0, 1) := by decide +kernel
theorem dL_areSeatsSo_369 : decode cL_areSeatsSo 369 = .ok (.invokestatic 102, 3) := by decide +kernel
theorem dL_areSeatsSo_372 : decode cL_areSeatsSo 372 = .ok (.istore 4, 2) := by decide +kernel
theorem dL_areSeatsSo_374 : decode cL_areSeatsSo 374 = .ok (.iload_n 3, 1) := by decide +kernel
theorem dL_areSeatsSo_375 : decode cL_areSeatsSo 375 = .ok (.ifCond .ne 52, 3) := by decide +kernel
theorem dL_areSeatsSo_378 : decode cL_areSeatsSo 378 = .ok (.aload_n 0, 1) := by decide +kernel
theorem dL_areSeatsSo_379 : decode cL_areSeatsSo 379 = .ok (.invokevirtual 96, 3) := by decide +kernel
theorem dL_areSeatsSo_382 : decode cL_areSeatsSo 382 = .ok (.iload_n 1, 1) := by decide +kernel
theorem dL_areSeatsSo_383 : decode cL_areSeatsSo 383 = .ok (.if_icmp .ne 44, 3) := by decide +kernel
theorem dL_areSeatsSo_386 : decode cL_areSeatsSo 386 = .ok (.aload_n 0, 1) := by decide +kernel
theorem dL_areSeatsSo_387 : decode cL_areSeatsSo 387 = .ok (.invokevirtual 99, 3) := by decide +kernel
theorem dL_areSeatsSo_390 : decode cL_areSeatsSo 390 = .ok (.iload_n 2, 1) := by decide +kernel
theorem dL_areSeatsSo_391 : decode cL_areSeatsSo 391 = .ok (.if_icmp .ne 36, 3) := by decide +kernel
theorem dL_areSeatsSo_394 : decode cL_areSeatsSo 394 = .ok (.iload 4, 2) := by decide +kernel
theorem dL_areSeatsSo_396 : decode cL_areSeatsSo 396 = .ok (.ldc 30, 2) := by decide +kernel
theorem dL_areSeatsSo_398 : decode cL_areSeatsSo 398 = .ok (.if_icmp .eq 25, 3) := by decide +kernel
theorem dL_areSeatsSo_401 : decode cL_areSeatsSo 401 = .ok (.iload 4, 2) := by decide +kernel
theorem dL_areSeatsSo_403 : decode cL_areSeatsSo 403 = .ok (.aload_n 0, 1) := by decide +kernel
theorem dL_areSeatsSo_404 : decode cL_areSeatsSo 404 = .ok (.invokevirtual 93, 3) := by decide +kernel
theorem dL_areSeatsSo_407 : decode cL_areSeatsSo 407 = .ok (.if_icmp .le 20, 3) := by decide +kernel
theorem dL_areSeatsSo_410 : decode cL_areSeatsSo 410 = .ok (.iload 4, 2) := by decide +kernel
theorem dL_areSeatsSo_412 : decode cL_areSeatsSo 412 = .ok (.aload_n 0, 1) := by decide +kernel
theorem dL_areSeatsSo_413 : decode cL_areSeatsSo 413 = .ok (.invokevirtual 93, 3) := by decide +kernel
theorem dL_areSeatsSo_416 : decode cL_areSeatsSo 416 = .ok (.sipush 200, 3) := by decide +kernel
theorem dL_areSeatsSo_419 : decode cL_areSeatsSo 419 = .ok (.iadd, 1) := by decide +kernel
theorem dL_areSeatsSo_420 : decode cL_areSeatsSo 420 = .ok (.if_icmp .gt 7, 3) := by decide +kernel
theorem dL_areSeatsSo_423 : decode cL_areSeatsSo 423 = .ok (.iconst 1, 1) := by decide +kernel
theorem dL_areSeatsSo_424 : decode cL_areSeatsSo 424 = .ok (.goto 4, 3) := by decide +kernel
theorem dL_areSeatsSo_427 : decode cL_areSeatsSo 427 = .ok (.iconst 0, 1) := by decide +kernel
theorem dL_areSeatsSo_428 : decode cL_areSeatsSo 428 = .ok (.ireturn, 1) := by decide +kernel
theorem dL_isFree_0 : decode cL_isFree 0 = .ok (.iload_n 2, 1) := by decide +kernel
theorem dL_isFree_1 : decode cL_isFree 1 = .ok (.iload_n 3, 1) := by decide +kernel
theorem dL_isFree_2 : decode cL_isFree 2 = .ok (.iadd, 1) := by decide +kernel
theorem dL_isFree_3 : decode cL_isFree 3 = .ok (.aload_n 0, 1) := by decide +kernel
theorem dL_isFree_4 : decode cL_isFree 4 = .ok (.iload_n 1, 1) := by decide +kernel
theorem dL_isFree_5 : decode cL_isFree 5 = .ok (.invokestatic 127, 3) := by decide +kernel
theorem dL_isFree_8 : decode cL_isFree 8 = .ok (.if_icmp .gt 7, 3) := by decide +kernel
theorem dL_isFree_11 : decode cL_isFree 11 = .ok (.iconst 1, 1) := by decide +kernel
theorem dL_isFree_12 : decode cL_isFree 12 = .ok (.goto 4, 3) := by decide +kernel
theorem dL_isFree_15 : decode cL_isFree 15 = .ok (.iconst 0, 1) := by decide +kernel
theorem dL_isFree_16 : decode cL_isFree 16 = .ok (.istore 4, 2) := by decide +kernel
theorem dL_isFree_18 : decode cL_isFree 18 = .ok (.iload_n 2, 1) := by decide +kernel
theorem dL_isFree_19 : decode cL_isFree 19 = .ok (.istore 5, 2) := by decide +kernel
theorem dL_isFree_21 : decode cL_isFree 21 = .ok (.iload 5, 2) := by decide +kernel
theorem dL_isFree_23 : decode cL_isFree 23 = .ok (.iload_n 2, 1) := by decide +kernel
theorem dL_isFree_24 : decode cL_isFree 24 = .ok (.iload_n 3, 1) := by decide +kernel
theorem dL_isFree_25 : decode cL_isFree 25 = .ok (.iadd, 1) := by decide +kernel
theorem dL_isFree_26 : decode cL_isFree 26 = .ok (.if_icmp .ge 31, 3) := by decide +kernel
theorem dL_isFree_29 : decode cL_isFree 29 = .ok (.iload 4, 2) := by decide +kernel
theorem dL_isFree_31 : decode cL_isFree 31 = .ok (.ifCond .eq 26, 3) := by decide +kernel
theorem dL_isFree_34 : decode cL_isFree 34 = .ok (.aload_n 0, 1) := by decide +kernel
theorem dL_isFree_35 : decode cL_isFree 35 = .ok (.iload_n 1, 1) := by decide +kernel
theorem dL_isFree_36 : decode cL_isFree 36 = .ok (.iload 5, 2) := by decide +kernel
theorem dL_isFree_38 : decode cL_isFree 38 = .ok (.invokevirtual 111, 3) := by decide +kernel
theorem dL_isFree_41 : decode cL_isFree 41 = .ok (.ifCond .ne 7, 3) := by decide +kernel
theorem dL_isFree_44 : decode cL_isFree 44 = .ok (.iconst 1, 1) := by decide +kernel
theorem dL_isFree_45 : decode cL_isFree 45 = .ok (.goto 4, 3) := by decide +kernel
theorem dL_isFree_48 : decode cL_isFree 48 = .ok (.iconst 0, 1) := by decide +kernel
theorem dL_isFree_49 : decode cL_isFree 49 = .ok (.istore 4, 2) := by decide +kernel
theorem dL_isFree_51 : decode cL_isFree 51 = .ok (.iinc 5 1, 3) := by decide +kernel
theorem dL_isFree_54 : decode cL_isFree 54 = .ok (.goto (-33), 3) := by decide +kernel
theorem dL_isFree_57 : decode cL_isFree 57 = .ok (.iload 4, 2) := by decide +kernel
theorem dL_isFree_59 : decode cL_isFree 59 = .ok (.ireturn, 1) := by decide +kernel
theorem dL_sum_0 : decode cL_sum 0 = .ok (.iconst 0, 1) := by decide +kernel
theorem dL_sum_1 : decode cL_sum 1 = .ok (.istore 4, 2) := by decide +kernel
theorem dL_sum_3 : decode cL_sum 3 = .ok (.iload_n 2, 1) := by decide +kernel
theorem dL_sum_4 : decode cL_sum 4 = .ok (.istore 5, 2) := by decide +kernel
theorem dL_sum_6 : decode cL_sum 6 = .ok (.iload 5, 2) := by decide +kernel
theorem dL_sum_8 : decode cL_sum 8 = .ok (.iload_n 2, 1) := by decide +kernel
theorem dL_sum_9 : decode cL_sum 9 = .ok (.iload_n 3, 1) := by decide +kernel
theorem dL_sum_10 : decode cL_sum 10 = .ok (.iadd, 1) := by decide +kernel
theorem dL_sum_11 : decode cL_sum 11 = .ok (.if_icmp .ge 21, 3) := by decide +kernel
theorem dL_sum_14 : decode cL_sum 14 = .ok (.iload 4, 2) := by decide +kernel
theorem dL_sum_16 : decode cL_sum 16 = .ok (.aload_n 0, 1) := by decide +kernel
theorem dL_sum_17 : decode cL_sum 17 = .ok (.iload_n 1, 1) := by decide +kernel
theorem dL_sum_18 : decode cL_sum 18 = .ok (.iload 5, 2) := by decide +kernel
theorem dL_sum_20 : decode cL_sum 20 = .ok (.invokevirtual 131, 3) := by decide +kernel
theorem dL_sum_23 : decode cL_sum 23 = .ok (.iadd, 1) := by decide +kernel
theorem dL_sum_24 : decode cL_sum 24 = .ok (.istore 4, 2) := by decide +kernel
theorem dL_sum_26 : decode cL_sum 26 = .ok (.iinc 5 1, 3) := by decide +kernel
theorem dL_sum_29 : decode cL_sum 29 = .ok (.goto (-23), 3) := by decide +kernel
theorem dL_sum_32 : decode cL_sum 32 = .ok (.iload 4, 2) := by decide +kernel
theorem dL_sum_34 : decode cL_sum 34 = .ok (.ireturn, 1) := by decide +kernel
theorem dL_isBestSo_0 : decode cL_isBestSo 0 = .ok (.aload_n 0, 1) := by decide +kernel
theorem dL_isBestSo_1 : decode cL_isBestSo 1 = .ok (.iconst 3, 1) := by decide +kernel
theorem dL_isBestSo_2 : decode cL_isBestSo 2 = .ok (.iload_n 1, 1) := by decide +kernel
theorem dL_isBestSo_3 : decode cL_isBestSo 3 = .ok (.iconst 0, 1) := by decide +kernel
theorem dL_isBestSo_4 : decode cL_isBestSo 4 = .ok (.iconst 0, 1) := by decide +kernel
theorem dL_isBestSo_5 : decode cL_isBestSo 5 = .ok (.invokestatic 76, 3) := by decide +kernel
theorem dL_isBestSo_8 : decode cL_isBestSo 8 = .ok (.istore_n 2, 1) := by decide +kernel
theorem dL_isBestSo_9 : decode cL_isBestSo 9 = .ok (.iload_n 2, 1) := by decide +kernel
theorem dL_isBestSo_10 : decode cL_isBestSo 10 = .ok (.ldc 30, 2) := by decide +kernel
theorem dL_isBestSo_12 : decode cL_isBestSo 12 = .ok (.if_icmp .ne 17, 3) := by decide +kernel
theorem dL_isBestSo_15 : decode cL_isBestSo 15 = .ok (.aload_n 0, 1) := by decide +kernel
theorem dL_isBestSo_16 : decode cL_isBestSo 16 = .ok (.invokevirtual 99, 3) := by decide +kernel
theorem dL_isBestSo_19 : decode cL_isBestSo 19 = .ok (.iload_n 1, 1) := by decide +kernel
theorem dL_isBestSo_20 : decode cL_isBestSo 20 = .ok (.if_icmp .ge 7, 3) := by decide +kernel
theorem dL_isBestSo_23 : decode cL_isBestSo 23 = .ok (.iconst 1, 1) := by decide +kernel
theorem dL_isBestSo_24 : decode cL_isBestSo 24 = .ok (.goto 4, 3) := by decide +kernel
theorem dL_isBestSo_27 : decode cL_isBestSo 27 = .ok (.iconst 0, 1) := by decide +kernel
theorem dL_isBestSo_28 : decode cL_isBestSo 28 = .ok (.ireturn, 1) := by decide +kernel
theorem dL_isBestSo_29 : decode cL_isBestSo 29 = .ok (.aload_n 0, 1) := by decide +kernel
theorem dL_isBestSo_30 : decode cL_isBestSo 30 = .ok (.iload_n 2, 1) := by decide +kernel
theorem dL_isBestSo_31 : decode cL_isBestSo 31 = .ok (.bipush 100, 2) := by decide +kernel
theorem dL_isBestSo_33 : decode cL_isBestSo 33 = .ok (.idiv, 1) := by decide +kernel
theorem dL_isBestSo_34 : decode cL_isBestSo 34 = .ok (.iload_n 2, 1) := by decide +kernel
theorem dL_isBestSo_35 : decode cL_isBestSo 35 = .ok (.bipush 100, 2) := by decide +kernel
theorem dL_isBestSo_37 : decode cL_isBestSo 37 = .ok (.irem, 1) := by decide +kernel
theorem dL_isBestSo_38 : decode cL_isBestSo 38 = .ok (.iload_n 1, 1) := by decide +kernel
theorem dL_isBestSo_39 : decode cL_isBestSo 39 = .ok (.invokestatic 134, 3) := by decide +kernel
theorem dL_isBestSo_42 : decode cL_isBestSo 42 = .ok (.istore_n 3, 1) := by decide +kernel
theorem dL_isBestSo_43 : decode cL_isBestSo 43 = .ok (.iconst 0, 1) := by decide +kernel
theorem dL_isBestSo_44 : decode cL_isBestSo 44 = .ok (.istore 4, 2) := by decide +kernel
theorem dL_isBestSo_46 : decode cL_isBestSo 46 = .ok (.iload 4, 2) := by decide +kernel
theorem dL_isBestSo_48 : decode cL_isBestSo 48 = .ok (.aload_n 0, 1) := by decide +kernel
theorem dL_isBestSo_49 : decode cL_isBestSo 49 = .ok (.invokevirtual 73, 3) := by decide +kernel
theorem dL_isBestSo_52 : decode cL_isBestSo 52 = .ok (.if_icmp .ge 84, 3) := by decide +kernel
theorem dL_isBestSo_55 : decode cL_isBestSo 55 = .ok (.iload_n 3, 1) := by decide +kernel
theorem dL_isBestSo_56 : decode cL_isBestSo 56 = .ok (.ifCond .eq 80, 3) := by decide +kernel
theorem dL_isBestSo_59 : decode cL_isBestSo 59 = .ok (.iconst 0, 1) := by decide +kernel
theorem dL_isBestSo_60 : decode cL_isBestSo 60 = .ok (.istore 5, 2) := by decide +kernel
theorem dL_isBestSo_62 : decode cL_isBestSo 62 = .ok (.iload 5, 2) := by decide +kernel
theorem dL_isBestSo_64 : decode cL_isBestSo 64 = .ok (.bipush 20, 2) := by decide +kernel
theorem dL_isBestSo_66 : decode cL_isBestSo 66 = .ok (.if_icmp .ge 64, 3) := by decide +kernel
theorem dL_isBestSo_69 : decode cL_isBestSo 69 = .ok (.iload_n 3, 1) := by decide +kernel
theorem dL_isBestSo_70 : decode cL_isBestSo 70 = .ok (.ifCond .eq 60, 3) := by decide +kernel
theorem dL_isBestSo_73 : decode cL_isBestSo 73 = .ok (.aload_n 0, 1) := by decide +kernel
theorem dL_isBestSo_74 : decode cL_isBestSo 74 = .ok (.iload_n 1, 1) := by decide +kernel
theorem dL_isBestSo_75 : decode cL_isBestSo 75 = .ok (.invokevirtual 138, 3) := by decide +kernel
theorem dL_isBestSo_78 : decode cL_isBestSo 78 = .ok (.ifCond .eq 40, 3) := by decide +kernel
theorem dL_isBestSo_81 : decode cL_isBestSo 81 = .ok (.aload_n 0, 1) := by decide +kernel
theorem dL_isBestSo_82 : decode cL_isBestSo 82 = .ok (.iload 4, 2) := by decide +kernel
theorem dL_isBestSo_84 : decode cL_isBestSo 84 = .ok (.iload 5, 2) := by decide +kernel
theorem dL_isBestSo_86 : decode cL_isBestSo 86 = .ok (.iload_n 1, 1) := by decide +kernel
theorem dL_isBestSo_87 : decode cL_isBestSo 87 = .ok (.invokestatic 134, 3) := by decide +kernel
theorem dL_isBestSo_90 : decode cL_isBestSo 90 = .ok (.ifCond .eq 28, 3) := by decide +kernel
theorem dL_isBestSo_93 : decode cL_isBestSo 93 = .ok (.aload_n 0, 1) := by decide +kernel
theorem dL_isBestSo_94 : decode cL_isBestSo 94 = .ok (.iload 4, 2) := by decide +kernel
theorem dL_isBestSo_96 : decode cL_isBestSo 96 = .ok (.iload 5, 2) := by decide +kernel
theorem dL_isBestSo_98 : decode cL_isBestSo 98 = .ok (.iload_n 1, 1) := by decide +kernel
theorem dL_isBestSo_99 : decode cL_isBestSo 99 = .ok (.invokestatic 142, 3) := by decide +kernel
theorem dL_isBestSo_102 : decode cL_isBestSo 102 = .ok (.aload_n 0, 1) := by decide +kernel
theorem dL_isBestSo_103 : decode cL_isBestSo 103 = .ok (.iload_n 2, 1) := by decide +kernel
theorem dL_isBestSo_104 : decode cL_isBestSo 104 = .ok (.bipush 100, 2) := by decide +kernel
theorem dL_isBestSo_106 : decode cL_isBestSo 106 = .ok (.idiv, 1) := by decide +kernel
theorem dL_isBestSo_107 : decode cL_isBestSo 107 = .ok (.iload_n 2, 1) := by decide +kernel
theorem dL_isBestSo_108 : decode cL_isBestSo 108 = .ok (.bipush 100, 2) := by decide +kernel
theorem dL_isBestSo_110 : decode cL_isBestSo 110 = .ok (.irem, 1) := by decide +kernel
theorem dL_isBestSo_111 : decode cL_isBestSo 111 = .ok (.iload_n 1, 1) := by decide +kernel
theorem dL_isBestSo_112 : decode cL_isBestSo 112 = .ok (.invokestatic 142, 3) := by decide +kernel
theorem dL_isBestSo_115 : decode cL_isBestSo 115 = .ok (.if_icmp .gt 7, 3) := by decide +kernel
theorem dL_isBestSo_118 : decode cL_isBestSo 118 = .ok (.iconst 1, 1) := by decide +kernel
theorem dL_isBestSo_119 : decode cL_isBestSo 119 = .ok (.goto 4, 3) := by decide +kernel
theorem dL_isBestSo_122 : decode cL_isBestSo 122 = .ok (.iconst 0, 1) := by decide +kernel
theorem dL_isBestSo_123 : decode cL_isBestSo 123 = .ok (.istore_n 3, 1) := by decide +kernel
theorem dL_isBestSo_124 : decode cL_isBestSo 124 = .ok (.iinc 5 1, 3) := by decide +kernel
theorem dL_isBestSo_127 : decode cL_isBestSo 127 = .ok (.goto (-65), 3) := by decide +kernel
theorem dL_isBestSo_130 : decode cL_isBestSo 130 = .ok (.iinc 4 1, 3) := by decide +kernel
theorem dL_isBestSo_133 : decode cL_isBestSo 133 = .ok (.goto (-87), 3) := by decide +kernel
theorem dL_isBestSo_136 : decode cL_isBestSo 136 = .ok (.iload_n 3, 1) := by decide +kernel
theorem dL_isBestSo_137 : decode cL_isBestSo 137 = .ok (.ifCond .eq 15, 3) := by decide +kernel
theorem dL_isBestSo_140 : decode cL_isBestSo 140 = .ok (.aload_n 0, 1) := by decide +kernel
theorem dL_isBestSo_141 : decode cL_isBestSo 141 = .ok (.invokevirtual 99, 3) := by decide +kernel
theorem dL_isBestSo_144 : decode cL_isBestSo 144 = .ok (.iload_n 1, 1) := by decide +kernel
theorem dL_isBestSo_145 : decode cL_isBestSo 145 = .ok (.if_icmp .lt 7, 3) := by decide +kernel
theorem dL_isBestSo_148 : decode cL_isBestSo 148 = .ok (.iconst 1, 1) := by decide +kernel
theorem dL_isBestSo_149 : decode cL_isBestSo 149 = .ok (.goto 4, 3) := by decide +kernel
theorem dL_isBestSo_152 : decode cL_isBestSo 152 = .ok (.iconst 0, 1) := by decide +kernel
theorem dL_isBestSo_153 : decode cL_isBestSo 153 = .ok (.ireturn, 1) := by decide +kernel
theorem dL_isGroupSo_0 : decode cL_isGroupSo 0 = .ok (.aload_n 0, 1) := by decide +kernel
theorem dL_isGroupSo_1 : decode cL_isGroupSo 1 = .ok (.iconst 4, 1) := by decide +kernel
theorem dL_isGroupSo_2 : decode cL_isGroupSo 2 = .ok (.iload_n 1, 1) := by decide +kernel
theorem dL_isGroupSo_3 : decode cL_isGroupSo 3 = .ok (.iconst 0, 1) := by decide +kernel
theorem dL_isGroupSo_4 : decode cL_isGroupSo 4 = .ok (.iconst 0, 1) := by decide +kernel
theorem dL_isGroupSo_5 : decode cL_isGroupSo 5 = .ok (.invokestatic 76, 3) := by decide +kernel
theorem dL_isGroupSo_8 : decode cL_isGroupSo 8 = .ok (.istore_n 2, 1) := by decide +kernel
theorem dL_isGroupSo_9 : decode cL_isGroupSo 9 = .ok (.iconst 0, 1) := by decide +kernel
theorem dL_isGroupSo_10 : decode cL_isGroupSo 10 = .ok (.istore_n 3, 1) := by decide +kernel
theorem dL_isGroupSo_11 : decode cL_isGroupSo 11 = .ok (.iconst 0, 1) := by decide +kernel
theorem dL_isGroupSo_12 : decode cL_isGroupSo 12 = .ok (.istore 4, 2) := by decide +kernel
theorem dL_isGroupSo_14 : decode cL_isGroupSo 14 = .ok (.iconst 0, 1) := by decide +kernel
theorem dL_isGroupSo_15 : decode cL_isGroupSo 15 = .ok (.istore 5, 2) := by decide +kernel
theorem dL_isGroupSo_17 : decode cL_isGroupSo 17 = .ok (.iload 5, 2) := by decide +kernel
theorem dL_isGroupSo_19 : decode cL_isGroupSo 19 = .ok (.aload_n 0, 1) := by decide +kernel
theorem dL_isGroupSo_20 : decode cL_isGroupSo 20 = .ok (.invokevirtual 73, 3) := by decide +kernel
theorem dL_isGroupSo_23 : decode cL_isGroupSo 23 = .ok (.if_icmp .ge 105, 3) := by decide +kernel
theorem dL_isGroupSo_26 : decode cL_isGroupSo 26 = .ok (.iload_n 2, 1) := by decide +kernel
theorem dL_isGroupSo_27 : decode cL_isGroupSo 27 = .ok (.ifCond .le 101, 3) := by decide +kernel
theorem dL_isGroupSo_30 : decode cL_isGroupSo 30 = .ok (.aload_n 0, 1) := by decide +kernel
theorem dL_isGroupSo_31 : decode cL_isGroupSo 31 = .ok (.iload_n 1, 1) := by decide +kernel
theorem dL_isGroupSo_32 : decode cL_isGroupSo 32 = .ok (.iload 5, 2) := by decide +kernel
theorem dL_isGroupSo_34 : decode cL_isGroupSo 34 = .ok (.invokevirtual 145, 3) := by decide +kernel
theorem dL_isGroupSo_37 : decode cL_isGroupSo 37 = .ok (.istore 6, 2) := by decide +kernel
theorem dL_isGroupSo_39 : decode cL_isGroupSo 39 = .ok (.iload 6, 2) := by decide +kernel
theorem dL_isGroupSo_41 : decode cL_isGroupSo 41 = .ok (.ifCond .ne 7, 3) := by decide +kernel
theorem dL_isGroupSo_44 : decode cL_isGroupSo 44 = .ok (.iconst 1, 1) := by decide +kernel
theorem dL_isGroupSo_45 : decode cL_isGroupSo 45 = .ok (.goto 4, 3) := by decide +kernel
theorem dL_isGroupSo_48 : decode cL_isGroupSo 48 = .ok (.iconst 0, 1) := by decide +kernel
theorem dL_isGroupSo_49 : decode cL_isGroupSo 49 = .ok (.istore 7, 2) := by decide +kernel
theorem dL_isGroupSo_51 : decode cL_isGroupSo 51 = .ok (.iconst 0, 1) := by decide +kernel
theorem dL_isGroupSo_52 : decode cL_isGroupSo 52 = .ok (.istore 8, 2) := by decide +kernel
theorem dL_isGroupSo_54 : decode cL_isGroupSo 54 = .ok (.iload 8, 2) := by decide +kernel
theorem dL_isGroupSo_56 : decode cL_isGroupSo 56 = .ok (.bipush 20, 2) := by decide +kernel
theorem dL_isGroupSo_58 : decode cL_isGroupSo 58 = .ok (.if_icmp .ge 26, 3) := by decide +kernel
theorem dL_isGroupSo_61 : decode cL_isGroupSo 61 = .ok (.iload 7, 2) := by decide +kernel
theorem dL_isGroupSo_63 : decode cL_isGroupSo 63 = .ok (.ifCond .ne 21, 3) := by decide +kernel
theorem dL_isGroupSo_66 : decode cL_isGroupSo 66 = .ok (.aload_n 0, 1) := by decide +kernel
theorem dL_isGroupSo_67 : decode cL_isGroupSo 67 = .ok (.iload 5, 2) := by decide +kernel
theorem dL_isGroupSo_69 : decode cL_isGroupSo 69 = .ok (.iload 8, 2) := by decide +kernel
theorem dL_isGroupSo_71 : decode cL_isGroupSo 71 = .ok (.iload 6, 2) := by decide +kernel
theorem dL_isGroupSo_73 : decode cL_isGroupSo 73 = .ok (.invokestatic 134, 3) := by decide +kernel
theorem dL_isGroupSo_76 : decode cL_isGroupSo 76 = .ok (.istore 7, 2) := by decide +kernel
theorem dL_isGroupSo_78 : decode cL_isGroupSo 78 = .ok (.iinc 8 1, 3) := by decide +kernel
theorem dL_isGroupSo_81 : decode cL_isGroupSo 81 = .ok (.goto (-27), 3) := by decide +kernel
theorem dL_isGroupSo_84 : decode cL_isGroupSo 84 = .ok (.iload 6, 2) := by decide +kernel
theorem dL_isGroupSo_86 : decode cL_isGroupSo 86 = .ok (.ifCond .lt 14, 3) := by decide +kernel
theorem dL_isGroupSo_89 : decode cL_isGroupSo 89 = .ok (.iload 6, 2) := by decide +kernel
theorem dL_isGroupSo_91 : decode cL_isGroupSo 91 = .ok (.iconst 1, 1) := by decide +kernel
theorem dL_isGroupSo_92 : decode cL_isGroupSo 92 = .ok (.if_icmp .eq 8, 3) := by decide +kernel
theorem dL_isGroupSo_95 : decode cL_isGroupSo 95 = .ok (.iload 7, 2) := by decide +kernel
theorem dL_isGroupSo_97 : decode cL_isGroupSo 97 = .ok (.ifCond .ne 5, 3) := by decide +kernel
theorem dL_isGroupSo_100 : decode cL_isGroupSo 100 = .ok (.iconst 0, 1) := by decide +kernel
theorem dL_isGroupSo_101 : decode cL_isGroupSo 101 = .ok (.ireturn, 1) := by decide +kernel
theorem dL_isGroupSo_102 : decode cL_isGroupSo 102 = .ok (.iload_n 3, 1) := by decide +kernel
theorem dL_isGroupSo_103 : decode cL_isGroupSo 103 = .ok (.iload 6, 2) := by decide +kernel
theorem dL_isGroupSo_105 : decode cL_isGroupSo 105 = .ok (.iadd, 1) := by decide +kernel
theorem dL_isGroupSo_106 : decode cL_isGroupSo 106 = .ok (.istore_n 3, 1) := by decide +kernel
theorem dL_isGroupSo_107 : decode cL_isGroupSo 107 = .ok (.iload 4, 2) := by decide +kernel
theorem dL_isGroupSo_109 : decode cL_isGroupSo 109 = .ok (.iload 6, 2) := by decide +kernel
theorem dL_isGroupSo_111 : decode cL_isGroupSo 111 = .ok (.ifCond .le 7, 3) := by decide +kernel
theorem dL_isGroupSo_114 : decode cL_isGroupSo 114 = .ok (.iconst 1, 1) := by decide +kernel
theorem dL_isGroupSo_115 : decode cL_isGroupSo 115 = .ok (.goto 4, 3) := by decide +kernel
theorem dL_isGroupSo_118 : decode cL_isGroupSo 118 = .ok (.iconst 0, 1) := by decide +kernel
theorem dL_isGroupSo_119 : decode cL_isGroupSo 119 = .ok (.iadd, 1) := by decide +kernel
theorem dL_isGroupSo_120 : decode cL_isGroupSo 120 = .ok (.istore 4, 2) := by decide +kernel
theorem dL_isGroupSo_122 : decode cL_isGroupSo 122 = .ok (.iinc 5 1, 3) := by decide +kernel
theorem dL_isGroupSo_125 : decode cL_isGroupSo 125 = .ok (.goto (-108), 3) := by decide +kernel
theorem dL_isGroupSo_128 : decode cL_isGroupSo 128 = .ok (.iload_n 2, 1) := by decide +kernel
theorem dL_isGroupSo_129 : decode cL_isGroupSo 129 = .ok (.ldc 30, 2) := by decide +kernel
theorem dL_isGroupSo_131 : decode cL_isGroupSo 131 = .ok (.if_icmp .ne 19, 3) := by decide +kernel
theorem dL_isGroupSo_134 : decode cL_isGroupSo 134 = .ok (.aload_n 0, 1) := by decide +kernel
theorem dL_isGroupSo_135 : decode cL_isGroupSo 135 = .ok (.invokevirtual 99, 3) := by decide +kernel
theorem dL_isGroupSo_138 : decode cL_isGroupSo 138 = .ok (.iload_n 1, 1) := by decide +kernel
theorem dL_isGroupSo_139 : decode cL_isGroupSo 139 = .ok (.if_icmp .ge 7, 3) := by decide +kernel
theorem dL_isGroupSo_142 : decode cL_isGroupSo 142 = .ok (.iconst 1, 1) := by decide +kernel
theorem dL_isGroupSo_143 : decode cL_isGroupSo 143 = .ok (.goto 54, 3) := by decide +kernel
theorem dL_isGroupSo_146 : decode cL_isGroupSo 146 = .ok (.iconst 0, 1) := by decide +kernel
theorem dL_isGroupSo_147 : decode cL_isGroupSo 147 = .ok (.goto 50, 3) := by decide +kernel
theorem dL_isGroupSo_150 : decode cL_isGroupSo 150 = .ok (.iload_n 2, 1) := by decide +kernel
theorem dL_isGroupSo_151 : decode cL_isGroupSo 151 = .ok (.iconst 1, 1) := by decide +kernel
theorem dL_isGroupSo_152 : decode cL_isGroupSo 152 = .ok (.if_icmp .lt 44, 3) := by decide +kernel
theorem dL_isGroupSo_155 : decode cL_isGroupSo 155 = .ok (.iload_n 3, 1) := by decide +kernel
theorem dL_isGroupSo_156 : decode cL_isGroupSo 156 = .ok (.iload_n 1, 1) := by decide +kernel
theorem dL_isGroupSo_157 : decode cL_isGroupSo 157 = .ok (.if_icmp .ne 39, 3) := by decide +kernel
theorem dL_isGroupSo_160 : decode cL_isGroupSo 160 = .ok (.iload 4, 2) := by decide +kernel
theorem dL_isGroupSo_162 : decode cL_isGroupSo 162 = .ok (.iload_n 2, 1) := by decide +kernel
theorem dL_isGroupSo_163 : decode cL_isGroupSo 163 = .ok (.if_icmp .ne 33, 3) := by decide +kernel
theorem dL_isGroupSo_166 : decode cL_isGroupSo 166 = .ok (.iload_n 2, 1) := by decide +kernel
theorem dL_isGroupSo_167 : decode cL_isGroupSo 167 = .ok (.iconst 1, 1) := by decide +kernel
theorem dL_isGroupSo_168 : decode cL_isGroupSo 168 = .ok (.if_icmp .le 7, 3) := by decide +kernel
theorem dL_isGroupSo_171 : decode cL_isGroupSo 171 = .ok (.iconst 1, 1) := by decide +kernel
theorem dL_isGroupSo_172 : decode cL_isGroupSo 172 = .ok (.goto 4, 3) := by decide +kernel
theorem dL_isGroupSo_175 : decode cL_isGroupSo 175 = .ok (.iconst 0, 1) := by decide +kernel
theorem dL_isGroupSo_176 : decode cL_isGroupSo 176 = .ok (.aload_n 0, 1) := by decide +kernel
theorem dL_isGroupSo_177 : decode cL_isGroupSo 177 = .ok (.invokevirtual 99, 3) := by decide +kernel
theorem dL_isGroupSo_180 : decode cL_isGroupSo 180 = .ok (.iload_n 1, 1) := by decide +kernel
theorem dL_isGroupSo_181 : decode cL_isGroupSo 181 = .ok (.if_icmp .ge 7, 3) := by decide +kernel
theorem dL_isGroupSo_184 : decode cL_isGroupSo 184 = .ok (.iconst 1, 1) := by decide +kernel
theorem dL_isGroupSo_185 : decode cL_isGroupSo 185 = .ok (.goto 4, 3) := by decide +kernel
theorem dL_isGroupSo_188 : decode cL_isGroupSo 188 = .ok (.iconst 0, 1) := by decide +kernel
theorem dL_isGroupSo_189 : decode cL_isGroupSo 189 = .ok (.if_icmp .ne 7, 3) := by decide +kernel
theorem dL_isGroupSo_192 : decode cL_isGroupSo 192 = .ok (.iconst 1, 1) := by decide +kernel
theorem dL_isGroupSo_193 : decode cL_isGroupSo 193 = .ok (.goto 4, 3) := by decide +kernel
theorem dL_isGroupSo_196 : decode cL_isGroupSo 196 = .ok (.iconst 0, 1) := by decide +kernel
theorem dL_isGroupSo_197 : decode cL_isGroupSo 197 = .ok (.ireturn, 1) := by decide +kernel
theorem dL_law_0 : decode cL_law 0 = .ok (.new 9, 3) := by decide +kernel
theorem dL_law_3 : decode cL_law 3 = .ok (.dup, 1) := by decide +kernel
theorem dL_law_4 : decode cL_law 4 = .ok (.invokespecial 148, 3) := by decide +kernel
theorem dL_law_7 : decode cL_law 7 = .ok (.astore_n 1, 1) := by decide +kernel
theorem dL_law_8 : decode cL_law 8 = .ok (.new 9, 3) := by decide +kernel
theorem dL_law_11 : decode cL_law 11 = .ok (.dup, 1) := by decide +kernel
theorem dL_law_12 : decode cL_law 12 = .ok (.invokespecial 148, 3) := by decide +kernel
theorem dL_law_15 : decode cL_law 15 = .ok (.astore_n 2, 1) := by decide +kernel
theorem dL_law_16 : decode cL_law 16 = .ok (.iconst 0, 1) := by decide +kernel
theorem dL_law_17 : decode cL_law 17 = .ok (.istore_n 3, 1) := by decide +kernel
theorem dL_law_18 : decode cL_law 18 = .ok (.iload_n 3, 1) := by decide +kernel
theorem dL_law_19 : decode cL_law 19 = .ok (.bipush 72, 2) := by decide +kernel
theorem dL_law_21 : decode cL_law 21 = .ok (.if_icmp .ge 127, 3) := by decide +kernel
theorem dL_law_24 : decode cL_law 24 = .ok (.aload_n 0, 1) := by decide +kernel
theorem dL_law_25 : decode cL_law 25 = .ok (.iload_n 3, 1) := by decide +kernel
theorem dL_law_26 : decode cL_law 26 = .ok (.invokestatic 149, 3) := by decide +kernel
theorem dL_law_29 : decode cL_law 29 = .ok (.istore 4, 2) := by decide +kernel
theorem dL_law_31 : decode cL_law 31 = .ok (.aload_n 1, 1) := by decide +kernel
theorem dL_law_32 : decode cL_law 32 = .ok (.iload 4, 2) := by decide +kernel
theorem dL_law_34 : decode cL_law 34 = .ok (.invokestatic 153, 3) := by decide +kernel
theorem dL_law_37 : decode cL_law 37 = .ok (.istore 5, 2) := by decide +kernel
theorem dL_law_39 : decode cL_law 39 = .ok (.iload 5, 2) := by decide +kernel
theorem dL_law_41 : decode cL_law 41 = .ok (.ldc 30, 2) := by decide +kernel
theorem dL_law_43 : decode cL_law 43 = .ok (.if_icmp .eq 14, 3) := by decide +kernel
theorem dL_law_46 : decode cL_law 46 = .ok (.aload_n 2, 1) := by decide +kernel
theorem dL_law_47 : decode cL_law 47 = .ok (.iload 4, 2) := by decide +kernel
theorem dL_law_49 : decode cL_law 49 = .ok (.invokestatic 153, 3) := by decide +kernel
theorem dL_law_52 : decode cL_law 52 = .ok (.iload 5, 2) := by decide +kernel
theorem dL_law_54 : decode cL_law 54 = .ok (.if_icmp .ne 32, 3) := by decide +kernel
theorem dL_law_57 : decode cL_law 57 = .ok (.iload_n 3, 1) := by decide +kernel
theorem dL_law_58 : decode cL_law 58 = .ok (.iconst 3, 1) := by decide +kernel
theorem dL_law_59 : decode cL_law 59 = .ok (.irem, 1) := by decide +kernel
theorem dL_law_60 : decode cL_law 60 = .ok (.iconst 2, 1) := by decide +kernel
theorem dL_law_61 : decode cL_law 61 = .ok (.if_icmp .ne 11, 3) := by decide +kernel
theorem dL_law_64 : decode cL_law 64 = .ok (.aload_n 1, 1) := by decide +kernel
theorem dL_law_65 : decode cL_law 65 = .ok (.aload_n 2, 1) := by decide +kernel
theorem dL_law_66 : decode cL_law 66 = .ok (.invokestatic 156, 3) := by decide +kernel
theorem dL_law_69 : decode cL_law 69 = .ok (.ifCond .eq 17, 3) := by decide +kernel
theorem dL_law_72 : decode cL_law 72 = .ok (.iload_n 3, 1) := by decide +kernel
theorem dL_law_73 : decode cL_law 73 = .ok (.iconst 4, 1) := by decide +kernel
theorem dL_law_74 : decode cL_law 74 = .ok (.irem, 1) := by decide +kernel
theorem dL_law_75 : decode cL_law 75 = .ok (.iconst 1, 1) := by decide +kernel
theorem dL_law_76 : decode cL_law 76 = .ok (.if_icmp .ne 12, 3) := by decide +kernel
theorem dL_law_79 : decode cL_law 79 = .ok (.aload_n 1, 1) := by decide +kernel
theorem dL_law_80 : decode cL_law 80 = .ok (.invokestatic 160, 3) := by decide +kernel
theorem dL_law_83 : decode cL_law 83 = .ok (.ifCond .ne 5, 3) := by decide +kernel
theorem dL_law_86 : decode cL_law 86 = .ok (.iconst 0, 1) := by decide +kernel
theorem dL_law_87 : decode cL_law 87 = .ok (.ireturn, 1) := by decide +kernel
theorem dL_law_88 : decode cL_law 88 = .ok (.iload_n 3, 1) := by decide +kernel
theorem dL_law_89 : decode cL_law 89 = .ok (.bipush 6, 2) := by decide +kernel
theorem dL_law_91 : decode cL_law 91 = .ok (.irem, 1) := by decide +kernel
theorem dL_law_92 : decode cL_law 92 = .ok (.iconst 3, 1) := by decide +kernel
theorem dL_law_93 : decode cL_law 93 = .ok (.if_icmp .ne 21, 3) := by decide +kernel
theorem dL_law_96 : decode cL_law 96 = .ok (.aload_n 1, 1) := by decide +kernel
theorem dL_law_97 : decode cL_law 97 = .ok (.iconst 1, 1) := by decide +kernel
theorem dL_law_98 : decode cL_law 98 = .ok (.iload 4, 2) := by decide +kernel
theorem dL_law_100 : decode cL_law 100 = .ok (.iconst 3, 1) := by decide +kernel
theorem dL_law_101 : decode cL_law 101 = .ok (.ishr, 1) := by decide +kernel
theorem dL_law_102 : decode cL_law 102 = .ok (.bipush 6, 2) := by decide +kernel
theorem dL_law_104 : decode cL_law 104 = .ok (.invokestatic 65, 3) := by decide +kernel
theorem dL_law_107 : decode cL_law 107 = .ok (.iadd, 1) := by decide +kernel
theorem dL_law_108 : decode cL_law 108 = .ok (.invokestatic 164, 3) := by decide +kernel
theorem dL_law_111 : decode cL_law 111 = .ok (.ifCond .eq 29, 3) := by decide +kernel
theorem dL_law_114 : decode cL_law 114 = .ok (.iload_n 3, 1) := by decide +kernel
theorem dL_law_115 : decode cL_law 115 = .ok (.bipush 6, 2) := by decide +kernel
theorem dL_law_117 : decode cL_law 117 = .ok (.irem, 1) := by decide +kernel
theorem dL_law_118 : decode cL_law 118 = .ok (.iconst 5, 1) := by decide +kernel
theorem dL_law_119 : decode cL_law 119 = .ok (.if_icmp .ne 23, 3) := by decide +kernel
theorem dL_law_122 : decode cL_law 122 = .ok (.aload_n 1, 1) := by decide +kernel
theorem dL_law_123 : decode cL_law 123 = .ok (.iconst 2, 1) := by decide +kernel
theorem dL_law_124 : decode cL_law 124 = .ok (.iload 4, 2) := by decide +kernel
theorem dL_law_126 : decode cL_law 126 = .ok (.iconst 2, 1) := by decide +kernel
theorem dL_law_127 : decode cL_law 127 = .ok (.ishr, 1) := by decide +kernel
theorem dL_law_128 : decode cL_law 128 = .ok (.bipush 12, 2) := by decide +kernel
theorem dL_law_130 : decode cL_law 130 = .ok (.invokestatic 65, 3) := by decide +kernel
theorem dL_law_133 : decode cL_law 133 = .ok (.iadd, 1) := by decide +kernel
theorem dL_law_134 : decode cL_law 134 = .ok (.invokestatic 168, 3) := by decide +kernel
theorem dL_law_137 : decode cL_law 137 = .ok (.ifCond .ne 5, 3) := by decide +kernel
theorem dL_law_140 : decode cL_law 140 = .ok (.iconst 0, 1) := by decide +kernel
theorem dL_law_141 : decode cL_law 141 = .ok (.ireturn, 1) := by decide +kernel
theorem dL_law_142 : decode cL_law 142 = .ok (.iinc 3 1, 3) := by decide +kernel
theorem dL_law_145 : decode cL_law 145 = .ok (.goto (-127), 3) := by decide +kernel
theorem dL_law_148 : decode cL_law 148 = .ok (.aload_n 1, 1) := by decide +kernel
theorem dL_law_149 : decode cL_law 149 = .ok (.aload_n 2, 1) := by decide +kernel
theorem dL_law_150 : decode cL_law 150 = .ok (.invokestatic 156, 3) := by decide +kernel
theorem dL_law_153 : decode cL_law 153 = .ok (.ifCond .eq 30, 3) := by decide +kernel
theorem dL_law_156 : decode cL_law 156 = .ok (.aload_n 1, 1) := by decide +kernel
theorem dL_law_157 : decode cL_law 157 = .ok (.invokestatic 160, 3) := by decide +kernel
theorem dL_law_160 : decode cL_law 160 = .ok (.ifCond .eq 23, 3) := by decide +kernel
theorem dL_law_163 : decode cL_law 163 = .ok (.aload_n 1, 1) := by decide +kernel
theorem dL_law_164 : decode cL_law 164 = .ok (.iconst 2, 1) := by decide +kernel
theorem dL_law_165 : decode cL_law 165 = .ok (.invokestatic 164, 3) := by decide +kernel
theorem dL_law_168 : decode cL_law 168 = .ok (.ifCond .eq 15, 3) := by decide +kernel
theorem dL_law_171 : decode cL_law 171 = .ok (.aload_n 1, 1) := by decide +kernel
theorem dL_law_172 : decode cL_law 172 = .ok (.iconst 5, 1) := by decide +kernel
theorem dL_law_173 : decode cL_law 173 = .ok (.invokestatic 168, 3) := by decide +kernel
theorem dL_law_176 : decode cL_law 176 = .ok (.ifCond .eq 7, 3) := by decide +kernel
theorem dL_law_179 : decode cL_law 179 = .ok (.iconst 1, 1) := by decide +kernel
theorem dL_law_180 : decode cL_law 180 = .ok (.goto 4, 3) := by decide +kernel
theorem dL_law_183 : decode cL_law 183 = .ok (.iconst 0, 1) := by decide +kernel
theorem dL_law_184 : decode cL_law 184 = .ok (.ireturn, 1) := by decide +kernel
