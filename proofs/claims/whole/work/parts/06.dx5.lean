theorem dX5_init_0 : decode cX5_init 0 = .ok (.aload_n 0, 1) := by decide +kernel
theorem dX5_init_1 : decode cX5_init 1 = .ok (.invokespecial 1, 3) := by decide +kernel
theorem dX5_init_4 : decode cX5_init 4 = .ok (.aload_n 0, 1) := by decide +kernel
theorem dX5_init_5 : decode cX5_init 5 = .ok (.bipush 12, 2) := by decide +kernel
theorem dX5_init_7 : decode cX5_init 7 = .ok (.newarray .int, 2) := by decide +kernel
theorem dX5_init_9 : decode cX5_init 9 = .ok (.putfield 7, 3) := by decide +kernel
theorem dX5_init_12 : decode cX5_init 12 = .ok (.aload_n 0, 1) := by decide +kernel
theorem dX5_init_13 : decode cX5_init 13 = .ok (.bipush 12, 2) := by decide +kernel
theorem dX5_init_15 : decode cX5_init 15 = .ok (.newarray .int, 2) := by decide +kernel
theorem dX5_init_17 : decode cX5_init 17 = .ok (.putfield 13, 3) := by decide +kernel
theorem dX5_init_20 : decode cX5_init 20 = .ok (.aload_n 0, 1) := by decide +kernel
theorem dX5_init_21 : decode cX5_init 21 = .ok (.bipush 12, 2) := by decide +kernel
theorem dX5_init_23 : decode cX5_init 23 = .ok (.newarray .int, 2) := by decide +kernel
theorem dX5_init_25 : decode cX5_init 25 = .ok (.putfield 16, 3) := by decide +kernel
theorem dX5_init_28 : decode cX5_init 28 = .ok (.aload_n 0, 1) := by decide +kernel
theorem dX5_init_29 : decode cX5_init 29 = .ok (.sipush 240, 3) := by decide +kernel
theorem dX5_init_32 : decode cX5_init 32 = .ok (.newarray .int, 2) := by decide +kernel
theorem dX5_init_34 : decode cX5_init 34 = .ok (.putfield 19, 3) := by decide +kernel
theorem dX5_init_37 : decode cX5_init 37 = .ok (.aload_n 0, 1) := by decide +kernel
theorem dX5_init_38 : decode cX5_init 38 = .ok (.bipush 101, 2) := by decide +kernel
theorem dX5_init_40 : decode cX5_init 40 = .ok (.newarray .int, 2) := by decide +kernel
theorem dX5_init_42 : decode cX5_init 42 = .ok (.putfield 22, 3) := by decide +kernel
theorem dX5_init_45 : decode cX5_init 45 = .ok (.aload_n 0, 1) := by decide +kernel
theorem dX5_init_46 : decode cX5_init 46 = .ok (.bipush 101, 2) := by decide +kernel
theorem dX5_init_48 : decode cX5_init 48 = .ok (.newarray .int, 2) := by decide +kernel
theorem dX5_init_50 : decode cX5_init 50 = .ok (.putfield 25, 3) := by decide +kernel
theorem dX5_init_53 : decode cX5_init 53 = .ok (.aload_n 0, 1) := by decide +kernel
theorem dX5_init_54 : decode cX5_init 54 = .ok (.bipush 101, 2) := by decide +kernel
theorem dX5_init_56 : decode cX5_init 56 = .ok (.newarray .int, 2) := by decide +kernel
theorem dX5_init_58 : decode cX5_init 58 = .ok (.putfield 28, 3) := by decide +kernel
theorem dX5_init_61 : decode cX5_init 61 = .ok (.aload_n 0, 1) := by decide +kernel
theorem dX5_init_62 : decode cX5_init 62 = .ok (.bipush 101, 2) := by decide +kernel
theorem dX5_init_64 : decode cX5_init 64 = .ok (.newarray .int, 2) := by decide +kernel
theorem dX5_init_66 : decode cX5_init 66 = .ok (.putfield 31, 3) := by decide +kernel
theorem dX5_init_69 : decode cX5_init 69 = .ok (.aload_n 0, 1) := by decide +kernel
theorem dX5_init_70 : decode cX5_init 70 = .ok (.bipush 101, 2) := by decide +kernel
theorem dX5_init_72 : decode cX5_init 72 = .ok (.newarray .int, 2) := by decide +kernel
theorem dX5_init_74 : decode cX5_init 74 = .ok (.putfield 34, 3) := by decide +kernel
theorem dX5_init_77 : decode cX5_init 77 = .ok (.aload_n 0, 1) := by decide +kernel
theorem dX5_init_78 : decode cX5_init 78 = .ok (.sipush 17069, 3) := by decide +kernel
theorem dX5_init_81 : decode cX5_init 81 = .ok (.newarray .int, 2) := by decide +kernel
theorem dX5_init_83 : decode cX5_init 83 = .ok (.putfield 37, 3) := by decide +kernel
theorem dX5_init_86 : decode cX5_init 86 = .ok (.aload_n 0, 1) := by decide +kernel
theorem dX5_init_87 : decode cX5_init 87 = .ok (.bipush 12, 2) := by decide +kernel
theorem dX5_init_89 : decode cX5_init 89 = .ok (.newarray .int, 2) := by decide +kernel
theorem dX5_init_91 : decode cX5_init 91 = .ok (.putfield 40, 3) := by decide +kernel
theorem dX5_init_94 : decode cX5_init 94 = .ok (.aload_n 0, 1) := by decide +kernel
theorem dX5_init_95 : decode cX5_init 95 = .ok (.bipush 101, 2) := by decide +kernel
theorem dX5_init_97 : decode cX5_init 97 = .ok (.newarray .int, 2) := by decide +kernel
theorem dX5_init_99 : decode cX5_init 99 = .ok (.putfield 43, 3) := by decide +kernel
theorem dX5_init_102 : decode cX5_init 102 = .ok (.aload_n 0, 1) := by decide +kernel
theorem dX5_init_103 : decode cX5_init 103 = .ok (.bipush 101, 2) := by decide +kernel
theorem dX5_init_105 : decode cX5_init 105 = .ok (.newarray .int, 2) := by decide +kernel
theorem dX5_init_107 : decode cX5_init 107 = .ok (.putfield 46, 3) := by decide +kernel
theorem dX5_init_110 : decode cX5_init 110 = .ok (.aload_n 0, 1) := by decide +kernel
theorem dX5_init_111 : decode cX5_init 111 = .ok (.bipush 101, 2) := by decide +kernel
theorem dX5_init_113 : decode cX5_init 113 = .ok (.newarray .int, 2) := by decide +kernel
theorem dX5_init_115 : decode cX5_init 115 = .ok (.putfield 49, 3) := by decide +kernel
theorem dX5_init_118 : decode cX5_init 118 = .ok (.return_, 1) := by decide +kernel
theorem dX5_thrown_0 : decode cX5_thrown 0 = .ok (.aload_n 0, 1) := by decide +kernel
theorem dX5_thrown_1 : decode cX5_thrown 1 = .ok (.getfield 52, 3) := by decide +kernel
theorem dX5_thrown_4 : decode cX5_thrown 4 = .ok (.ireturn, 1) := by decide +kernel
theorem dX5_holds_0 : decode cX5_holds 0 = .ok (.aload_n 0, 1) := by decide +kernel
theorem dX5_holds_1 : decode cX5_holds 1 = .ok (.iload_n 1, 1) := by decide +kernel
theorem dX5_holds_2 : decode cX5_holds 2 = .ok (.putfield 52, 3) := by decide +kernel
theorem dX5_holds_5 : decode cX5_holds 5 = .ok (.iload_n 1, 1) := by decide +kernel
theorem dX5_holds_6 : decode cX5_holds 6 = .ok (.ifCond .ne 7, 3) := by decide +kernel
theorem dX5_holds_9 : decode cX5_holds 9 = .ok (.iconst 1, 1) := by decide +kernel
theorem dX5_holds_10 : decode cX5_holds 10 = .ok (.goto 4, 3) := by decide +kernel
theorem dX5_holds_13 : decode cX5_holds 13 = .ok (.iconst 0, 1) := by decide +kernel
theorem dX5_holds_14 : decode cX5_holds 14 = .ok (.ireturn, 1) := by decide +kernel
theorem dX5_in_0 : decode cX5_in 0 = .ok (.iload_n 0, 1) := by decide +kernel
theorem dX5_in_1 : decode cX5_in 1 = .ok (.iload_n 1, 1) := by decide +kernel
theorem dX5_in_2 : decode cX5_in 2 = .ok (.if_icmp .lt 12, 3) := by decide +kernel
theorem dX5_in_5 : decode cX5_in 5 = .ok (.iload_n 0, 1) := by decide +kernel
theorem dX5_in_6 : decode cX5_in 6 = .ok (.iload_n 2, 1) := by decide +kernel
theorem dX5_in_7 : decode cX5_in 7 = .ok (.if_icmp .gt 7, 3) := by decide +kernel
theorem dX5_in_10 : decode cX5_in 10 = .ok (.iconst 1, 1) := by decide +kernel
theorem dX5_in_11 : decode cX5_in 11 = .ok (.goto 4, 3) := by decide +kernel
theorem dX5_in_14 : decode cX5_in 14 = .ok (.iconst 0, 1) := by decide +kernel
theorem dX5_in_15 : decode cX5_in 15 = .ok (.ireturn, 1) := by decide +kernel
theorem dX5_addRow_0 : decode cX5_addRow 0 = .ok (.iload_n 1, 1) := by decide +kernel
theorem dX5_addRow_1 : decode cX5_addRow 1 = .ok (.iconst 1, 1) := by decide +kernel
theorem dX5_addRow_2 : decode cX5_addRow 2 = .ok (.bipush 20, 2) := by decide +kernel
theorem dX5_addRow_4 : decode cX5_addRow 4 = .ok (.invokestatic 56, 3) := by decide +kernel
theorem dX5_addRow_7 : decode cX5_addRow 7 = .ok (.ifCond .eq 29, 3) := by decide +kernel
theorem dX5_addRow_10 : decode cX5_addRow 10 = .ok (.iload_n 2, 1) := by decide +kernel
theorem dX5_addRow_11 : decode cX5_addRow 11 = .ok (.iconst 0, 1) := by decide +kernel
theorem dX5_addRow_12 : decode cX5_addRow 12 = .ok (.sipush 1000, 3) := by decide +kernel
theorem dX5_addRow_15 : decode cX5_addRow 15 = .ok (.invokestatic 56, 3) := by decide +kernel
theorem dX5_addRow_18 : decode cX5_addRow 18 = .ok (.ifCond .eq 18, 3) := by decide +kernel
theorem dX5_addRow_21 : decode cX5_addRow 21 = .ok (.iload_n 3, 1) := by decide +kernel
theorem dX5_addRow_22 : decode cX5_addRow 22 = .ok (.iconst 0, 1) := by decide +kernel
theorem dX5_addRow_23 : decode cX5_addRow 23 = .ok (.sipush 10000, 3) := by decide +kernel
theorem dX5_addRow_26 : decode cX5_addRow 26 = .ok (.invokestatic 56, 3) := by decide +kernel
theorem dX5_addRow_29 : decode cX5_addRow 29 = .ok (.ifCond .eq 7, 3) := by decide +kernel
theorem dX5_addRow_32 : decode cX5_addRow 32 = .ok (.iconst 1, 1) := by decide +kernel
theorem dX5_addRow_33 : decode cX5_addRow 33 = .ok (.goto 4, 3) := by decide +kernel
theorem dX5_addRow_36 : decode cX5_addRow 36 = .ok (.iconst 0, 1) := by decide +kernel
theorem dX5_addRow_37 : decode cX5_addRow 37 = .ok (.istore 4, 2) := by decide +kernel
theorem dX5_addRow_39 : decode cX5_addRow 39 = .ok (.aload_n 0, 1) := by decide +kernel
theorem dX5_addRow_40 : decode cX5_addRow 40 = .ok (.iload 4, 2) := by decide +kernel
theorem dX5_addRow_42 : decode cX5_addRow 42 = .ok (.ifCond .ne 7, 3) := by decide +kernel
theorem dX5_addRow_45 : decode cX5_addRow 45 = .ok (.iconst 1, 1) := by decide +kernel
theorem dX5_addRow_46 : decode cX5_addRow 46 = .ok (.goto 17, 3) := by decide +kernel
theorem dX5_addRow_49 : decode cX5_addRow 49 = .ok (.aload_n 0, 1) := by decide +kernel
theorem dX5_addRow_50 : decode cX5_addRow 50 = .ok (.getfield 60, 3) := by decide +kernel
theorem dX5_addRow_53 : decode cX5_addRow 53 = .ok (.bipush 12, 2) := by decide +kernel
theorem dX5_addRow_55 : decode cX5_addRow 55 = .ok (.if_icmp .ne 7, 3) := by decide +kernel
theorem dX5_addRow_58 : decode cX5_addRow 58 = .ok (.iconst 2, 1) := by decide +kernel
theorem dX5_addRow_59 : decode cX5_addRow 59 = .ok (.goto 4, 3) := by decide +kernel
theorem dX5_addRow_62 : decode cX5_addRow 62 = .ok (.iconst 0, 1) := by decide +kernel
theorem dX5_addRow_63 : decode cX5_addRow 63 = .ok (.invokevirtual 63, 3) := by decide +kernel
theorem dX5_addRow_66 : decode cX5_addRow 66 = .ok (.ifCond .ne 5, 3) := by decide +kernel
theorem dX5_addRow_69 : decode cX5_addRow 69 = .ok (.iconst 0, 1) := by decide +kernel
theorem dX5_addRow_70 : decode cX5_addRow 70 = .ok (.ireturn, 1) := by decide +kernel
theorem dX5_addRow_71 : decode cX5_addRow 71 = .ok (.aload_n 0, 1) := by decide +kernel
theorem dX5_addRow_72 : decode cX5_addRow 72 = .ok (.getfield 7, 3) := by decide +kernel
theorem dX5_addRow_75 : decode cX5_addRow 75 = .ok (.aload_n 0, 1) := by decide +kernel
theorem dX5_addRow_76 : decode cX5_addRow 76 = .ok (.getfield 60, 3) := by decide +kernel
theorem dX5_addRow_79 : decode cX5_addRow 79 = .ok (.iload_n 1, 1) := by decide +kernel
theorem dX5_addRow_80 : decode cX5_addRow 80 = .ok (.iastore, 1) := by decide +kernel
theorem dX5_addRow_81 : decode cX5_addRow 81 = .ok (.aload_n 0, 1) := by decide +kernel
theorem dX5_addRow_82 : decode cX5_addRow 82 = .ok (.getfield 13, 3) := by decide +kernel
theorem dX5_addRow_85 : decode cX5_addRow 85 = .ok (.aload_n 0, 1) := by decide +kernel
theorem dX5_addRow_86 : decode cX5_addRow 86 = .ok (.getfield 60, 3) := by decide +kernel
theorem dX5_addRow_89 : decode cX5_addRow 89 = .ok (.iload_n 2, 1) := by decide +kernel
theorem dX5_addRow_90 : decode cX5_addRow 90 = .ok (.iastore, 1) := by decide +kernel
theorem dX5_addRow_91 : decode cX5_addRow 91 = .ok (.aload_n 0, 1) := by decide +kernel
theorem dX5_addRow_92 : decode cX5_addRow 92 = .ok (.getfield 16, 3) := by decide +kernel
theorem dX5_addRow_95 : decode cX5_addRow 95 = .ok (.aload_n 0, 1) := by decide +kernel
theorem dX5_addRow_96 : decode cX5_addRow 96 = .ok (.getfield 60, 3) := by decide +kernel
theorem dX5_addRow_99 : decode cX5_addRow 99 = .ok (.iload_n 3, 1) := by decide +kernel
theorem dX5_addRow_100 : decode cX5_addRow 100 = .ok (.iastore, 1) := by decide +kernel
theorem dX5_addRow_101 : decode cX5_addRow 101 = .ok (.aload_n 0, 1) := by decide +kernel
theorem dX5_addRow_102 : decode cX5_addRow 102 = .ok (.dup, 1) := by decide +kernel
theorem dX5_addRow_103 : decode cX5_addRow 103 = .ok (.getfield 60, 3) := by decide +kernel
theorem dX5_addRow_106 : decode cX5_addRow 106 = .ok (.iconst 1, 1) := by decide +kernel
theorem dX5_addRow_107 : decode cX5_addRow 107 = .ok (.iadd, 1) := by decide +kernel
theorem dX5_addRow_108 : decode cX5_addRow 108 = .ok (.putfield 60, 3) := by decide +kernel
theorem dX5_addRow_111 : decode cX5_addRow 111 = .ok (.aload_n 0, 1) := by decide +kernel
theorem dX5_addRow_112 : decode cX5_addRow 112 = .ok (.getfield 60, 3) := by decide +kernel
theorem dX5_addRow_115 : decode cX5_addRow 115 = .ok (.iconst 1, 1) := by decide +kernel
theorem dX5_addRow_116 : decode cX5_addRow 116 = .ok (.isub, 1) := by decide +kernel
theorem dX5_addRow_117 : decode cX5_addRow 117 = .ok (.ireturn, 1) := by decide +kernel
theorem dX5_isRow_0 : decode cX5_isRow 0 = .ok (.iload_n 1, 1) := by decide +kernel
theorem dX5_isRow_1 : decode cX5_isRow 1 = .ok (.iconst 0, 1) := by decide +kernel
theorem dX5_isRow_2 : decode cX5_isRow 2 = .ok (.aload_n 0, 1) := by decide +kernel
theorem dX5_isRow_3 : decode cX5_isRow 3 = .ok (.getfield 60, 3) := by decide +kernel
theorem dX5_isRow_6 : decode cX5_isRow 6 = .ok (.iconst 1, 1) := by decide +kernel
theorem dX5_isRow_7 : decode cX5_isRow 7 = .ok (.isub, 1) := by decide +kernel
theorem dX5_isRow_8 : decode cX5_isRow 8 = .ok (.invokestatic 56, 3) := by decide +kernel
theorem dX5_isRow_11 : decode cX5_isRow 11 = .ok (.ireturn, 1) := by decide +kernel
theorem dX5_isSeat_0 : decode cX5_isSeat 0 = .ok (.aload_n 0, 1) := by decide +kernel
theorem dX5_isSeat_1 : decode cX5_isSeat 1 = .ok (.iload_n 1, 1) := by decide +kernel
theorem dX5_isSeat_2 : decode cX5_isSeat 2 = .ok (.invokevirtual 67, 3) := by decide +kernel
theorem dX5_isSeat_5 : decode cX5_isSeat 5 = .ok (.ifCond .eq 23, 3) := by decide +kernel
theorem dX5_isSeat_8 : decode cX5_isSeat 8 = .ok (.iload_n 2, 1) := by decide +kernel
theorem dX5_isSeat_9 : decode cX5_isSeat 9 = .ok (.iconst 0, 1) := by decide +kernel
theorem dX5_isSeat_10 : decode cX5_isSeat 10 = .ok (.aload_n 0, 1) := by decide +kernel
theorem dX5_isSeat_11 : decode cX5_isSeat 11 = .ok (.getfield 7, 3) := by decide +kernel
theorem dX5_isSeat_14 : decode cX5_isSeat 14 = .ok (.iload_n 1, 1) := by decide +kernel
theorem dX5_isSeat_15 : decode cX5_isSeat 15 = .ok (.iaload, 1) := by decide +kernel
theorem dX5_isSeat_16 : decode cX5_isSeat 16 = .ok (.iconst 1, 1) := by decide +kernel
theorem dX5_isSeat_17 : decode cX5_isSeat 17 = .ok (.isub, 1) := by decide +kernel
theorem dX5_isSeat_18 : decode cX5_isSeat 18 = .ok (.invokestatic 56, 3) := by decide +kernel
theorem dX5_isSeat_21 : decode cX5_isSeat 21 = .ok (.ifCond .eq 7, 3) := by decide +kernel
theorem dX5_isSeat_24 : decode cX5_isSeat 24 = .ok (.iconst 1, 1) := by decide +kernel
theorem dX5_isSeat_25 : decode cX5_isSeat 25 = .ok (.goto 4, 3) := by decide +kernel
theorem dX5_isSeat_28 : decode cX5_isSeat 28 = .ok (.iconst 0, 1) := by decide +kernel
theorem dX5_isSeat_29 : decode cX5_isSeat 29 = .ok (.ireturn, 1) := by decide +kernel
theorem dX5_isFree_0 : decode cX5_isFree 0 = .ok (.aload_n 0, 1) := by decide +kernel
theorem dX5_isFree_1 : decode cX5_isFree 1 = .ok (.iload_n 1, 1) := by decide +kernel
theorem dX5_isFree_2 : decode cX5_isFree 2 = .ok (.iload_n 2, 1) := by decide +kernel
theorem dX5_isFree_3 : decode cX5_isFree 3 = .ok (.invokevirtual 70, 3) := by decide +kernel
theorem dX5_isFree_6 : decode cX5_isFree 6 = .ok (.ifCond .eq 21, 3) := by decide +kernel
theorem dX5_isFree_9 : decode cX5_isFree 9 = .ok (.aload_n 0, 1) := by decide +kernel
theorem dX5_isFree_10 : decode cX5_isFree 10 = .ok (.getfield 19, 3) := by decide +kernel
theorem dX5_isFree_13 : decode cX5_isFree 13 = .ok (.bipush 20, 2) := by decide +kernel
theorem dX5_isFree_15 : decode cX5_isFree 15 = .ok (.iload_n 1, 1) := by decide +kernel
theorem dX5_isFree_16 : decode cX5_isFree 16 = .ok (.imul, 1) := by decide +kernel
theorem dX5_isFree_17 : decode cX5_isFree 17 = .ok (.iload_n 2, 1) := by decide +kernel
theorem dX5_isFree_18 : decode cX5_isFree 18 = .ok (.iadd, 1) := by decide +kernel
theorem dX5_isFree_19 : decode cX5_isFree 19 = .ok (.iaload, 1) := by decide +kernel
theorem dX5_isFree_20 : decode cX5_isFree 20 = .ok (.ifCond .ne 7, 3) := by decide +kernel
theorem dX5_isFree_23 : decode cX5_isFree 23 = .ok (.iconst 1, 1) := by decide +kernel
theorem dX5_isFree_24 : decode cX5_isFree 24 = .ok (.goto 4, 3) := by decide +kernel
theorem dX5_isFree_27 : decode cX5_isFree 27 = .ok (.iconst 0, 1) := by decide +kernel
theorem dX5_isFree_28 : decode cX5_isFree 28 = .ok (.ireturn, 1) := by decide +kernel
theorem dX5_toggleBlocked_0 : decode cX5_toggleBlocked 0 = .ok (.aload_n 0, 1) := by decide +kernel
theorem dX5_toggleBlocked_1 : decode cX5_toggleBlocked 1 = .ok (.aload_n 0, 1) := by decide +kernel
theorem dX5_toggleBlocked_2 : decode cX5_toggleBlocked 2 = .ok (.iload_n 1, 1) := by decide +kernel
theorem dX5_toggleBlocked_3 : decode cX5_toggleBlocked 3 = .ok (.iload_n 2, 1) := by decide +kernel
theorem dX5_toggleBlocked_4 : decode cX5_toggleBlocked 4 = .ok (.invokevirtual 70, 3) := by decide +kernel
theorem dX5_toggleBlocked_7 : decode cX5_toggleBlocked 7 = .ok (.ifCond .ne 7, 3) := by decide +kernel
theorem dX5_toggleBlocked_10 : decode cX5_toggleBlocked 10 = .ok (.iconst 1, 1) := by decide +kernel
theorem dX5_toggleBlocked_11 : decode cX5_toggleBlocked 11 = .ok (.goto 22, 3) := by decide +kernel
theorem dX5_toggleBlocked_14 : decode cX5_toggleBlocked 14 = .ok (.aload_n 0, 1) := by decide +kernel
theorem dX5_toggleBlocked_15 : decode cX5_toggleBlocked 15 = .ok (.getfield 19, 3) := by decide +kernel
theorem dX5_toggleBlocked_18 : decode cX5_toggleBlocked 18 = .ok (.bipush 20, 2) := by decide +kernel
theorem dX5_toggleBlocked_20 : decode cX5_toggleBlocked 20 = .ok (.iload_n 1, 1) := by decide +kernel
theorem dX5_toggleBlocked_21 : decode cX5_toggleBlocked 21 = .ok (.imul, 1) := by decide +kernel
theorem dX5_toggleBlocked_22 : decode cX5_toggleBlocked 22 = .ok (.iload_n 2, 1) := by decide +kernel
theorem dX5_toggleBlocked_23 : decode cX5_toggleBlocked 23 = .ok (.iadd, 1) := by decide +kernel
theorem dX5_toggleBlocked_24 : decode cX5_toggleBlocked 24 = .ok (.iaload, 1) := by decide +kernel
theorem dX5_toggleBlocked_25 : decode cX5_toggleBlocked 25 = .ok (.ifCond .le 7, 3) := by decide +kernel
theorem dX5_toggleBlocked_28 : decode cX5_toggleBlocked 28 = .ok (.iconst 2, 1) := by decide +kernel
theorem dX5_toggleBlocked_29 : decode cX5_toggleBlocked 29 = .ok (.goto 4, 3) := by decide +kernel
theorem dX5_toggleBlocked_32 : decode cX5_toggleBlocked 32 = .ok (.iconst 0, 1) := by decide +kernel
theorem dX5_toggleBlocked_33 : decode cX5_toggleBlocked 33 = .ok (.invokevirtual 63, 3) := by decide +kernel
theorem dX5_toggleBlocked_36 : decode cX5_toggleBlocked 36 = .ok (.ifCond .ne 5, 3) := by decide +kernel
theorem dX5_toggleBlocked_39 : decode cX5_toggleBlocked 39 = .ok (.iconst 0, 1) := by decide +kernel
theorem dX5_toggleBlocked_40 : decode cX5_toggleBlocked 40 = .ok (.ireturn, 1) := by decide +kernel
theorem dX5_toggleBlocked_41 : decode cX5_toggleBlocked 41 = .ok (.aload_n 0, 1) := by decide +kernel
theorem dX5_toggleBlocked_42 : decode cX5_toggleBlocked 42 = .ok (.getfield 19, 3) := by decide +kernel
theorem dX5_toggleBlocked_45 : decode cX5_toggleBlocked 45 = .ok (.bipush 20, 2) := by decide +kernel
theorem dX5_toggleBlocked_47 : decode cX5_toggleBlocked 47 = .ok (.iload_n 1, 1) := by decide +kernel
theorem dX5_toggleBlocked_48 : decode cX5_toggleBlocked 48 = .ok (.imul, 1) := by decide +kernel
theorem dX5_toggleBlocked_49 : decode cX5_toggleBlocked 49 = .ok (.iload_n 2, 1) := by decide +kernel
theorem dX5_toggleBlocked_50 : decode cX5_toggleBlocked 50 = .ok (.iadd, 1) := by decide +kernel
theorem dX5_toggleBlocked_51 : decode cX5_toggleBlocked 51 = .ok (.iaload, 1) := by decide +kernel
theorem dX5_toggleBlocked_52 : decode cX5_toggleBlocked 52 = .ok (.ifCond .ne 7, 3) := by decide +kernel
theorem dX5_toggleBlocked_55 : decode cX5_toggleBlocked 55 = .ok (.iconst 1, 1) := by decide +kernel
theorem dX5_toggleBlocked_56 : decode cX5_toggleBlocked 56 = .ok (.goto 4, 3) := by decide +kernel
theorem dX5_toggleBlocked_59 : decode cX5_toggleBlocked 59 = .ok (.iconst 0, 1) := by decide +kernel
theorem dX5_toggleBlocked_60 : decode cX5_toggleBlocked 60 = .ok (.istore_n 3, 1) := by decide +kernel
theorem dX5_toggleBlocked_61 : decode cX5_toggleBlocked 61 = .ok (.aload_n 0, 1) := by decide +kernel
theorem dX5_toggleBlocked_62 : decode cX5_toggleBlocked 62 = .ok (.getfield 19, 3) := by decide +kernel
theorem dX5_toggleBlocked_65 : decode cX5_toggleBlocked 65 = .ok (.bipush 20, 2) := by decide +kernel
theorem dX5_toggleBlocked_67 : decode cX5_toggleBlocked 67 = .ok (.iload_n 1, 1) := by decide +kernel
theorem dX5_toggleBlocked_68 : decode cX5_toggleBlocked 68 = .ok (.imul, 1) := by decide +kernel
theorem dX5_toggleBlocked_69 : decode cX5_toggleBlocked 69 = .ok (.iload_n 2, 1) := by decide +kernel
theorem dX5_toggleBlocked_70 : decode cX5_toggleBlocked 70 = .ok (.iadd, 1) := by decide +kernel
theorem dX5_toggleBlocked_71 : decode cX5_toggleBlocked 71 = .ok (.iload_n 3, 1) := by decide +kernel
theorem dX5_toggleBlocked_72 : decode cX5_toggleBlocked 72 = .ok (.ifCond .eq 7, 3) := by decide +kernel
theorem dX5_toggleBlocked_75 : decode cX5_toggleBlocked 75 = .ok (.iconst (-1), 1) := by decide +kernel
theorem dX5_toggleBlocked_76 : decode cX5_toggleBlocked 76 = .ok (.goto 4, 3) := by decide +kernel
theorem dX5_toggleBlocked_79 : decode cX5_toggleBlocked 79 = .ok (.iconst 0, 1) := by decide +kernel
theorem dX5_toggleBlocked_80 : decode cX5_toggleBlocked 80 = .ok (.iastore, 1) := by decide +kernel
theorem dX5_toggleBlocked_81 : decode cX5_toggleBlocked 81 = .ok (.iload_n 3, 1) := by decide +kernel
theorem dX5_toggleBlocked_82 : decode cX5_toggleBlocked 82 = .ok (.ireturn, 1) := by decide +kernel
theorem dX5_rows_0 : decode cX5_rows 0 = .ok (.aload_n 0, 1) := by decide +kernel
theorem dX5_rows_1 : decode cX5_rows 1 = .ok (.iconst 0, 1) := by decide +kernel
theorem dX5_rows_2 : decode cX5_rows 2 = .ok (.putfield 52, 3) := by decide +kernel
theorem dX5_rows_5 : decode cX5_rows 5 = .ok (.aload_n 0, 1) := by decide +kernel
theorem dX5_rows_6 : decode cX5_rows 6 = .ok (.getfield 60, 3) := by decide +kernel
theorem dX5_rows_9 : decode cX5_rows 9 = .ok (.ireturn, 1) := by decide +kernel
theorem dX5_state_0 : decode cX5_state 0 = .ok (.aload_n 0, 1) := by decide +kernel
theorem dX5_state_1 : decode cX5_state 1 = .ok (.aload_n 0, 1) := by decide +kernel
theorem dX5_state_2 : decode cX5_state 2 = .ok (.iload_n 1, 1) := by decide +kernel
theorem dX5_state_3 : decode cX5_state 3 = .ok (.iload_n 2, 1) := by decide +kernel
theorem dX5_state_4 : decode cX5_state 4 = .ok (.invokevirtual 70, 3) := by decide +kernel
theorem dX5_state_7 : decode cX5_state 7 = .ok (.ifCond .eq 7, 3) := by decide +kernel
theorem dX5_state_10 : decode cX5_state 10 = .ok (.iconst 0, 1) := by decide +kernel
theorem dX5_state_11 : decode cX5_state 11 = .ok (.goto 4, 3) := by decide +kernel
theorem dX5_state_14 : decode cX5_state 14 = .ok (.iconst 1, 1) := by decide +kernel
theorem dX5_state_15 : decode cX5_state 15 = .ok (.invokevirtual 63, 3) := by decide +kernel
theorem dX5_state_18 : decode cX5_state 18 = .ok (.ifCond .ne 5, 3) := by decide +kernel
theorem dX5_state_21 : decode cX5_state 21 = .ok (.iconst 0, 1) := by decide +kernel
theorem dX5_state_22 : decode cX5_state 22 = .ok (.ireturn, 1) := by decide +kernel
theorem dX5_state_23 : decode cX5_state 23 = .ok (.aload_n 0, 1) := by decide +kernel
theorem dX5_state_24 : decode cX5_state 24 = .ok (.getfield 19, 3) := by decide +kernel
theorem dX5_state_27 : decode cX5_state 27 = .ok (.bipush 20, 2) := by decide +kernel
theorem dX5_state_29 : decode cX5_state 29 = .ok (.iload_n 1, 1) := by decide +kernel
theorem dX5_state_30 : decode cX5_state 30 = .ok (.imul, 1) := by decide +kernel
theorem dX5_state_31 : decode cX5_state 31 = .ok (.iload_n 2, 1) := by decide +kernel
theorem dX5_state_32 : decode cX5_state 32 = .ok (.iadd, 1) := by decide +kernel
theorem dX5_state_33 : decode cX5_state 33 = .ok (.iaload, 1) := by decide +kernel
theorem dX5_state_34 : decode cX5_state 34 = .ok (.istore_n 3, 1) := by decide +kernel
theorem dX5_state_35 : decode cX5_state 35 = .ok (.iload_n 3, 1) := by decide +kernel
theorem dX5_state_36 : decode cX5_state 36 = .ok (.ifCond .ne 7, 3) := by decide +kernel
theorem dX5_state_39 : decode cX5_state 39 = .ok (.iconst 0, 1) := by decide +kernel
theorem dX5_state_40 : decode cX5_state 40 = .ok (.goto 26, 3) := by decide +kernel
theorem dX5_state_43 : decode cX5_state 43 = .ok (.iload_n 3, 1) := by decide +kernel
theorem dX5_state_44 : decode cX5_state 44 = .ok (.iconst (-1), 1) := by decide +kernel
theorem dX5_state_45 : decode cX5_state 45 = .ok (.if_icmp .ne 7, 3) := by decide +kernel
theorem dX5_state_48 : decode cX5_state 48 = .ok (.iconst 3, 1) := by decide +kernel
theorem dX5_state_49 : decode cX5_state 49 = .ok (.goto 17, 3) := by decide +kernel
theorem dX5_state_52 : decode cX5_state 52 = .ok (.aload_n 0, 1) := by decide +kernel
theorem dX5_state_53 : decode cX5_state 53 = .ok (.getfield 22, 3) := by decide +kernel
theorem dX5_state_56 : decode cX5_state 56 = .ok (.iload_n 3, 1) := by decide +kernel
theorem dX5_state_57 : decode cX5_state 57 = .ok (.iaload, 1) := by decide +kernel
theorem dX5_state_58 : decode cX5_state 58 = .ok (.ifCond .ne 7, 3) := by decide +kernel
theorem dX5_state_61 : decode cX5_state 61 = .ok (.iconst 1, 1) := by decide +kernel
theorem dX5_state_62 : decode cX5_state 62 = .ok (.goto 4, 3) := by decide +kernel
theorem dX5_state_65 : decode cX5_state 65 = .ok (.iconst 2, 1) := by decide +kernel
theorem dX5_state_66 : decode cX5_state 66 = .ok (.ireturn, 1) := by decide +kernel
theorem dX5_ticketAt_0 : decode cX5_ticketAt 0 = .ok (.aload_n 0, 1) := by decide +kernel
theorem dX5_ticketAt_1 : decode cX5_ticketAt 1 = .ok (.aload_n 0, 1) := by decide +kernel
theorem dX5_ticketAt_2 : decode cX5_ticketAt 2 = .ok (.iload_n 1, 1) := by decide +kernel
theorem dX5_ticketAt_3 : decode cX5_ticketAt 3 = .ok (.iload_n 2, 1) := by decide +kernel
theorem dX5_ticketAt_4 : decode cX5_ticketAt 4 = .ok (.invokevirtual 70, 3) := by decide +kernel
theorem dX5_ticketAt_7 : decode cX5_ticketAt 7 = .ok (.ifCond .eq 7, 3) := by decide +kernel
theorem dX5_ticketAt_10 : decode cX5_ticketAt 10 = .ok (.iconst 0, 1) := by decide +kernel
theorem dX5_ticketAt_11 : decode cX5_ticketAt 11 = .ok (.goto 4, 3) := by decide +kernel
theorem dX5_ticketAt_14 : decode cX5_ticketAt 14 = .ok (.iconst 1, 1) := by decide +kernel
theorem dX5_ticketAt_15 : decode cX5_ticketAt 15 = .ok (.invokevirtual 63, 3) := by decide +kernel
theorem dX5_ticketAt_18 : decode cX5_ticketAt 18 = .ok (.ifCond .ne 5, 3) := by decide +kernel
theorem dX5_ticketAt_21 : decode cX5_ticketAt 21 = .ok (.iconst 0, 1) := by decide +kernel
theorem dX5_ticketAt_22 : decode cX5_ticketAt 22 = .ok (.ireturn, 1) := by decide +kernel
theorem dX5_ticketAt_23 : decode cX5_ticketAt 23 = .ok (.aload_n 0, 1) := by decide +kernel
theorem dX5_ticketAt_24 : decode cX5_ticketAt 24 = .ok (.getfield 19, 3) := by decide +kernel
theorem dX5_ticketAt_27 : decode cX5_ticketAt 27 = .ok (.bipush 20, 2) := by decide +kernel
theorem dX5_ticketAt_29 : decode cX5_ticketAt 29 = .ok (.iload_n 1, 1) := by decide +kernel
theorem dX5_ticketAt_30 : decode cX5_ticketAt 30 = .ok (.imul, 1) := by decide +kernel
theorem dX5_ticketAt_31 : decode cX5_ticketAt 31 = .ok (.iload_n 2, 1) := by decide +kernel
theorem dX5_ticketAt_32 : decode cX5_ticketAt 32 = .ok (.iadd, 1) := by decide +kernel
theorem dX5_ticketAt_33 : decode cX5_ticketAt 33 = .ok (.iaload, 1) := by decide +kernel
theorem dX5_ticketAt_34 : decode cX5_ticketAt 34 = .ok (.ifCond .le 17, 3) := by decide +kernel
theorem dX5_ticketAt_37 : decode cX5_ticketAt 37 = .ok (.aload_n 0, 1) := by decide +kernel
theorem dX5_ticketAt_38 : decode cX5_ticketAt 38 = .ok (.getfield 19, 3) := by decide +kernel
theorem dX5_ticketAt_41 : decode cX5_ticketAt 41 = .ok (.bipush 20, 2) := by decide +kernel
theorem dX5_ticketAt_43 : decode cX5_ticketAt 43 = .ok (.iload_n 1, 1) := by decide +kernel
theorem dX5_ticketAt_44 : decode cX5_ticketAt 44 = .ok (.imul, 1) := by decide +kernel
theorem dX5_ticketAt_45 : decode cX5_ticketAt 45 = .ok (.iload_n 2, 1) := by decide +kernel
theorem dX5_ticketAt_46 : decode cX5_ticketAt 46 = .ok (.iadd, 1) := by decide +kernel
theorem dX5_ticketAt_47 : decode cX5_ticketAt 47 = .ok (.iaload, 1) := by decide +kernel
theorem dX5_ticketAt_48 : decode cX5_ticketAt 48 = .ok (.goto 4, 3) := by decide +kernel
theorem dX5_ticketAt_51 : decode cX5_ticketAt 51 = .ok (.iconst 0, 1) := by decide +kernel
theorem dX5_ticketAt_52 : decode cX5_ticketAt 52 = .ok (.ireturn, 1) := by decide +kernel
theorem dX5_worth_0 : decode cX5_worth 0 = .ok (.iconst 2, 1) := by decide +kernel
theorem dX5_worth_1 : decode cX5_worth 1 = .ok (.iload_n 2, 1) := by decide +kernel
theorem dX5_worth_2 : decode cX5_worth 2 = .ok (.imul, 1) := by decide +kernel
theorem dX5_worth_3 : decode cX5_worth 3 = .ok (.aload_n 0, 1) := by decide +kernel
theorem dX5_worth_4 : decode cX5_worth 4 = .ok (.getfield 7, 3) := by decide +kernel
theorem dX5_worth_7 : decode cX5_worth 7 = .ok (.iload_n 1, 1) := by decide +kernel
theorem dX5_worth_8 : decode cX5_worth 8 = .ok (.iaload, 1) := by decide +kernel
theorem dX5_worth_9 : decode cX5_worth 9 = .ok (.isub, 1) := by decide +kernel
theorem dX5_worth_10 : decode cX5_worth 10 = .ok (.iconst 1, 1) := by decide +kernel
theorem dX5_worth_11 : decode cX5_worth 11 = .ok (.iadd, 1) := by decide +kernel
theorem dX5_worth_12 : decode cX5_worth 12 = .ok (.istore_n 3, 1) := by decide +kernel
theorem dX5_worth_13 : decode cX5_worth 13 = .ok (.aload_n 0, 1) := by decide +kernel
theorem dX5_worth_14 : decode cX5_worth 14 = .ok (.getfield 13, 3) := by decide +kernel
theorem dX5_worth_17 : decode cX5_worth 17 = .ok (.iload_n 1, 1) := by decide +kernel
theorem dX5_worth_18 : decode cX5_worth 18 = .ok (.iaload, 1) := by decide +kernel
theorem dX5_worth_19 : decode cX5_worth 19 = .ok (.iload_n 3, 1) := by decide +kernel
theorem dX5_worth_20 : decode cX5_worth 20 = .ok (.ifCond .ge 8, 3) := by decide +kernel
theorem dX5_worth_23 : decode cX5_worth 23 = .ok (.iload_n 3, 1) := by decide +kernel
theorem dX5_worth_24 : decode cX5_worth 24 = .ok (.ineg, 1) := by decide +kernel
theorem dX5_worth_25 : decode cX5_worth 25 = .ok (.goto 4, 3) := by decide +kernel
theorem dX5_worth_28 : decode cX5_worth 28 = .ok (.iload_n 3, 1) := by decide +kernel
theorem dX5_worth_29 : decode cX5_worth 29 = .ok (.isub, 1) := by decide +kernel
theorem dX5_worth_30 : decode cX5_worth 30 = .ok (.ireturn, 1) := by decide +kernel
theorem dX5_value_0 : decode cX5_value 0 = .ok (.aload_n 0, 1) := by decide +kernel
theorem dX5_value_1 : decode cX5_value 1 = .ok (.aload_n 0, 1) := by decide +kernel
theorem dX5_value_2 : decode cX5_value 2 = .ok (.iload_n 1, 1) := by decide +kernel
theorem dX5_value_3 : decode cX5_value 3 = .ok (.iload_n 2, 1) := by decide +kernel
theorem dX5_value_4 : decode cX5_value 4 = .ok (.invokevirtual 70, 3) := by decide +kernel
theorem dX5_value_7 : decode cX5_value 7 = .ok (.ifCond .eq 7, 3) := by decide +kernel
theorem dX5_value_10 : decode cX5_value 10 = .ok (.iconst 0, 1) := by decide +kernel
theorem dX5_value_11 : decode cX5_value 11 = .ok (.goto 4, 3) := by decide +kernel
theorem dX5_value_14 : decode cX5_value 14 = .ok (.iconst 1, 1) := by decide +kernel
theorem dX5_value_15 : decode cX5_value 15 = .ok (.invokevirtual 63, 3) := by decide +kernel
theorem dX5_value_18 : decode cX5_value 18 = .ok (.ifCond .eq 12, 3) := by decide +kernel
theorem dX5_value_21 : decode cX5_value 21 = .ok (.aload_n 0, 1) := by decide +kernel
theorem dX5_value_22 : decode cX5_value 22 = .ok (.iload_n 1, 1) := by decide +kernel
theorem dX5_value_23 : decode cX5_value 23 = .ok (.iload_n 2, 1) := by decide +kernel
theorem dX5_value_24 : decode cX5_value 24 = .ok (.invokevirtual 74, 3) := by decide +kernel
theorem dX5_value_27 : decode cX5_value 27 = .ok (.goto 4, 3) := by decide +kernel
theorem dX5_value_30 : decode cX5_value 30 = .ok (.iconst 0, 1) := by decide +kernel
theorem dX5_value_31 : decode cX5_value 31 = .ok (.ireturn, 1) := by decide +kernel
theorem dX5_frees_0 : decode cX5_frees 0 = .ok (.iconst 0, 1) := by decide +kernel
theorem dX5_frees_1 : decode cX5_frees 1 = .ok (.istore_n 2, 1) := by decide +kernel
theorem dX5_frees_2 : decode cX5_frees 2 = .ok (.iconst 0, 1) := by decide +kernel
theorem dX5_frees_3 : decode cX5_frees 3 = .ok (.istore_n 3, 1) := by decide +kernel
theorem dX5_frees_4 : decode cX5_frees 4 = .ok (.iload_n 3, 1) := by decide +kernel
theorem dX5_frees_5 : decode cX5_frees 5 = .ok (.aload_n 0, 1) := by decide +kernel
theorem dX5_frees_6 : decode cX5_frees 6 = .ok (.getfield 7, 3) := by decide +kernel
theorem dX5_frees_9 : decode cX5_frees 9 = .ok (.iload_n 1, 1) := by decide +kernel
theorem dX5_frees_10 : decode cX5_frees 10 = .ok (.iaload, 1) := by decide +kernel
theorem dX5_frees_11 : decode cX5_frees 11 = .ok (.if_icmp .ge 26, 3) := by decide +kernel
theorem dX5_frees_14 : decode cX5_frees 14 = .ok (.iload_n 2, 1) := by decide +kernel
theorem dX5_frees_15 : decode cX5_frees 15 = .ok (.aload_n 0, 1) := by decide +kernel
theorem dX5_frees_16 : decode cX5_frees 16 = .ok (.iload_n 1, 1) := by decide +kernel
theorem dX5_frees_17 : decode cX5_frees 17 = .ok (.iload_n 3, 1) := by decide +kernel
theorem dX5_frees_18 : decode cX5_frees 18 = .ok (.invokevirtual 78, 3) := by decide +kernel
theorem dX5_frees_21 : decode cX5_frees 21 = .ok (.ifCond .eq 7, 3) := by decide +kernel
theorem dX5_frees_24 : decode cX5_frees 24 = .ok (.iconst 1, 1) := by decide +kernel
theorem dX5_frees_25 : decode cX5_frees 25 = .ok (.goto 4, 3) := by decide +kernel
theorem dX5_frees_28 : decode cX5_frees 28 = .ok (.iconst 0, 1) := by decide +kernel
theorem dX5_frees_29 : decode cX5_frees 29 = .ok (.iadd, 1) := by decide +kernel
theorem dX5_frees_30 : decode cX5_frees 30 = .ok (.istore_n 2, 1) := by decide +kernel
theorem dX5_frees_31 : decode cX5_frees 31 = .ok (.iinc 3 1, 3) := by decide +kernel
theorem dX5_frees_34 : decode cX5_frees 34 = .ok (.goto (-30), 3) := by decide +kernel
theorem dX5_frees_37 : decode cX5_frees 37 = .ok (.iload_n 2, 1) := by decide +kernel
theorem dX5_frees_38 : decode cX5_frees 38 = .ok (.ireturn, 1) := by decide +kernel
theorem dX5_freeSeats_0 : decode cX5_freeSeats 0 = .ok (.aload_n 0, 1) := by decide +kernel
theorem dX5_freeSeats_1 : decode cX5_freeSeats 1 = .ok (.aload_n 0, 1) := by decide +kernel
theorem dX5_freeSeats_2 : decode cX5_freeSeats 2 = .ok (.iload_n 1, 1) := by decide +kernel
theorem dX5_freeSeats_3 : decode cX5_freeSeats 3 = .ok (.invokevirtual 67, 3) := by decide +kernel
theorem dX5_freeSeats_6 : decode cX5_freeSeats 6 = .ok (.ifCond .eq 7, 3) := by decide +kernel
theorem dX5_freeSeats_9 : decode cX5_freeSeats 9 = .ok (.iconst 0, 1) := by decide +kernel
theorem dX5_freeSeats_10 : decode cX5_freeSeats 10 = .ok (.goto 4, 3) := by decide +kernel
theorem dX5_freeSeats_13 : decode cX5_freeSeats 13 = .ok (.iconst 1, 1) := by decide +kernel
theorem dX5_freeSeats_14 : decode cX5_freeSeats 14 = .ok (.invokevirtual 63, 3) := by decide +kernel
theorem dX5_freeSeats_17 : decode cX5_freeSeats 17 = .ok (.ifCond .eq 11, 3) := by decide +kernel
theorem dX5_freeSeats_20 : decode cX5_freeSeats 20 = .ok (.aload_n 0, 1) := by decide +kernel
theorem dX5_freeSeats_21 : decode cX5_freeSeats 21 = .ok (.iload_n 1, 1) := by decide +kernel
theorem dX5_freeSeats_22 : decode cX5_freeSeats 22 = .ok (.invokevirtual 81, 3) := by decide +kernel
theorem dX5_freeSeats_25 : decode cX5_freeSeats 25 = .ok (.goto 4, 3) := by decide +kernel
theorem dX5_freeSeats_28 : decode cX5_freeSeats 28 = .ok (.iconst 0, 1) := by decide +kernel
theorem dX5_freeSeats_29 : decode cX5_freeSeats 29 = .ok (.ireturn, 1) := by decide +kernel
theorem dX5_orphans_0 : decode cX5_orphans 0 = .ok (.aload_n 0, 1) := by decide +kernel
theorem dX5_orphans_1 : decode cX5_orphans 1 = .ok (.iconst 0, 1) := by decide +kernel
theorem dX5_orphans_2 : decode cX5_orphans 2 = .ok (.putfield 52, 3) := by decide +kernel
theorem dX5_orphans_5 : decode cX5_orphans 5 = .ok (.iconst 0, 1) := by decide +kernel
theorem dX5_orphans_6 : decode cX5_orphans 6 = .ok (.istore_n 1, 1) := by decide +kernel
theorem dX5_orphans_7 : decode cX5_orphans 7 = .ok (.iconst 0, 1) := by decide +kernel
theorem dX5_orphans_8 : decode cX5_orphans 8 = .ok (.istore_n 2, 1) := by decide +kernel
theorem dX5_orphans_9 : decode cX5_orphans 9 = .ok (.iload_n 2, 1) := by decide +kernel
theorem dX5_orphans_10 : decode cX5_orphans 10 = .ok (.aload_n 0, 1) := by decide +kernel
theorem dX5_orphans_11 : decode cX5_orphans 11 = .ok (.getfield 60, 3) := by decide +kernel
theorem dX5_orphans_14 : decode cX5_orphans 14 = .ok (.if_icmp .ge 66, 3) := by decide +kernel
theorem dX5_orphans_17 : decode cX5_orphans 17 = .ok (.iconst 0, 1) := by decide +kernel
theorem dX5_orphans_18 : decode cX5_orphans 18 = .ok (.istore_n 3, 1) := by decide +kernel
theorem dX5_orphans_19 : decode cX5_orphans 19 = .ok (.iload_n 3, 1) := by decide +kernel
theorem dX5_orphans_20 : decode cX5_orphans 20 = .ok (.aload_n 0, 1) := by decide +kernel
theorem dX5_orphans_21 : decode cX5_orphans 21 = .ok (.getfield 7, 3) := by decide +kernel
theorem dX5_orphans_24 : decode cX5_orphans 24 = .ok (.iload_n 2, 1) := by decide +kernel
theorem dX5_orphans_25 : decode cX5_orphans 25 = .ok (.iaload, 1) := by decide +kernel
theorem dX5_orphans_26 : decode cX5_orphans 26 = .ok (.if_icmp .ge 48, 3) := by decide +kernel
theorem dX5_orphans_29 : decode cX5_orphans 29 = .ok (.iload_n 1, 1) := by decide +kernel
theorem dX5_orphans_30 : decode cX5_orphans 30 = .ok (.aload_n 0, 1) := by decide +kernel
theorem dX5_orphans_31 : decode cX5_orphans 31 = .ok (.iload_n 2, 1) := by decide +kernel
theorem dX5_orphans_32 : decode cX5_orphans 32 = .ok (.iload_n 3, 1) := by decide +kernel
theorem dX5_orphans_33 : decode cX5_orphans 33 = .ok (.invokevirtual 78, 3) := by decide +kernel
theorem dX5_orphans_36 : decode cX5_orphans 36 = .ok (.ifCond .eq 29, 3) := by decide +kernel
theorem dX5_orphans_39 : decode cX5_orphans 39 = .ok (.aload_n 0, 1) := by decide +kernel
theorem dX5_orphans_40 : decode cX5_orphans 40 = .ok (.iload_n 2, 1) := by decide +kernel
theorem dX5_orphans_41 : decode cX5_orphans 41 = .ok (.iload_n 3, 1) := by decide +kernel
theorem dX5_orphans_42 : decode cX5_orphans 42 = .ok (.iconst 1, 1) := by decide +kernel
theorem dX5_orphans_43 : decode cX5_orphans 43 = .ok (.isub, 1) := by decide +kernel
theorem dX5_orphans_44 : decode cX5_orphans 44 = .ok (.invokevirtual 78, 3) := by decide +kernel
theorem dX5_orphans_47 : decode cX5_orphans 47 = .ok (.ifCond .ne 18, 3) := by decide +kernel
theorem dX5_orphans_50 : decode cX5_orphans 50 = .ok (.aload_n 0, 1) := by decide +kernel
theorem dX5_orphans_51 : decode cX5_orphans 51 = .ok (.iload_n 2, 1) := by decide +kernel
theorem dX5_orphans_52 : decode cX5_orphans 52 = .ok (.iload_n 3, 1) := by decide +kernel
theorem dX5_orphans_53 : decode cX5_orphans 53 = .ok (.iconst 1, 1) := by decide +kernel
theorem dX5_orphans_54 : decode cX5_orphans 54 = .ok (.iadd, 1) := by decide +kernel
theorem dX5_orphans_55 : decode cX5_orphans 55 = .ok (.invokevirtual 78, 3) := by decide +kernel
theorem dX5_orphans_58 : decode cX5_orphans 58 = .ok (.ifCond .ne 7, 3) := by decide +kernel
theorem dX5_orphans_61 : decode cX5_orphans 61 = .ok (.iconst 1, 1) := by decide +kernel
theorem dX5_orphans_62 : decode cX5_orphans 62 = .ok (.goto 4, 3) := by decide +kernel
theorem dX5_orphans_65 : decode cX5_orphans 65 = .ok (.iconst 0, 1) := by decide +kernel
theorem dX5_orphans_66 : decode cX5_orphans 66 = .ok (.iadd, 1) := by decide +kernel
theorem dX5_orphans_67 : decode cX5_orphans 67 = .ok (.istore_n 1, 1) := by decide +kernel
theorem dX5_orphans_68 : decode cX5_orphans 68 = .ok (.iinc 3 1, 3) := by decide +kernel
theorem dX5_orphans_71 : decode cX5_orphans 71 = .ok (.goto (-52), 3) := by decide +kernel
theorem dX5_orphans_74 : decode cX5_orphans 74 = .ok (.iinc 2 1, 3) := by decide +kernel
theorem dX5_orphans_77 : decode cX5_orphans 77 = .ok (.goto (-68), 3) := by decide +kernel
theorem dX5_orphans_80 : decode cX5_orphans 80 = .ok (.iload_n 1, 1) := by decide +kernel
theorem dX5_orphans_81 : decode cX5_orphans 81 = .ok (.ireturn, 1) := by decide +kernel
theorem dX5_run_0 : decode cX5_run 0 = .ok (.iconst 0, 1) := by decide +kernel
theorem dX5_run_1 : decode cX5_run 1 = .ok (.istore_n 3, 1) := by decide +kernel
theorem dX5_run_2 : decode cX5_run 2 = .ok (.aload_n 0, 1) := by decide +kernel
theorem dX5_run_3 : decode cX5_run 3 = .ok (.iload_n 1, 1) := by decide +kernel
theorem dX5_run_4 : decode cX5_run 4 = .ok (.iload_n 2, 1) := by decide +kernel
theorem dX5_run_5 : decode cX5_run 5 = .ok (.iload_n 3, 1) := by decide +kernel
theorem dX5_run_6 : decode cX5_run 6 = .ok (.iadd, 1) := by decide +kernel
theorem dX5_run_7 : decode cX5_run 7 = .ok (.invokevirtual 78, 3) := by decide +kernel
theorem dX5_run_10 : decode cX5_run 10 = .ok (.ifCond .eq 9, 3) := by decide +kernel
theorem dX5_run_13 : decode cX5_run 13 = .ok (.iinc 3 1, 3) := by decide +kernel
theorem dX5_run_16 : decode cX5_run 16 = .ok (.goto (-14), 3) := by decide +kernel
theorem dX5_run_19 : decode cX5_run 19 = .ok (.iload_n 3, 1) := by decide +kernel
theorem dX5_run_20 : decode cX5_run 20 = .ok (.ireturn, 1) := by decide +kernel
theorem dX5_longestBlock_0 : decode cX5_longestBlock 0 = .ok (.aload_n 0, 1) := by decide +kernel
theorem dX5_longestBlock_1 : decode cX5_longestBlock 1 = .ok (.iconst 0, 1) := by decide +kernel
theorem dX5_longestBlock_2 : decode cX5_longestBlock 2 = .ok (.putfield 52, 3) := by decide +kernel
theorem dX5_longestBlock_5 : decode cX5_longestBlock 5 = .ok (.iconst 0, 1) := by decide +kernel
theorem dX5_longestBlock_6 : decode cX5_longestBlock 6 = .ok (.istore_n 1, 1) := by decide +kernel
theorem dX5_longestBlock_7 : decode cX5_longestBlock 7 = .ok (.iconst 0, 1) := by decide +kernel
theorem dX5_longestBlock_8 : decode cX5_longestBlock 8 = .ok (.istore_n 2, 1) := by decide +kernel
theorem dX5_longestBlock_9 : decode cX5_longestBlock 9 = .ok (.iload_n 2, 1) := by decide +kernel
theorem dX5_longestBlock_10 : decode cX5_longestBlock 10 = .ok (.aload_n 0, 1) := by decide +kernel
theorem dX5_longestBlock_11 : decode cX5_longestBlock 11 = .ok (.getfield 60, 3) := by decide +kernel
theorem dX5_longestBlock_14 : decode cX5_longestBlock 14 = .ok (.if_icmp .ge 48, 3) := by decide +kernel
theorem dX5_longestBlock_17 : decode cX5_longestBlock 17 = .ok (.iconst 0, 1) := by decide +kernel
theorem dX5_longestBlock_18 : decode cX5_longestBlock 18 = .ok (.istore_n 3, 1) := by decide +kernel
theorem dX5_longestBlock_19 : decode cX5_longestBlock 19 = .ok (.iload_n 3, 1) := by decide +kernel
theorem dX5_longestBlock_20 : decode cX5_longestBlock 20 = .ok (.aload_n 0, 1) := by decide +kernel
theorem dX5_longestBlock_21 : decode cX5_longestBlock 21 = .ok (.getfield 7, 3) := by decide +kernel
theorem dX5_longestBlock_24 : decode cX5_longestBlock 24 = .ok (.iload_n 2, 1) := by decide +kernel
theorem dX5_longestBlock_25 : decode cX5_longestBlock 25 = .ok (.iaload, 1) := by decide +kernel
theorem dX5_longestBlock_26 : decode cX5_longestBlock 26 = .ok (.if_icmp .ge 30, 3) := by decide +kernel
theorem dX5_longestBlock_29 : decode cX5_longestBlock 29 = .ok (.aload_n 0, 1) := by decide +kernel
theorem dX5_longestBlock_30 : decode cX5_longestBlock 30 = .ok (.iload_n 2, 1) := by decide +kernel
theorem dX5_longestBlock_31 : decode cX5_longestBlock 31 = .ok (.iload_n 3, 1) := by decide +kernel
theorem dX5_longestBlock_32 : decode cX5_longestBlock 32 = .ok (.invokevirtual 85, 3) := by decide +kernel
theorem dX5_longestBlock_35 : decode cX5_longestBlock 35 = .ok (.iload_n 1, 1) := by decide +kernel
theorem dX5_longestBlock_36 : decode cX5_longestBlock 36 = .ok (.if_icmp .le 12, 3) := by decide +kernel
theorem dX5_longestBlock_39 : decode cX5_longestBlock 39 = .ok (.aload_n 0, 1) := by decide +kernel
theorem dX5_longestBlock_40 : decode cX5_longestBlock 40 = .ok (.iload_n 2, 1) := by decide +kernel
theorem dX5_longestBlock_41 : decode cX5_longestBlock 41 = .ok (.iload_n 3, 1) := by decide +kernel
theorem dX5_longestBlock_42 : decode cX5_longestBlock 42 = .ok (.invokevirtual 85, 3) := by decide +kernel
theorem dX5_longestBlock_45 : decode cX5_longestBlock 45 = .ok (.goto 4, 3) := by decide +kernel
theorem dX5_longestBlock_48 : decode cX5_longestBlock 48 = .ok (.iload_n 1, 1) := by decide +kernel
theorem dX5_longestBlock_49 : decode cX5_longestBlock 49 = .ok (.istore_n 1, 1) := by decide +kernel
theorem dX5_longestBlock_50 : decode cX5_longestBlock 50 = .ok (.iinc 3 1, 3) := by decide +kernel
theorem dX5_longestBlock_53 : decode cX5_longestBlock 53 = .ok (.goto (-34), 3) := by decide +kernel
theorem dX5_longestBlock_56 : decode cX5_longestBlock 56 = .ok (.iinc 2 1, 3) := by decide +kernel
theorem dX5_longestBlock_59 : decode cX5_longestBlock 59 = .ok (.goto (-50), 3) := by decide +kernel
theorem dX5_longestBlock_62 : decode cX5_longestBlock 62 = .ok (.iload_n 1, 1) := by decide +kernel
theorem dX5_longestBlock_63 : decode cX5_longestBlock 63 = .ok (.ireturn, 1) := by decide +kernel
theorem dX5_sum_0 : decode cX5_sum 0 = .ok (.iconst 0, 1) := by decide +kernel
theorem dX5_sum_1 : decode cX5_sum 1 = .ok (.istore 4, 2) := by decide +kernel
theorem dX5_sum_3 : decode cX5_sum 3 = .ok (.iload_n 2, 1) := by decide +kernel
theorem dX5_sum_4 : decode cX5_sum 4 = .ok (.istore 5, 2) := by decide +kernel
theorem dX5_sum_6 : decode cX5_sum 6 = .ok (.iload 5, 2) := by decide +kernel
theorem dX5_sum_8 : decode cX5_sum 8 = .ok (.iload_n 2, 1) := by decide +kernel
theorem dX5_sum_9 : decode cX5_sum 9 = .ok (.iload_n 3, 1) := by decide +kernel
theorem dX5_sum_10 : decode cX5_sum 10 = .ok (.iadd, 1) := by decide +kernel
theorem dX5_sum_11 : decode cX5_sum 11 = .ok (.if_icmp .ge 21, 3) := by decide +kernel
theorem dX5_sum_14 : decode cX5_sum 14 = .ok (.iload 4, 2) := by decide +kernel
theorem dX5_sum_16 : decode cX5_sum 16 = .ok (.aload_n 0, 1) := by decide +kernel
theorem dX5_sum_17 : decode cX5_sum 17 = .ok (.iload_n 1, 1) := by decide +kernel
theorem dX5_sum_18 : decode cX5_sum 18 = .ok (.iload 5, 2) := by decide +kernel
theorem dX5_sum_20 : decode cX5_sum 20 = .ok (.invokevirtual 74, 3) := by decide +kernel
theorem dX5_sum_23 : decode cX5_sum 23 = .ok (.iadd, 1) := by decide +kernel
theorem dX5_sum_24 : decode cX5_sum 24 = .ok (.istore 4, 2) := by decide +kernel
theorem dX5_sum_26 : decode cX5_sum 26 = .ok (.iinc 5 1, 3) := by decide +kernel
theorem dX5_sum_29 : decode cX5_sum 29 = .ok (.goto (-23), 3) := by decide +kernel
theorem dX5_sum_32 : decode cX5_sum 32 = .ok (.iload 4, 2) := by decide +kernel
theorem dX5_sum_34 : decode cX5_sum 34 = .ok (.ireturn, 1) := by decide +kernel
theorem dX5_hasOrphan_0 : decode cX5_hasOrphan 0 = .ok (.aload_n 0, 1) := by decide +kernel
theorem dX5_hasOrphan_1 : decode cX5_hasOrphan 1 = .ok (.iload_n 1, 1) := by decide +kernel
theorem dX5_hasOrphan_2 : decode cX5_hasOrphan 2 = .ok (.iload_n 2, 1) := by decide +kernel
theorem dX5_hasOrphan_3 : decode cX5_hasOrphan 3 = .ok (.iconst 1, 1) := by decide +kernel
theorem dX5_hasOrphan_4 : decode cX5_hasOrphan 4 = .ok (.isub, 1) := by decide +kernel
theorem dX5_hasOrphan_5 : decode cX5_hasOrphan 5 = .ok (.invokevirtual 78, 3) := by decide +kernel
theorem dX5_hasOrphan_8 : decode cX5_hasOrphan 8 = .ok (.ifCond .eq 18, 3) := by decide +kernel
theorem dX5_hasOrphan_11 : decode cX5_hasOrphan 11 = .ok (.aload_n 0, 1) := by decide +kernel
theorem dX5_hasOrphan_12 : decode cX5_hasOrphan 12 = .ok (.iload_n 1, 1) := by decide +kernel
theorem dX5_hasOrphan_13 : decode cX5_hasOrphan 13 = .ok (.iload_n 2, 1) := by decide +kernel
theorem dX5_hasOrphan_14 : decode cX5_hasOrphan 14 = .ok (.iconst 2, 1) := by decide +kernel
theorem dX5_hasOrphan_15 : decode cX5_hasOrphan 15 = .ok (.isub, 1) := by decide +kernel
theorem dX5_hasOrphan_16 : decode cX5_hasOrphan 16 = .ok (.invokevirtual 78, 3) := by decide +kernel
theorem dX5_hasOrphan_19 : decode cX5_hasOrphan 19 = .ok (.ifCond .ne 7, 3) := by decide +kernel
theorem dX5_hasOrphan_22 : decode cX5_hasOrphan 22 = .ok (.iconst 1, 1) := by decide +kernel
theorem dX5_hasOrphan_23 : decode cX5_hasOrphan 23 = .ok (.goto 4, 3) := by decide +kernel
theorem dX5_hasOrphan_26 : decode cX5_hasOrphan 26 = .ok (.iconst 0, 1) := by decide +kernel
theorem dX5_hasOrphan_27 : decode cX5_hasOrphan 27 = .ok (.istore 4, 2) := by decide +kernel
theorem dX5_hasOrphan_29 : decode cX5_hasOrphan 29 = .ok (.aload_n 0, 1) := by decide +kernel
theorem dX5_hasOrphan_30 : decode cX5_hasOrphan 30 = .ok (.iload_n 1, 1) := by decide +kernel
theorem dX5_hasOrphan_31 : decode cX5_hasOrphan 31 = .ok (.iload_n 2, 1) := by decide +kernel
theorem dX5_hasOrphan_32 : decode cX5_hasOrphan 32 = .ok (.iload_n 3, 1) := by decide +kernel
theorem dX5_hasOrphan_33 : decode cX5_hasOrphan 33 = .ok (.iadd, 1) := by decide +kernel
theorem dX5_hasOrphan_34 : decode cX5_hasOrphan 34 = .ok (.invokevirtual 78, 3) := by decide +kernel
theorem dX5_hasOrphan_37 : decode cX5_hasOrphan 37 = .ok (.ifCond .eq 20, 3) := by decide +kernel
theorem dX5_hasOrphan_40 : decode cX5_hasOrphan 40 = .ok (.aload_n 0, 1) := by decide +kernel
theorem dX5_hasOrphan_41 : decode cX5_hasOrphan 41 = .ok (.iload_n 1, 1) := by decide +kernel
theorem dX5_hasOrphan_42 : decode cX5_hasOrphan 42 = .ok (.iload_n 2, 1) := by decide +kernel
theorem dX5_hasOrphan_43 : decode cX5_hasOrphan 43 = .ok (.iload_n 3, 1) := by decide +kernel
theorem dX5_hasOrphan_44 : decode cX5_hasOrphan 44 = .ok (.iadd, 1) := by decide +kernel
theorem dX5_hasOrphan_45 : decode cX5_hasOrphan 45 = .ok (.iconst 1, 1) := by decide +kernel
theorem dX5_hasOrphan_46 : decode cX5_hasOrphan 46 = .ok (.iadd, 1) := by decide +kernel
theorem dX5_hasOrphan_47 : decode cX5_hasOrphan 47 = .ok (.invokevirtual 78, 3) := by decide +kernel
theorem dX5_hasOrphan_50 : decode cX5_hasOrphan 50 = .ok (.ifCond .ne 7, 3) := by decide +kernel
theorem dX5_hasOrphan_53 : decode cX5_hasOrphan 53 = .ok (.iconst 1, 1) := by decide +kernel
theorem dX5_hasOrphan_54 : decode cX5_hasOrphan 54 = .ok (.goto 4, 3) := by decide +kernel
theorem dX5_hasOrphan_57 : decode cX5_hasOrphan 57 = .ok (.iconst 0, 1) := by decide +kernel
theorem dX5_hasOrphan_58 : decode cX5_hasOrphan 58 = .ok (.istore 5, 2) := by decide +kernel
theorem dX5_hasOrphan_60 : decode cX5_hasOrphan 60 = .ok (.iload 4, 2) := by decide +kernel
theorem dX5_hasOrphan_62 : decode cX5_hasOrphan 62 = .ok (.ifCond .ne 8, 3) := by decide +kernel
theorem dX5_hasOrphan_65 : decode cX5_hasOrphan 65 = .ok (.iload 5, 2) := by decide +kernel
theorem dX5_hasOrphan_67 : decode cX5_hasOrphan 67 = .ok (.ifCond .eq 7, 3) := by decide +kernel
theorem dX5_hasOrphan_70 : decode cX5_hasOrphan 70 = .ok (.iconst 1, 1) := by decide +kernel
theorem dX5_hasOrphan_71 : decode cX5_hasOrphan 71 = .ok (.goto 4, 3) := by decide +kernel
theorem dX5_hasOrphan_74 : decode cX5_hasOrphan 74 = .ok (.iconst 0, 1) := by decide +kernel
theorem dX5_hasOrphan_75 : decode cX5_hasOrphan 75 = .ok (.ireturn, 1) := by decide +kernel
theorem dX5_firstIn_0 : decode cX5_firstIn 0 = .ok (.iconst (-1), 1) := by decide +kernel
theorem dX5_firstIn_1 : decode cX5_firstIn 1 = .ok (.istore 4, 2) := by decide +kernel
theorem dX5_firstIn_3 : decode cX5_firstIn 3 = .ok (.iconst 0, 1) := by decide +kernel
theorem dX5_firstIn_4 : decode cX5_firstIn 4 = .ok (.istore 5, 2) := by decide +kernel
theorem dX5_firstIn_6 : decode cX5_firstIn 6 = .ok (.iload 5, 2) := by decide +kernel
theorem dX5_firstIn_8 : decode cX5_firstIn 8 = .ok (.iload_n 2, 1) := by decide +kernel
theorem dX5_firstIn_9 : decode cX5_firstIn 9 = .ok (.iadd, 1) := by decide +kernel
theorem dX5_firstIn_10 : decode cX5_firstIn 10 = .ok (.aload_n 0, 1) := by decide +kernel
theorem dX5_firstIn_11 : decode cX5_firstIn 11 = .ok (.getfield 7, 3) := by decide +kernel
theorem dX5_firstIn_14 : decode cX5_firstIn 14 = .ok (.iload_n 1, 1) := by decide +kernel
theorem dX5_firstIn_15 : decode cX5_firstIn 15 = .ok (.iaload, 1) := by decide +kernel
theorem dX5_firstIn_16 : decode cX5_firstIn 16 = .ok (.if_icmp .gt 68, 3) := by decide +kernel
theorem dX5_firstIn_19 : decode cX5_firstIn 19 = .ok (.aload_n 0, 1) := by decide +kernel
theorem dX5_firstIn_20 : decode cX5_firstIn 20 = .ok (.iload_n 1, 1) := by decide +kernel
theorem dX5_firstIn_21 : decode cX5_firstIn 21 = .ok (.iload 5, 2) := by decide +kernel
theorem dX5_firstIn_23 : decode cX5_firstIn 23 = .ok (.invokevirtual 85, 3) := by decide +kernel
theorem dX5_firstIn_26 : decode cX5_firstIn 26 = .ok (.iload_n 2, 1) := by decide +kernel
theorem dX5_firstIn_27 : decode cX5_firstIn 27 = .ok (.if_icmp .lt 51, 3) := by decide +kernel
theorem dX5_firstIn_30 : decode cX5_firstIn 30 = .ok (.iload_n 3, 1) := by decide +kernel
theorem dX5_firstIn_31 : decode cX5_firstIn 31 = .ok (.ifCond .eq 14, 3) := by decide +kernel
theorem dX5_firstIn_34 : decode cX5_firstIn 34 = .ok (.aload_n 0, 1) := by decide +kernel
theorem dX5_firstIn_35 : decode cX5_firstIn 35 = .ok (.iload_n 1, 1) := by decide +kernel
theorem dX5_firstIn_36 : decode cX5_firstIn 36 = .ok (.iload 5, 2) := by decide +kernel
theorem dX5_firstIn_38 : decode cX5_firstIn 38 = .ok (.iload_n 2, 1) := by decide +kernel
theorem dX5_firstIn_39 : decode cX5_firstIn 39 = .ok (.invokevirtual 88, 3) := by decide +kernel
theorem dX5_firstIn_42 : decode cX5_firstIn 42 = .ok (.ifCond .ne 36, 3) := by decide +kernel
theorem dX5_firstIn_45 : decode cX5_firstIn 45 = .ok (.iload 4, 2) := by decide +kernel
theorem dX5_firstIn_47 : decode cX5_firstIn 47 = .ok (.ifCond .lt 22, 3) := by decide +kernel
theorem dX5_firstIn_50 : decode cX5_firstIn 50 = .ok (.aload_n 0, 1) := by decide +kernel
theorem dX5_firstIn_51 : decode cX5_firstIn 51 = .ok (.iload_n 1, 1) := by decide +kernel
theorem dX5_firstIn_52 : decode cX5_firstIn 52 = .ok (.iload 5, 2) := by decide +kernel
theorem dX5_firstIn_54 : decode cX5_firstIn 54 = .ok (.iload_n 2, 1) := by decide +kernel
theorem dX5_firstIn_55 : decode cX5_firstIn 55 = .ok (.invokevirtual 91, 3) := by decide +kernel
theorem dX5_firstIn_58 : decode cX5_firstIn 58 = .ok (.aload_n 0, 1) := by decide +kernel
theorem dX5_firstIn_59 : decode cX5_firstIn 59 = .ok (.iload_n 1, 1) := by decide +kernel
theorem dX5_firstIn_60 : decode cX5_firstIn 60 = .ok (.iload 4, 2) := by decide +kernel
theorem dX5_firstIn_62 : decode cX5_firstIn 62 = .ok (.iload_n 2, 1) := by decide +kernel
theorem dX5_firstIn_63 : decode cX5_firstIn 63 = .ok (.invokevirtual 91, 3) := by decide +kernel
theorem dX5_firstIn_66 : decode cX5_firstIn 66 = .ok (.if_icmp .le 8, 3) := by decide +kernel
theorem dX5_firstIn_69 : decode cX5_firstIn 69 = .ok (.iload 5, 2) := by decide +kernel
theorem dX5_firstIn_71 : decode cX5_firstIn 71 = .ok (.goto 5, 3) := by decide +kernel
theorem dX5_firstIn_74 : decode cX5_firstIn 74 = .ok (.iload 4, 2) := by decide +kernel
theorem dX5_firstIn_76 : decode cX5_firstIn 76 = .ok (.istore 4, 2) := by decide +kernel
theorem dX5_firstIn_78 : decode cX5_firstIn 78 = .ok (.iinc 5 1, 3) := by decide +kernel
theorem dX5_firstIn_81 : decode cX5_firstIn 81 = .ok (.goto (-75), 3) := by decide +kernel
theorem dX5_firstIn_84 : decode cX5_firstIn 84 = .ok (.iload 4, 2) := by decide +kernel
theorem dX5_firstIn_86 : decode cX5_firstIn 86 = .ok (.ireturn, 1) := by decide +kernel
theorem dX5_bestOf_0 : decode cX5_bestOf 0 = .ok (.iconst (-1), 1) := by decide +kernel
theorem dX5_bestOf_1 : decode cX5_bestOf 1 = .ok (.istore_n 3, 1) := by decide +kernel
theorem dX5_bestOf_2 : decode cX5_bestOf 2 = .ok (.iconst 0, 1) := by decide +kernel
theorem dX5_bestOf_3 : decode cX5_bestOf 3 = .ok (.istore 4, 2) := by decide +kernel
theorem dX5_bestOf_5 : decode cX5_bestOf 5 = .ok (.iconst 0, 1) := by decide +kernel
theorem dX5_bestOf_6 : decode cX5_bestOf 6 = .ok (.istore 5, 2) := by decide +kernel
theorem dX5_bestOf_8 : decode cX5_bestOf 8 = .ok (.iload 5, 2) := by decide +kernel
theorem dX5_bestOf_10 : decode cX5_bestOf 10 = .ok (.aload_n 0, 1) := by decide +kernel
theorem dX5_bestOf_11 : decode cX5_bestOf 11 = .ok (.getfield 60, 3) := by decide +kernel
theorem dX5_bestOf_14 : decode cX5_bestOf 14 = .ok (.if_icmp .ge 68, 3) := by decide +kernel
theorem dX5_bestOf_17 : decode cX5_bestOf 17 = .ok (.aload_n 0, 1) := by decide +kernel
theorem dX5_bestOf_18 : decode cX5_bestOf 18 = .ok (.iload 5, 2) := by decide +kernel
theorem dX5_bestOf_20 : decode cX5_bestOf 20 = .ok (.iload_n 1, 1) := by decide +kernel
theorem dX5_bestOf_21 : decode cX5_bestOf 21 = .ok (.iload_n 2, 1) := by decide +kernel
theorem dX5_bestOf_22 : decode cX5_bestOf 22 = .ok (.invokevirtual 95, 3) := by decide +kernel
theorem dX5_bestOf_25 : decode cX5_bestOf 25 = .ok (.istore 6, 2) := by decide +kernel
theorem dX5_bestOf_27 : decode cX5_bestOf 27 = .ok (.iload 6, 2) := by decide +kernel
theorem dX5_bestOf_29 : decode cX5_bestOf 29 = .ok (.ifCond .ge 7, 3) := by decide +kernel
theorem dX5_bestOf_32 : decode cX5_bestOf 32 = .ok (.iconst 0, 1) := by decide +kernel
theorem dX5_bestOf_33 : decode cX5_bestOf 33 = .ok (.goto 12, 3) := by decide +kernel
theorem dX5_bestOf_36 : decode cX5_bestOf 36 = .ok (.aload_n 0, 1) := by decide +kernel
theorem dX5_bestOf_37 : decode cX5_bestOf 37 = .ok (.iload 5, 2) := by decide +kernel
theorem dX5_bestOf_39 : decode cX5_bestOf 39 = .ok (.iload 6, 2) := by decide +kernel
theorem dX5_bestOf_41 : decode cX5_bestOf 41 = .ok (.iload_n 1, 1) := by decide +kernel
theorem dX5_bestOf_42 : decode cX5_bestOf 42 = .ok (.invokevirtual 91, 3) := by decide +kernel
theorem dX5_bestOf_45 : decode cX5_bestOf 45 = .ok (.istore 7, 2) := by decide +kernel
theorem dX5_bestOf_47 : decode cX5_bestOf 47 = .ok (.iload 6, 2) := by decide +kernel
theorem dX5_bestOf_49 : decode cX5_bestOf 49 = .ok (.ifCond .lt 27, 3) := by decide +kernel
theorem dX5_bestOf_52 : decode cX5_bestOf 52 = .ok (.iload_n 3, 1) := by decide +kernel
theorem dX5_bestOf_53 : decode cX5_bestOf 53 = .ok (.ifCond .lt 10, 3) := by decide +kernel
theorem dX5_bestOf_56 : decode cX5_bestOf 56 = .ok (.iload 7, 2) := by decide +kernel
theorem dX5_bestOf_58 : decode cX5_bestOf 58 = .ok (.iload 4, 2) := by decide +kernel
theorem dX5_bestOf_60 : decode cX5_bestOf 60 = .ok (.if_icmp .le 16, 3) := by decide +kernel
theorem dX5_bestOf_63 : decode cX5_bestOf 63 = .ok (.bipush 100, 2) := by decide +kernel
theorem dX5_bestOf_65 : decode cX5_bestOf 65 = .ok (.iload 5, 2) := by decide +kernel
theorem dX5_bestOf_67 : decode cX5_bestOf 67 = .ok (.imul, 1) := by decide +kernel
theorem dX5_bestOf_68 : decode cX5_bestOf 68 = .ok (.iload 6, 2) := by decide +kernel
theorem dX5_bestOf_70 : decode cX5_bestOf 70 = .ok (.iadd, 1) := by decide +kernel
theorem dX5_bestOf_71 : decode cX5_bestOf 71 = .ok (.istore_n 3, 1) := by decide +kernel
theorem dX5_bestOf_72 : decode cX5_bestOf 72 = .ok (.iload 7, 2) := by decide +kernel
theorem dX5_bestOf_74 : decode cX5_bestOf 74 = .ok (.istore 4, 2) := by decide +kernel
theorem dX5_bestOf_76 : decode cX5_bestOf 76 = .ok (.iinc 5 1, 3) := by decide +kernel
theorem dX5_bestOf_79 : decode cX5_bestOf 79 = .ok (.goto (-71), 3) := by decide +kernel
theorem dX5_bestOf_82 : decode cX5_bestOf 82 = .ok (.iload_n 3, 1) := by decide +kernel
theorem dX5_bestOf_83 : decode cX5_bestOf 83 = .ok (.ireturn, 1) := by decide +kernel
theorem dX5_best_0 : decode cX5_best 0 = .ok (.aload_n 0, 1) := by decide +kernel
theorem dX5_best_1 : decode cX5_best 1 = .ok (.iload_n 1, 1) := by decide +kernel
theorem dX5_best_2 : decode cX5_best 2 = .ok (.iconst 1, 1) := by decide +kernel
theorem dX5_best_3 : decode cX5_best 3 = .ok (.invokevirtual 99, 3) := by decide +kernel
theorem dX5_best_6 : decode cX5_best 6 = .ok (.istore_n 2, 1) := by decide +kernel
theorem dX5_best_7 : decode cX5_best 7 = .ok (.iload_n 2, 1) := by decide +kernel
theorem dX5_best_8 : decode cX5_best 8 = .ok (.ifCond .ge 12, 3) := by decide +kernel
theorem dX5_best_11 : decode cX5_best 11 = .ok (.aload_n 0, 1) := by decide +kernel
theorem dX5_best_12 : decode cX5_best 12 = .ok (.iload_n 1, 1) := by decide +kernel
theorem dX5_best_13 : decode cX5_best 13 = .ok (.iconst 0, 1) := by decide +kernel
theorem dX5_best_14 : decode cX5_best 14 = .ok (.invokevirtual 99, 3) := by decide +kernel
theorem dX5_best_17 : decode cX5_best 17 = .ok (.goto 4, 3) := by decide +kernel
theorem dX5_best_20 : decode cX5_best 20 = .ok (.iload_n 2, 1) := by decide +kernel
theorem dX5_best_21 : decode cX5_best 21 = .ok (.ireturn, 1) := by decide +kernel
theorem dX5_bestBlock_0 : decode cX5_bestBlock 0 = .ok (.iload_n 1, 1) := by decide +kernel
theorem dX5_bestBlock_1 : decode cX5_bestBlock 1 = .ok (.iconst 1, 1) := by decide +kernel
theorem dX5_bestBlock_2 : decode cX5_bestBlock 2 = .ok (.bipush 20, 2) := by decide +kernel
theorem dX5_bestBlock_4 : decode cX5_bestBlock 4 = .ok (.invokestatic 56, 3) := by decide +kernel
theorem dX5_bestBlock_7 : decode cX5_bestBlock 7 = .ok (.ifCond .eq 11, 3) := by decide +kernel
theorem dX5_bestBlock_10 : decode cX5_bestBlock 10 = .ok (.aload_n 0, 1) := by decide +kernel
theorem dX5_bestBlock_11 : decode cX5_bestBlock 11 = .ok (.iload_n 1, 1) := by decide +kernel
theorem dX5_bestBlock_12 : decode cX5_bestBlock 12 = .ok (.invokevirtual 103, 3) := by decide +kernel
theorem dX5_bestBlock_15 : decode cX5_bestBlock 15 = .ok (.goto 4, 3) := by decide +kernel
theorem dX5_bestBlock_18 : decode cX5_bestBlock 18 = .ok (.iconst (-1), 1) := by decide +kernel
theorem dX5_bestBlock_19 : decode cX5_bestBlock 19 = .ok (.istore_n 2, 1) := by decide +kernel
theorem dX5_bestBlock_20 : decode cX5_bestBlock 20 = .ok (.aload_n 0, 1) := by decide +kernel
theorem dX5_bestBlock_21 : decode cX5_bestBlock 21 = .ok (.iload_n 1, 1) := by decide +kernel
theorem dX5_bestBlock_22 : decode cX5_bestBlock 22 = .ok (.iconst 1, 1) := by decide +kernel
theorem dX5_bestBlock_23 : decode cX5_bestBlock 23 = .ok (.bipush 20, 2) := by decide +kernel
theorem dX5_bestBlock_25 : decode cX5_bestBlock 25 = .ok (.invokestatic 56, 3) := by decide +kernel
theorem dX5_bestBlock_28 : decode cX5_bestBlock 28 = .ok (.ifCond .ne 7, 3) := by decide +kernel
theorem dX5_bestBlock_31 : decode cX5_bestBlock 31 = .ok (.iconst 1, 1) := by decide +kernel
theorem dX5_bestBlock_32 : decode cX5_bestBlock 32 = .ok (.goto 12, 3) := by decide +kernel
theorem dX5_bestBlock_35 : decode cX5_bestBlock 35 = .ok (.iload_n 2, 1) := by decide +kernel
theorem dX5_bestBlock_36 : decode cX5_bestBlock 36 = .ok (.ifCond .ge 7, 3) := by decide +kernel
theorem dX5_bestBlock_39 : decode cX5_bestBlock 39 = .ok (.iconst 2, 1) := by decide +kernel
theorem dX5_bestBlock_40 : decode cX5_bestBlock 40 = .ok (.goto 4, 3) := by decide +kernel
theorem dX5_bestBlock_43 : decode cX5_bestBlock 43 = .ok (.iconst 0, 1) := by decide +kernel
theorem dX5_bestBlock_44 : decode cX5_bestBlock 44 = .ok (.invokevirtual 63, 3) := by decide +kernel
theorem dX5_bestBlock_47 : decode cX5_bestBlock 47 = .ok (.ifCond .eq 7, 3) := by decide +kernel
theorem dX5_bestBlock_50 : decode cX5_bestBlock 50 = .ok (.iload_n 2, 1) := by decide +kernel
theorem dX5_bestBlock_51 : decode cX5_bestBlock 51 = .ok (.goto 4, 3) := by decide +kernel
theorem dX5_bestBlock_54 : decode cX5_bestBlock 54 = .ok (.iconst 0, 1) := by decide +kernel
theorem dX5_bestBlock_55 : decode cX5_bestBlock 55 = .ok (.ireturn, 1) := by decide +kernel
theorem dX5_leavesOrphan_0 : decode cX5_leavesOrphan 0 = .ok (.iload_n 1, 1) := by decide +kernel
theorem dX5_leavesOrphan_1 : decode cX5_leavesOrphan 1 = .ok (.iconst 1, 1) := by decide +kernel
theorem dX5_leavesOrphan_2 : decode cX5_leavesOrphan 2 = .ok (.bipush 20, 2) := by decide +kernel
theorem dX5_leavesOrphan_4 : decode cX5_leavesOrphan 4 = .ok (.invokestatic 56, 3) := by decide +kernel
theorem dX5_leavesOrphan_7 : decode cX5_leavesOrphan 7 = .ok (.ifCond .eq 11, 3) := by decide +kernel
theorem dX5_leavesOrphan_10 : decode cX5_leavesOrphan 10 = .ok (.aload_n 0, 1) := by decide +kernel
theorem dX5_leavesOrphan_11 : decode cX5_leavesOrphan 11 = .ok (.iload_n 1, 1) := by decide +kernel
theorem dX5_leavesOrphan_12 : decode cX5_leavesOrphan 12 = .ok (.invokevirtual 103, 3) := by decide +kernel
theorem dX5_leavesOrphan_15 : decode cX5_leavesOrphan 15 = .ok (.goto 4, 3) := by decide +kernel
theorem dX5_leavesOrphan_18 : decode cX5_leavesOrphan 18 = .ok (.iconst (-1), 1) := by decide +kernel
theorem dX5_leavesOrphan_19 : decode cX5_leavesOrphan 19 = .ok (.istore_n 2, 1) := by decide +kernel
theorem dX5_leavesOrphan_20 : decode cX5_leavesOrphan 20 = .ok (.aload_n 0, 1) := by decide +kernel
theorem dX5_leavesOrphan_21 : decode cX5_leavesOrphan 21 = .ok (.iload_n 1, 1) := by decide +kernel
theorem dX5_leavesOrphan_22 : decode cX5_leavesOrphan 22 = .ok (.iconst 1, 1) := by decide +kernel
theorem dX5_leavesOrphan_23 : decode cX5_leavesOrphan 23 = .ok (.bipush 20, 2) := by decide +kernel
theorem dX5_leavesOrphan_25 : decode cX5_leavesOrphan 25 = .ok (.invokestatic 56, 3) := by decide +kernel
theorem dX5_leavesOrphan_28 : decode cX5_leavesOrphan 28 = .ok (.ifCond .ne 7, 3) := by decide +kernel
theorem dX5_leavesOrphan_31 : decode cX5_leavesOrphan 31 = .ok (.iconst 1, 1) := by decide +kernel
theorem dX5_leavesOrphan_32 : decode cX5_leavesOrphan 32 = .ok (.goto 12, 3) := by decide +kernel
theorem dX5_leavesOrphan_35 : decode cX5_leavesOrphan 35 = .ok (.iload_n 2, 1) := by decide +kernel
theorem dX5_leavesOrphan_36 : decode cX5_leavesOrphan 36 = .ok (.ifCond .ge 7, 3) := by decide +kernel
theorem dX5_leavesOrphan_39 : decode cX5_leavesOrphan 39 = .ok (.iconst 2, 1) := by decide +kernel
theorem dX5_leavesOrphan_40 : decode cX5_leavesOrphan 40 = .ok (.goto 4, 3) := by decide +kernel
theorem dX5_leavesOrphan_43 : decode cX5_leavesOrphan 43 = .ok (.iconst 0, 1) := by decide +kernel
theorem dX5_leavesOrphan_44 : decode cX5_leavesOrphan 44 = .ok (.invokevirtual 63, 3) := by decide +kernel
theorem dX5_leavesOrphan_47 : decode cX5_leavesOrphan 47 = .ok (.ifCond .eq 23, 3) := by decide +kernel
theorem dX5_leavesOrphan_50 : decode cX5_leavesOrphan 50 = .ok (.aload_n 0, 1) := by decide +kernel
theorem dX5_leavesOrphan_51 : decode cX5_leavesOrphan 51 = .ok (.iload_n 2, 1) := by decide +kernel
theorem dX5_leavesOrphan_52 : decode cX5_leavesOrphan 52 = .ok (.bipush 100, 2) := by decide +kernel
theorem dX5_leavesOrphan_54 : decode cX5_leavesOrphan 54 = .ok (.idiv, 1) := by decide +kernel
theorem dX5_leavesOrphan_55 : decode cX5_leavesOrphan 55 = .ok (.iload_n 2, 1) := by decide +kernel
theorem dX5_leavesOrphan_56 : decode cX5_leavesOrphan 56 = .ok (.bipush 100, 2) := by decide +kernel
theorem dX5_leavesOrphan_58 : decode cX5_leavesOrphan 58 = .ok (.irem, 1) := by decide +kernel
theorem dX5_leavesOrphan_59 : decode cX5_leavesOrphan 59 = .ok (.iload_n 1, 1) := by decide +kernel
theorem dX5_leavesOrphan_60 : decode cX5_leavesOrphan 60 = .ok (.invokevirtual 88, 3) := by decide +kernel
theorem dX5_leavesOrphan_63 : decode cX5_leavesOrphan 63 = .ok (.ifCond .eq 7, 3) := by decide +kernel
theorem dX5_leavesOrphan_66 : decode cX5_leavesOrphan 66 = .ok (.iconst 1, 1) := by decide +kernel
theorem dX5_leavesOrphan_67 : decode cX5_leavesOrphan 67 = .ok (.goto 4, 3) := by decide +kernel
theorem dX5_leavesOrphan_70 : decode cX5_leavesOrphan 70 = .ok (.iconst 0, 1) := by decide +kernel
theorem dX5_leavesOrphan_71 : decode cX5_leavesOrphan 71 = .ok (.ireturn, 1) := by decide +kernel
theorem dX5_owns_0 : decode cX5_owns 0 = .ok (.iload_n 2, 1) := by decide +kernel
theorem dX5_owns_1 : decode cX5_owns 1 = .ok (.istore 5, 2) := by decide +kernel
theorem dX5_owns_3 : decode cX5_owns 3 = .ok (.iload 5, 2) := by decide +kernel
theorem dX5_owns_5 : decode cX5_owns 5 = .ok (.iload_n 2, 1) := by decide +kernel
theorem dX5_owns_6 : decode cX5_owns 6 = .ok (.iload_n 3, 1) := by decide +kernel
theorem dX5_owns_7 : decode cX5_owns 7 = .ok (.iadd, 1) := by decide +kernel
theorem dX5_owns_8 : decode cX5_owns 8 = .ok (.if_icmp .ge 23, 3) := by decide +kernel
theorem dX5_owns_11 : decode cX5_owns 11 = .ok (.aload_n 0, 1) := by decide +kernel
theorem dX5_owns_12 : decode cX5_owns 12 = .ok (.getfield 19, 3) := by decide +kernel
theorem dX5_owns_15 : decode cX5_owns 15 = .ok (.bipush 20, 2) := by decide +kernel
theorem dX5_owns_17 : decode cX5_owns 17 = .ok (.iload_n 1, 1) := by decide +kernel
theorem dX5_owns_18 : decode cX5_owns 18 = .ok (.imul, 1) := by decide +kernel
theorem dX5_owns_19 : decode cX5_owns 19 = .ok (.iload 5, 2) := by decide +kernel
theorem dX5_owns_21 : decode cX5_owns 21 = .ok (.iadd, 1) := by decide +kernel
theorem dX5_owns_22 : decode cX5_owns 22 = .ok (.iload 4, 2) := by decide +kernel
theorem dX5_owns_24 : decode cX5_owns 24 = .ok (.iastore, 1) := by decide +kernel
theorem dX5_owns_25 : decode cX5_owns 25 = .ok (.iinc 5 1, 3) := by decide +kernel
theorem dX5_owns_28 : decode cX5_owns 28 = .ok (.goto (-25), 3) := by decide +kernel
theorem dX5_owns_31 : decode cX5_owns 31 = .ok (.return_, 1) := by decide +kernel
theorem dX5_grants_0 : decode cX5_grants 0 = .ok (.aload_n 0, 1) := by decide +kernel
theorem dX5_grants_1 : decode cX5_grants 1 = .ok (.dup, 1) := by decide +kernel
theorem dX5_grants_2 : decode cX5_grants 2 = .ok (.getfield 106, 3) := by decide +kernel
theorem dX5_grants_5 : decode cX5_grants 5 = .ok (.iconst 1, 1) := by decide +kernel
theorem dX5_grants_6 : decode cX5_grants 6 = .ok (.iadd, 1) := by decide +kernel
theorem dX5_grants_7 : decode cX5_grants 7 = .ok (.putfield 106, 3) := by decide +kernel
theorem dX5_grants_10 : decode cX5_grants 10 = .ok (.aload_n 0, 1) := by decide +kernel
theorem dX5_grants_11 : decode cX5_grants 11 = .ok (.getfield 22, 3) := by decide +kernel
theorem dX5_grants_14 : decode cX5_grants 14 = .ok (.aload_n 0, 1) := by decide +kernel
theorem dX5_grants_15 : decode cX5_grants 15 = .ok (.getfield 106, 3) := by decide +kernel
theorem dX5_grants_18 : decode cX5_grants 18 = .ok (.iconst 0, 1) := by decide +kernel
theorem dX5_grants_19 : decode cX5_grants 19 = .ok (.iastore, 1) := by decide +kernel
theorem dX5_grants_20 : decode cX5_grants 20 = .ok (.aload_n 0, 1) := by decide +kernel
theorem dX5_grants_21 : decode cX5_grants 21 = .ok (.getfield 25, 3) := by decide +kernel
theorem dX5_grants_24 : decode cX5_grants 24 = .ok (.aload_n 0, 1) := by decide +kernel
theorem dX5_grants_25 : decode cX5_grants 25 = .ok (.getfield 106, 3) := by decide +kernel
theorem dX5_grants_28 : decode cX5_grants 28 = .ok (.aload_n 0, 1) := by decide +kernel
theorem dX5_grants_29 : decode cX5_grants 29 = .ok (.getfield 109, 3) := by decide +kernel
theorem dX5_grants_32 : decode cX5_grants 32 = .ok (.iload_n 1, 1) := by decide +kernel
theorem dX5_grants_33 : decode cX5_grants 33 = .ok (.iadd, 1) := by decide +kernel
theorem dX5_grants_34 : decode cX5_grants 34 = .ok (.iastore, 1) := by decide +kernel
theorem dX5_grants_35 : decode cX5_grants 35 = .ok (.aload_n 0, 1) := by decide +kernel
theorem dX5_grants_36 : decode cX5_grants 36 = .ok (.getfield 34, 3) := by decide +kernel
theorem dX5_grants_39 : decode cX5_grants 39 = .ok (.aload_n 0, 1) := by decide +kernel
theorem dX5_grants_40 : decode cX5_grants 40 = .ok (.getfield 106, 3) := by decide +kernel
theorem dX5_grants_43 : decode cX5_grants 43 = .ok (.iconst (-1), 1) := by decide +kernel
theorem dX5_grants_44 : decode cX5_grants 44 = .ok (.iastore, 1) := by decide +kernel
theorem dX5_grants_45 : decode cX5_grants 45 = .ok (.aload_n 0, 1) := by decide +kernel
theorem dX5_grants_46 : decode cX5_grants 46 = .ok (.getfield 106, 3) := by decide +kernel
theorem dX5_grants_49 : decode cX5_grants 49 = .ok (.ireturn, 1) := by decide +kernel
theorem dX5_isMinutes_0 : decode cX5_isMinutes 0 = .ok (.iload_n 0, 1) := by decide +kernel
theorem dX5_isMinutes_1 : decode cX5_isMinutes 1 = .ok (.iconst 1, 1) := by decide +kernel
theorem dX5_isMinutes_2 : decode cX5_isMinutes 2 = .ok (.sipush 200, 3) := by decide +kernel
theorem dX5_isMinutes_5 : decode cX5_isMinutes 5 = .ok (.invokestatic 56, 3) := by decide +kernel
theorem dX5_isMinutes_8 : decode cX5_isMinutes 8 = .ok (.ireturn, 1) := by decide +kernel
theorem dX5_hold_0 : decode cX5_hold 0 = .ok (.iload_n 1, 1) := by decide +kernel
theorem dX5_hold_1 : decode cX5_hold 1 = .ok (.iconst 1, 1) := by decide +kernel
theorem dX5_hold_2 : decode cX5_hold 2 = .ok (.bipush 20, 2) := by decide +kernel
theorem dX5_hold_4 : decode cX5_hold 4 = .ok (.invokestatic 56, 3) := by decide +kernel
theorem dX5_hold_7 : decode cX5_hold 7 = .ok (.ifCond .eq 14, 3) := by decide +kernel
theorem dX5_hold_10 : decode cX5_hold 10 = .ok (.iload_n 2, 1) := by decide +kernel
theorem dX5_hold_11 : decode cX5_hold 11 = .ok (.invokestatic 112, 3) := by decide +kernel
theorem dX5_hold_14 : decode cX5_hold 14 = .ok (.ifCond .eq 7, 3) := by decide +kernel
theorem dX5_hold_17 : decode cX5_hold 17 = .ok (.iconst 1, 1) := by decide +kernel
theorem dX5_hold_18 : decode cX5_hold 18 = .ok (.goto 4, 3) := by decide +kernel
theorem dX5_hold_21 : decode cX5_hold 21 = .ok (.iconst 0, 1) := by decide +kernel
theorem dX5_hold_22 : decode cX5_hold 22 = .ok (.istore_n 3, 1) := by decide +kernel
theorem dX5_hold_23 : decode cX5_hold 23 = .ok (.iload_n 3, 1) := by decide +kernel
theorem dX5_hold_24 : decode cX5_hold 24 = .ok (.ifCond .eq 11, 3) := by decide +kernel
theorem dX5_hold_27 : decode cX5_hold 27 = .ok (.aload_n 0, 1) := by decide +kernel
theorem dX5_hold_28 : decode cX5_hold 28 = .ok (.iload_n 1, 1) := by decide +kernel
theorem dX5_hold_29 : decode cX5_hold 29 = .ok (.invokevirtual 103, 3) := by decide +kernel
theorem dX5_hold_32 : decode cX5_hold 32 = .ok (.goto 4, 3) := by decide +kernel
theorem dX5_hold_35 : decode cX5_hold 35 = .ok (.iconst (-1), 1) := by decide +kernel
theorem dX5_hold_36 : decode cX5_hold 36 = .ok (.istore 4, 2) := by decide +kernel
theorem dX5_hold_38 : decode cX5_hold 38 = .ok (.aload_n 0, 1) := by decide +kernel
theorem dX5_hold_39 : decode cX5_hold 39 = .ok (.iload_n 3, 1) := by decide +kernel
theorem dX5_hold_40 : decode cX5_hold 40 = .ok (.ifCond .ne 7, 3) := by decide +kernel
theorem dX5_hold_43 : decode cX5_hold 43 = .ok (.iconst 1, 1) := by decide +kernel
theorem dX5_hold_44 : decode cX5_hold 44 = .ok (.goto 22, 3) := by decide +kernel
theorem dX5_hold_47 : decode cX5_hold 47 = .ok (.iload 4, 2) := by decide +kernel
theorem dX5_hold_49 : decode cX5_hold 49 = .ok (.ifCond .lt 12, 3) := by decide +kernel
theorem dX5_hold_52 : decode cX5_hold 52 = .ok (.aload_n 0, 1) := by decide +kernel
theorem dX5_hold_53 : decode cX5_hold 53 = .ok (.getfield 106, 3) := by decide +kernel
theorem dX5_hold_56 : decode cX5_hold 56 = .ok (.bipush 100, 2) := by decide +kernel
theorem dX5_hold_58 : decode cX5_hold 58 = .ok (.if_icmp .ne 7, 3) := by decide +kernel
theorem dX5_hold_61 : decode cX5_hold 61 = .ok (.iconst 2, 1) := by decide +kernel
theorem dX5_hold_62 : decode cX5_hold 62 = .ok (.goto 4, 3) := by decide +kernel
theorem dX5_hold_65 : decode cX5_hold 65 = .ok (.iconst 0, 1) := by decide +kernel
theorem dX5_hold_66 : decode cX5_hold 66 = .ok (.invokevirtual 63, 3) := by decide +kernel
theorem dX5_hold_69 : decode cX5_hold 69 = .ok (.ifCond .ne 5, 3) := by decide +kernel
theorem dX5_hold_72 : decode cX5_hold 72 = .ok (.iconst 0, 1) := by decide +kernel
theorem dX5_hold_73 : decode cX5_hold 73 = .ok (.ireturn, 1) := by decide +kernel
theorem dX5_hold_74 : decode cX5_hold 74 = .ok (.aload_n 0, 1) := by decide +kernel
theorem dX5_hold_75 : decode cX5_hold 75 = .ok (.iload 4, 2) := by decide +kernel
theorem dX5_hold_77 : decode cX5_hold 77 = .ok (.bipush 100, 2) := by decide +kernel
theorem dX5_hold_79 : decode cX5_hold 79 = .ok (.idiv, 1) := by decide +kernel
theorem dX5_hold_80 : decode cX5_hold 80 = .ok (.iload 4, 2) := by decide +kernel
theorem dX5_hold_82 : decode cX5_hold 82 = .ok (.bipush 100, 2) := by decide +kernel
theorem dX5_hold_84 : decode cX5_hold 84 = .ok (.irem, 1) := by decide +kernel
theorem dX5_hold_85 : decode cX5_hold 85 = .ok (.iload_n 1, 1) := by decide +kernel
theorem dX5_hold_86 : decode cX5_hold 86 = .ok (.aload_n 0, 1) := by decide +kernel
theorem dX5_hold_87 : decode cX5_hold 87 = .ok (.iload_n 2, 1) := by decide +kernel
theorem dX5_hold_88 : decode cX5_hold 88 = .ok (.invokevirtual 115, 3) := by decide +kernel
theorem dX5_hold_91 : decode cX5_hold 91 = .ok (.invokevirtual 118, 3) := by decide +kernel
theorem dX5_hold_94 : decode cX5_hold 94 = .ok (.aload_n 0, 1) := by decide +kernel
theorem dX5_hold_95 : decode cX5_hold 95 = .ok (.getfield 106, 3) := by decide +kernel
theorem dX5_hold_98 : decode cX5_hold 98 = .ok (.ireturn, 1) := by decide +kernel
theorem dX5_holdAt_0 : decode cX5_holdAt 0 = .ok (.iload_n 3, 1) := by decide +kernel
theorem dX5_holdAt_1 : decode cX5_holdAt 1 = .ok (.iconst 1, 1) := by decide +kernel
theorem dX5_holdAt_2 : decode cX5_holdAt 2 = .ok (.bipush 20, 2) := by decide +kernel
theorem dX5_holdAt_4 : decode cX5_holdAt 4 = .ok (.invokestatic 56, 3) := by decide +kernel
theorem dX5_holdAt_7 : decode cX5_holdAt 7 = .ok (.ifCond .eq 15, 3) := by decide +kernel
theorem dX5_holdAt_10 : decode cX5_holdAt 10 = .ok (.iload 4, 2) := by decide +kernel
theorem dX5_holdAt_12 : decode cX5_holdAt 12 = .ok (.invokestatic 112, 3) := by decide +kernel
theorem dX5_holdAt_15 : decode cX5_holdAt 15 = .ok (.ifCond .eq 7, 3) := by decide +kernel
theorem dX5_holdAt_18 : decode cX5_holdAt 18 = .ok (.iconst 1, 1) := by decide +kernel
theorem dX5_holdAt_19 : decode cX5_holdAt 19 = .ok (.goto 4, 3) := by decide +kernel
theorem dX5_holdAt_22 : decode cX5_holdAt 22 = .ok (.iconst 0, 1) := by decide +kernel
theorem dX5_holdAt_23 : decode cX5_holdAt 23 = .ok (.istore 5, 2) := by decide +kernel
theorem dX5_holdAt_25 : decode cX5_holdAt 25 = .ok (.aload_n 0, 1) := by decide +kernel
theorem dX5_holdAt_26 : decode cX5_holdAt 26 = .ok (.aload_n 0, 1) := by decide +kernel
theorem dX5_holdAt_27 : decode cX5_holdAt 27 = .ok (.iload_n 1, 1) := by decide +kernel
theorem dX5_holdAt_28 : decode cX5_holdAt 28 = .ok (.iload_n 2, 1) := by decide +kernel
theorem dX5_holdAt_29 : decode cX5_holdAt 29 = .ok (.invokevirtual 70, 3) := by decide +kernel
theorem dX5_holdAt_32 : decode cX5_holdAt 32 = .ok (.ifCond .ne 7, 3) := by decide +kernel
theorem dX5_holdAt_35 : decode cX5_holdAt 35 = .ok (.iconst 1, 1) := by decide +kernel
theorem dX5_holdAt_36 : decode cX5_holdAt 36 = .ok (.goto 36, 3) := by decide +kernel
theorem dX5_holdAt_39 : decode cX5_holdAt 39 = .ok (.iload 5, 2) := by decide +kernel
theorem dX5_holdAt_41 : decode cX5_holdAt 41 = .ok (.ifCond .ne 7, 3) := by decide +kernel
theorem dX5_holdAt_44 : decode cX5_holdAt 44 = .ok (.iconst 2, 1) := by decide +kernel
theorem dX5_holdAt_45 : decode cX5_holdAt 45 = .ok (.goto 27, 3) := by decide +kernel
theorem dX5_holdAt_48 : decode cX5_holdAt 48 = .ok (.aload_n 0, 1) := by decide +kernel
theorem dX5_holdAt_49 : decode cX5_holdAt 49 = .ok (.iload_n 1, 1) := by decide +kernel
theorem dX5_holdAt_50 : decode cX5_holdAt 50 = .ok (.iload_n 2, 1) := by decide +kernel
theorem dX5_holdAt_51 : decode cX5_holdAt 51 = .ok (.invokevirtual 85, 3) := by decide +kernel
theorem dX5_holdAt_54 : decode cX5_holdAt 54 = .ok (.iload_n 3, 1) := by decide +kernel
theorem dX5_holdAt_55 : decode cX5_holdAt 55 = .ok (.if_icmp .lt 12, 3) := by decide +kernel
theorem dX5_holdAt_58 : decode cX5_holdAt 58 = .ok (.aload_n 0, 1) := by decide +kernel
theorem dX5_holdAt_59 : decode cX5_holdAt 59 = .ok (.getfield 106, 3) := by decide +kernel
theorem dX5_holdAt_62 : decode cX5_holdAt 62 = .ok (.bipush 100, 2) := by decide +kernel
theorem dX5_holdAt_64 : decode cX5_holdAt 64 = .ok (.if_icmp .ne 7, 3) := by decide +kernel
theorem dX5_holdAt_67 : decode cX5_holdAt 67 = .ok (.iconst 3, 1) := by decide +kernel
theorem dX5_holdAt_68 : decode cX5_holdAt 68 = .ok (.goto 4, 3) := by decide +kernel
theorem dX5_holdAt_71 : decode cX5_holdAt 71 = .ok (.iconst 0, 1) := by decide +kernel
theorem dX5_holdAt_72 : decode cX5_holdAt 72 = .ok (.invokevirtual 63, 3) := by decide +kernel
theorem dX5_holdAt_75 : decode cX5_holdAt 75 = .ok (.ifCond .ne 5, 3) := by decide +kernel
theorem dX5_holdAt_78 : decode cX5_holdAt 78 = .ok (.iconst 0, 1) := by decide +kernel
theorem dX5_holdAt_79 : decode cX5_holdAt 79 = .ok (.ireturn, 1) := by decide +kernel
theorem dX5_holdAt_80 : decode cX5_holdAt 80 = .ok (.aload_n 0, 1) := by decide +kernel
theorem dX5_holdAt_81 : decode cX5_holdAt 81 = .ok (.iload_n 1, 1) := by decide +kernel
theorem dX5_holdAt_82 : decode cX5_holdAt 82 = .ok (.iload_n 2, 1) := by decide +kernel
theorem dX5_holdAt_83 : decode cX5_holdAt 83 = .ok (.iload_n 3, 1) := by decide +kernel
theorem dX5_holdAt_84 : decode cX5_holdAt 84 = .ok (.aload_n 0, 1) := by decide +kernel
theorem dX5_holdAt_85 : decode cX5_holdAt 85 = .ok (.iload 4, 2) := by decide +kernel
theorem dX5_holdAt_87 : decode cX5_holdAt 87 = .ok (.invokevirtual 115, 3) := by decide +kernel
theorem dX5_holdAt_90 : decode cX5_holdAt 90 = .ok (.invokevirtual 118, 3) := by decide +kernel
theorem dX5_holdAt_93 : decode cX5_holdAt 93 = .ok (.aload_n 0, 1) := by decide +kernel
theorem dX5_holdAt_94 : decode cX5_holdAt 94 = .ok (.getfield 106, 3) := by decide +kernel
theorem dX5_holdAt_97 : decode cX5_holdAt 97 = .ok (.ireturn, 1) := by decide +kernel
theorem dX5_place_0 : decode cX5_place 0 = .ok (.bipush 13, 2) := by decide +kernel
theorem dX5_place_2 : decode cX5_place 2 = .ok (.iload_n 0, 1) := by decide +kernel
theorem dX5_place_3 : decode cX5_place 3 = .ok (.imul, 1) := by decide +kernel
theorem dX5_place_4 : decode cX5_place 4 = .ok (.iload_n 1, 1) := by decide +kernel
theorem dX5_place_5 : decode cX5_place 5 = .ok (.iadd, 1) := by decide +kernel
theorem dX5_place_6 : decode cX5_place 6 = .ok (.bipush 101, 2) := by decide +kernel
theorem dX5_place_8 : decode cX5_place 8 = .ok (.imul, 1) := by decide +kernel
theorem dX5_place_9 : decode cX5_place 9 = .ok (.iload_n 2, 1) := by decide +kernel
theorem dX5_place_10 : decode cX5_place 10 = .ok (.iadd, 1) := by decide +kernel
theorem dX5_place_11 : decode cX5_place 11 = .ok (.ireturn, 1) := by decide +kernel
theorem dX5_given_0 : decode cX5_given 0 = .ok (.aload_n 0, 1) := by decide +kernel
theorem dX5_given_1 : decode cX5_given 1 = .ok (.getfield 37, 3) := by decide +kernel
theorem dX5_given_4 : decode cX5_given 4 = .ok (.iload_n 1, 1) := by decide +kernel
theorem dX5_given_5 : decode cX5_given 5 = .ok (.iconst 1, 1) := by decide +kernel
theorem dX5_given_6 : decode cX5_given 6 = .ok (.iadd, 1) := by decide +kernel
theorem dX5_given_7 : decode cX5_given 7 = .ok (.iload 4, 2) := by decide +kernel
theorem dX5_given_9 : decode cX5_given 9 = .ok (.ifCond .le 9, 3) := by decide +kernel
theorem dX5_given_12 : decode cX5_given 12 = .ok (.iload_n 2, 1) := by decide +kernel
theorem dX5_given_13 : decode cX5_given 13 = .ok (.iconst 1, 1) := by decide +kernel
theorem dX5_given_14 : decode cX5_given 14 = .ok (.isub, 1) := by decide +kernel
theorem dX5_given_15 : decode cX5_given 15 = .ok (.goto 4, 3) := by decide +kernel
theorem dX5_given_18 : decode cX5_given 18 = .ok (.iload_n 2, 1) := by decide +kernel
theorem dX5_given_19 : decode cX5_given 19 = .ok (.iload_n 3, 1) := by decide +kernel
theorem dX5_given_20 : decode cX5_given 20 = .ok (.iload 4, 2) := by decide +kernel
theorem dX5_given_22 : decode cX5_given 22 = .ok (.isub, 1) := by decide +kernel
theorem dX5_given_23 : decode cX5_given 23 = .ok (.invokestatic 122, 3) := by decide +kernel
theorem dX5_given_26 : decode cX5_given 26 = .ok (.iaload, 1) := by decide +kernel
theorem dX5_given_27 : decode cX5_given 27 = .ok (.istore 5, 2) := by decide +kernel
theorem dX5_given_29 : decode cX5_given 29 = .ok (.iload 4, 2) := by decide +kernel
theorem dX5_given_31 : decode cX5_given 31 = .ok (.ifCond .eq 10, 3) := by decide +kernel
theorem dX5_given_34 : decode cX5_given 34 = .ok (.iload 5, 2) := by decide +kernel
theorem dX5_given_36 : decode cX5_given 36 = .ok (.ldc 125, 2) := by decide +kernel
theorem dX5_given_38 : decode cX5_given 38 = .ok (.if_icmp .ne 6, 3) := by decide +kernel
theorem dX5_given_41 : decode cX5_given 41 = .ok (.iload 5, 2) := by decide +kernel
theorem dX5_given_43 : decode cX5_given 43 = .ok (.ireturn, 1) := by decide +kernel
theorem dX5_given_44 : decode cX5_given 44 = .ok (.aload_n 0, 1) := by decide +kernel
theorem dX5_given_45 : decode cX5_given 45 = .ok (.iload_n 1, 1) := by decide +kernel
theorem dX5_given_46 : decode cX5_given 46 = .ok (.iload 4, 2) := by decide +kernel
theorem dX5_given_48 : decode cX5_given 48 = .ok (.iconst 0, 1) := by decide +kernel
theorem dX5_given_49 : decode cX5_given 49 = .ok (.invokevirtual 95, 3) := by decide +kernel
theorem dX5_given_52 : decode cX5_given 52 = .ok (.istore 6, 2) := by decide +kernel
theorem dX5_given_54 : decode cX5_given 54 = .ok (.iload 6, 2) := by decide +kernel
theorem dX5_given_56 : decode cX5_given 56 = .ok (.ifCond .ge 8, 3) := by decide +kernel
theorem dX5_given_59 : decode cX5_given 59 = .ok (.ldc 125, 2) := by decide +kernel
theorem dX5_given_61 : decode cX5_given 61 = .ok (.goto 15, 3) := by decide +kernel
theorem dX5_given_64 : decode cX5_given 64 = .ok (.iload 5, 2) := by decide +kernel
theorem dX5_given_66 : decode cX5_given 66 = .ok (.aload_n 0, 1) := by decide +kernel
theorem dX5_given_67 : decode cX5_given 67 = .ok (.iload_n 1, 1) := by decide +kernel
theorem dX5_given_68 : decode cX5_given 68 = .ok (.iload 6, 2) := by decide +kernel
theorem dX5_given_70 : decode cX5_given 70 = .ok (.iload 4, 2) := by decide +kernel
theorem dX5_given_72 : decode cX5_given 72 = .ok (.invokevirtual 91, 3) := by decide +kernel
theorem dX5_given_75 : decode cX5_given 75 = .ok (.iadd, 1) := by decide +kernel
theorem dX5_given_76 : decode cX5_given 76 = .ok (.ireturn, 1) := by decide +kernel
theorem dX5_laysSplits_0 : decode cX5_laysSplits 0 = .ok (.iconst 0, 1) := by decide +kernel
theorem dX5_laysSplits_1 : decode cX5_laysSplits 1 = .ok (.istore_n 1, 1) := by decide +kernel
theorem dX5_laysSplits_2 : decode cX5_laysSplits 2 = .ok (.iload_n 1, 1) := by decide +kernel
theorem dX5_laysSplits_3 : decode cX5_laysSplits 3 = .ok (.sipush 17069, 3) := by decide +kernel
theorem dX5_laysSplits_6 : decode cX5_laysSplits 6 = .ok (.if_icmp .ge 17, 3) := by decide +kernel
theorem dX5_laysSplits_9 : decode cX5_laysSplits 9 = .ok (.aload_n 0, 1) := by decide +kernel
theorem dX5_laysSplits_10 : decode cX5_laysSplits 10 = .ok (.getfield 37, 3) := by decide +kernel
theorem dX5_laysSplits_13 : decode cX5_laysSplits 13 = .ok (.iload_n 1, 1) := by decide +kernel
theorem dX5_laysSplits_14 : decode cX5_laysSplits 14 = .ok (.ldc 125, 2) := by decide +kernel
theorem dX5_laysSplits_16 : decode cX5_laysSplits 16 = .ok (.iastore, 1) := by decide +kernel
theorem dX5_laysSplits_17 : decode cX5_laysSplits 17 = .ok (.iinc 1 1, 3) := by decide +kernel
theorem dX5_laysSplits_20 : decode cX5_laysSplits 20 = .ok (.goto (-18), 3) := by decide +kernel
theorem dX5_laysSplits_23 : decode cX5_laysSplits 23 = .ok (.aload_n 0, 1) := by decide +kernel
theorem dX5_laysSplits_24 : decode cX5_laysSplits 24 = .ok (.getfield 37, 3) := by decide +kernel
theorem dX5_laysSplits_27 : decode cX5_laysSplits 27 = .ok (.aload_n 0, 1) := by decide +kernel
theorem dX5_laysSplits_28 : decode cX5_laysSplits 28 = .ok (.getfield 60, 3) := by decide +kernel
theorem dX5_laysSplits_31 : decode cX5_laysSplits 31 = .ok (.iconst 0, 1) := by decide +kernel
theorem dX5_laysSplits_32 : decode cX5_laysSplits 32 = .ok (.iconst 0, 1) := by decide +kernel
theorem dX5_laysSplits_33 : decode cX5_laysSplits 33 = .ok (.invokestatic 122, 3) := by decide +kernel
theorem dX5_laysSplits_36 : decode cX5_laysSplits 36 = .ok (.iconst 0, 1) := by decide +kernel
theorem dX5_laysSplits_37 : decode cX5_laysSplits 37 = .ok (.iastore, 1) := by decide +kernel
theorem dX5_laysSplits_38 : decode cX5_laysSplits 38 = .ok (.aload_n 0, 1) := by decide +kernel
theorem dX5_laysSplits_39 : decode cX5_laysSplits 39 = .ok (.getfield 60, 3) := by decide +kernel
theorem dX5_laysSplits_42 : decode cX5_laysSplits 42 = .ok (.iconst 1, 1) := by decide +kernel
theorem dX5_laysSplits_43 : decode cX5_laysSplits 43 = .ok (.isub, 1) := by decide +kernel
theorem dX5_laysSplits_44 : decode cX5_laysSplits 44 = .ok (.istore_n 1, 1) := by decide +kernel
theorem dX5_laysSplits_45 : decode cX5_laysSplits 45 = .ok (.iload_n 1, 1) := by decide +kernel
theorem dX5_laysSplits_46 : decode cX5_laysSplits 46 = .ok (.ifCond .lt 89, 3) := by decide +kernel
theorem dX5_laysSplits_49 : decode cX5_laysSplits 49 = .ok (.iconst 0, 1) := by decide +kernel
theorem dX5_laysSplits_50 : decode cX5_laysSplits 50 = .ok (.istore_n 2, 1) := by decide +kernel
theorem dX5_laysSplits_51 : decode cX5_laysSplits 51 = .ok (.iload_n 2, 1) := by decide +kernel
theorem dX5_laysSplits_52 : decode cX5_laysSplits 52 = .ok (.aload_n 0, 1) := by decide +kernel
theorem dX5_laysSplits_53 : decode cX5_laysSplits 53 = .ok (.getfield 60, 3) := by decide +kernel
theorem dX5_laysSplits_56 : decode cX5_laysSplits 56 = .ok (.iload_n 1, 1) := by decide +kernel
theorem dX5_laysSplits_57 : decode cX5_laysSplits 57 = .ok (.isub, 1) := by decide +kernel
theorem dX5_laysSplits_58 : decode cX5_laysSplits 58 = .ok (.if_icmp .gt 47, 3) := by decide +kernel
theorem dX5_laysSplits_61 : decode cX5_laysSplits 61 = .ok (.iconst 0, 1) := by decide +kernel
theorem dX5_laysSplits_62 : decode cX5_laysSplits 62 = .ok (.istore_n 3, 1) := by decide +kernel
theorem dX5_laysSplits_63 : decode cX5_laysSplits 63 = .ok (.iload_n 3, 1) := by decide +kernel
theorem dX5_laysSplits_64 : decode cX5_laysSplits 64 = .ok (.bipush 100, 2) := by decide +kernel
theorem dX5_laysSplits_66 : decode cX5_laysSplits 66 = .ok (.if_icmp .gt 33, 3) := by decide +kernel
theorem dX5_laysSplits_69 : decode cX5_laysSplits 69 = .ok (.aload_n 0, 1) := by decide +kernel
theorem dX5_laysSplits_70 : decode cX5_laysSplits 70 = .ok (.getfield 37, 3) := by decide +kernel
theorem dX5_laysSplits_73 : decode cX5_laysSplits 73 = .ok (.iload_n 1, 1) := by decide +kernel
theorem dX5_laysSplits_74 : decode cX5_laysSplits 74 = .ok (.iload_n 2, 1) := by decide +kernel
theorem dX5_laysSplits_75 : decode cX5_laysSplits 75 = .ok (.iload_n 3, 1) := by decide +kernel
theorem dX5_laysSplits_76 : decode cX5_laysSplits 76 = .ok (.invokestatic 122, 3) := by decide +kernel
theorem dX5_laysSplits_79 : decode cX5_laysSplits 79 = .ok (.aload_n 0, 1) := by decide +kernel
theorem dX5_laysSplits_80 : decode cX5_laysSplits 80 = .ok (.getfield 37, 3) := by decide +kernel
theorem dX5_laysSplits_83 : decode cX5_laysSplits 83 = .ok (.iload_n 1, 1) := by decide +kernel
theorem dX5_laysSplits_84 : decode cX5_laysSplits 84 = .ok (.iconst 1, 1) := by decide +kernel
theorem dX5_laysSplits_85 : decode cX5_laysSplits 85 = .ok (.iadd, 1) := by decide +kernel
theorem dX5_laysSplits_86 : decode cX5_laysSplits 86 = .ok (.iload_n 2, 1) := by decide +kernel
theorem dX5_laysSplits_87 : decode cX5_laysSplits 87 = .ok (.iload_n 3, 1) := by decide +kernel
theorem dX5_laysSplits_88 : decode cX5_laysSplits 88 = .ok (.invokestatic 122, 3) := by decide +kernel
theorem dX5_laysSplits_91 : decode cX5_laysSplits 91 = .ok (.iaload, 1) := by decide +kernel
theorem dX5_laysSplits_92 : decode cX5_laysSplits 92 = .ok (.iastore, 1) := by decide +kernel
theorem dX5_laysSplits_93 : decode cX5_laysSplits 93 = .ok (.iinc 3 1, 3) := by decide +kernel
theorem dX5_laysSplits_96 : decode cX5_laysSplits 96 = .ok (.goto (-33), 3) := by decide +kernel
theorem dX5_laysSplits_99 : decode cX5_laysSplits 99 = .ok (.iinc 2 1, 3) := by decide +kernel
theorem dX5_laysSplits_102 : decode cX5_laysSplits 102 = .ok (.goto (-51), 3) := by decide +kernel
theorem dX5_laysSplits_105 : decode cX5_laysSplits 105 = .ok (.iconst 2, 1) := by decide +kernel
theorem dX5_laysSplits_106 : decode cX5_laysSplits 106 = .ok (.istore_n 2, 1) := by decide +kernel
theorem dX5_laysSplits_107 : decode cX5_laysSplits 107 = .ok (.iload_n 2, 1) := by decide +kernel
theorem dX5_laysSplits_108 : decode cX5_laysSplits 108 = .ok (.aload_n 0, 1) := by decide +kernel
theorem dX5_laysSplits_109 : decode cX5_laysSplits 109 = .ok (.getfield 7, 3) := by decide +kernel
theorem dX5_laysSplits_112 : decode cX5_laysSplits 112 = .ok (.iload_n 1, 1) := by decide +kernel
theorem dX5_laysSplits_113 : decode cX5_laysSplits 113 = .ok (.iaload, 1) := by decide +kernel
theorem dX5_laysSplits_114 : decode cX5_laysSplits 114 = .ok (.if_icmp .gt 15, 3) := by decide +kernel
theorem dX5_laysSplits_117 : decode cX5_laysSplits 117 = .ok (.aload_n 0, 1) := by decide +kernel
theorem dX5_laysSplits_118 : decode cX5_laysSplits 118 = .ok (.iload_n 1, 1) := by decide +kernel
theorem dX5_laysSplits_119 : decode cX5_laysSplits 119 = .ok (.iload_n 2, 1) := by decide +kernel
theorem dX5_laysSplits_120 : decode cX5_laysSplits 120 = .ok (.invokevirtual 126, 3) := by decide +kernel
theorem dX5_laysSplits_123 : decode cX5_laysSplits 123 = .ok (.iinc 2 1, 3) := by decide +kernel
theorem dX5_laysSplits_126 : decode cX5_laysSplits 126 = .ok (.goto (-19), 3) := by decide +kernel
theorem dX5_laysSplits_129 : decode cX5_laysSplits 129 = .ok (.iinc 1 (-1), 3) := by decide +kernel
theorem dX5_laysSplits_132 : decode cX5_laysSplits 132 = .ok (.goto (-87), 3) := by decide +kernel
theorem dX5_laysSplits_135 : decode cX5_laysSplits 135 = .ok (.return_, 1) := by decide +kernel
theorem dX5_laysSeats_0 : decode cX5_laysSeats 0 = .ok (.aload_n 0, 1) := by decide +kernel
theorem dX5_laysSeats_1 : decode cX5_laysSeats 1 = .ok (.iload_n 1, 1) := by decide +kernel
theorem dX5_laysSeats_2 : decode cX5_laysSeats 2 = .ok (.iload_n 2, 1) := by decide +kernel
theorem dX5_laysSeats_3 : decode cX5_laysSeats 3 = .ok (.iconst 0, 1) := by decide +kernel
theorem dX5_laysSeats_4 : decode cX5_laysSeats 4 = .ok (.invokevirtual 95, 3) := by decide +kernel
theorem dX5_laysSeats_7 : decode cX5_laysSeats 7 = .ok (.istore_n 3, 1) := by decide +kernel
theorem dX5_laysSeats_8 : decode cX5_laysSeats 8 = .ok (.iload_n 3, 1) := by decide +kernel
theorem dX5_laysSeats_9 : decode cX5_laysSeats 9 = .ok (.ifCond .ge 7, 3) := by decide +kernel
theorem dX5_laysSeats_12 : decode cX5_laysSeats 12 = .ok (.iconst 0, 1) := by decide +kernel
theorem dX5_laysSeats_13 : decode cX5_laysSeats 13 = .ok (.goto 10, 3) := by decide +kernel
theorem dX5_laysSeats_16 : decode cX5_laysSeats 16 = .ok (.aload_n 0, 1) := by decide +kernel
theorem dX5_laysSeats_17 : decode cX5_laysSeats 17 = .ok (.iload_n 1, 1) := by decide +kernel
theorem dX5_laysSeats_18 : decode cX5_laysSeats 18 = .ok (.iload_n 3, 1) := by decide +kernel
theorem dX5_laysSeats_19 : decode cX5_laysSeats 19 = .ok (.iload_n 2, 1) := by decide +kernel
theorem dX5_laysSeats_20 : decode cX5_laysSeats 20 = .ok (.invokevirtual 91, 3) := by decide +kernel
theorem dX5_laysSeats_23 : decode cX5_laysSeats 23 = .ok (.istore 4, 2) := by decide +kernel
theorem dX5_laysSeats_25 : decode cX5_laysSeats 25 = .ok (.iconst 1, 1) := by decide +kernel
theorem dX5_laysSeats_26 : decode cX5_laysSeats 26 = .ok (.istore 5, 2) := by decide +kernel
theorem dX5_laysSeats_28 : decode cX5_laysSeats 28 = .ok (.iload 5, 2) := by decide +kernel
theorem dX5_laysSeats_30 : decode cX5_laysSeats 30 = .ok (.aload_n 0, 1) := by decide +kernel
theorem dX5_laysSeats_31 : decode cX5_laysSeats 31 = .ok (.getfield 60, 3) := by decide +kernel
theorem dX5_laysSeats_34 : decode cX5_laysSeats 34 = .ok (.iload_n 1, 1) := by decide +kernel
theorem dX5_laysSeats_35 : decode cX5_laysSeats 35 = .ok (.isub, 1) := by decide +kernel
theorem dX5_laysSeats_36 : decode cX5_laysSeats 36 = .ok (.if_icmp .gt 96, 3) := by decide +kernel
theorem dX5_laysSeats_39 : decode cX5_laysSeats 39 = .ok (.iload_n 3, 1) := by decide +kernel
theorem dX5_laysSeats_40 : decode cX5_laysSeats 40 = .ok (.ifCond .lt 92, 3) := by decide +kernel
theorem dX5_laysSeats_43 : decode cX5_laysSeats 43 = .ok (.iload_n 2, 1) := by decide +kernel
theorem dX5_laysSeats_44 : decode cX5_laysSeats 44 = .ok (.istore 6, 2) := by decide +kernel
theorem dX5_laysSeats_46 : decode cX5_laysSeats 46 = .ok (.iload 6, 2) := by decide +kernel
theorem dX5_laysSeats_48 : decode cX5_laysSeats 48 = .ok (.bipush 100, 2) := by decide +kernel
theorem dX5_laysSeats_50 : decode cX5_laysSeats 50 = .ok (.if_icmp .gt 76, 3) := by decide +kernel
theorem dX5_laysSeats_53 : decode cX5_laysSeats 53 = .ok (.aload_n 0, 1) := by decide +kernel
theorem dX5_laysSeats_54 : decode cX5_laysSeats 54 = .ok (.getfield 37, 3) := by decide +kernel
theorem dX5_laysSeats_57 : decode cX5_laysSeats 57 = .ok (.iload_n 1, 1) := by decide +kernel
theorem dX5_laysSeats_58 : decode cX5_laysSeats 58 = .ok (.iconst 1, 1) := by decide +kernel
theorem dX5_laysSeats_59 : decode cX5_laysSeats 59 = .ok (.iadd, 1) := by decide +kernel
theorem dX5_laysSeats_60 : decode cX5_laysSeats 60 = .ok (.iload 5, 2) := by decide +kernel
theorem dX5_laysSeats_62 : decode cX5_laysSeats 62 = .ok (.iconst 1, 1) := by decide +kernel
theorem dX5_laysSeats_63 : decode cX5_laysSeats 63 = .ok (.isub, 1) := by decide +kernel
theorem dX5_laysSeats_64 : decode cX5_laysSeats 64 = .ok (.iload 6, 2) := by decide +kernel
theorem dX5_laysSeats_66 : decode cX5_laysSeats 66 = .ok (.iload_n 2, 1) := by decide +kernel
theorem dX5_laysSeats_67 : decode cX5_laysSeats 67 = .ok (.isub, 1) := by decide +kernel
theorem dX5_laysSeats_68 : decode cX5_laysSeats 68 = .ok (.invokestatic 122, 3) := by decide +kernel
theorem dX5_laysSeats_71 : decode cX5_laysSeats 71 = .ok (.iaload, 1) := by decide +kernel
theorem dX5_laysSeats_72 : decode cX5_laysSeats 72 = .ok (.istore 7, 2) := by decide +kernel
theorem dX5_laysSeats_74 : decode cX5_laysSeats 74 = .ok (.iload 7, 2) := by decide +kernel
theorem dX5_laysSeats_76 : decode cX5_laysSeats 76 = .ok (.ldc 125, 2) := by decide +kernel
theorem dX5_laysSeats_78 : decode cX5_laysSeats 78 = .ok (.if_icmp .eq 42, 3) := by decide +kernel
theorem dX5_laysSeats_81 : decode cX5_laysSeats 81 = .ok (.iload 7, 2) := by decide +kernel
theorem dX5_laysSeats_83 : decode cX5_laysSeats 83 = .ok (.iload 4, 2) := by decide +kernel
theorem dX5_laysSeats_85 : decode cX5_laysSeats 85 = .ok (.iadd, 1) := by decide +kernel
theorem dX5_laysSeats_86 : decode cX5_laysSeats 86 = .ok (.aload_n 0, 1) := by decide +kernel
theorem dX5_laysSeats_87 : decode cX5_laysSeats 87 = .ok (.getfield 37, 3) := by decide +kernel
theorem dX5_laysSeats_90 : decode cX5_laysSeats 90 = .ok (.iload_n 1, 1) := by decide +kernel
theorem dX5_laysSeats_91 : decode cX5_laysSeats 91 = .ok (.iload 5, 2) := by decide +kernel
theorem dX5_laysSeats_93 : decode cX5_laysSeats 93 = .ok (.iload 6, 2) := by decide +kernel
theorem dX5_laysSeats_95 : decode cX5_laysSeats 95 = .ok (.invokestatic 122, 3) := by decide +kernel
theorem dX5_laysSeats_98 : decode cX5_laysSeats 98 = .ok (.iaload, 1) := by decide +kernel
theorem dX5_laysSeats_99 : decode cX5_laysSeats 99 = .ok (.if_icmp .le 21, 3) := by decide +kernel
theorem dX5_laysSeats_102 : decode cX5_laysSeats 102 = .ok (.aload_n 0, 1) := by decide +kernel
theorem dX5_laysSeats_103 : decode cX5_laysSeats 103 = .ok (.getfield 37, 3) := by decide +kernel
theorem dX5_laysSeats_106 : decode cX5_laysSeats 106 = .ok (.iload_n 1, 1) := by decide +kernel
theorem dX5_laysSeats_107 : decode cX5_laysSeats 107 = .ok (.iload 5, 2) := by decide +kernel
theorem dX5_laysSeats_109 : decode cX5_laysSeats 109 = .ok (.iload 6, 2) := by decide +kernel
theorem dX5_laysSeats_111 : decode cX5_laysSeats 111 = .ok (.invokestatic 122, 3) := by decide +kernel
theorem dX5_laysSeats_114 : decode cX5_laysSeats 114 = .ok (.iload 7, 2) := by decide +kernel
theorem dX5_laysSeats_116 : decode cX5_laysSeats 116 = .ok (.iload 4, 2) := by decide +kernel
theorem dX5_laysSeats_118 : decode cX5_laysSeats 118 = .ok (.iadd, 1) := by decide +kernel
theorem dX5_laysSeats_119 : decode cX5_laysSeats 119 = .ok (.iastore, 1) := by decide +kernel
theorem dX5_laysSeats_120 : decode cX5_laysSeats 120 = .ok (.iinc 6 1, 3) := by decide +kernel
theorem dX5_laysSeats_123 : decode cX5_laysSeats 123 = .ok (.goto (-77), 3) := by decide +kernel
theorem dX5_laysSeats_126 : decode cX5_laysSeats 126 = .ok (.iinc 5 1, 3) := by decide +kernel
theorem dX5_laysSeats_129 : decode cX5_laysSeats 129 = .ok (.goto (-101), 3) := by decide +kernel
theorem dX5_laysSeats_132 : decode cX5_laysSeats 132 = .ok (.return_, 1) := by decide +kernel
theorem dX5_splits_0 : decode cX5_splits 0 = .ok (.aload_n 0, 1) := by decide +kernel
theorem dX5_splits_1 : decode cX5_splits 1 = .ok (.invokevirtual 130, 3) := by decide +kernel
theorem dX5_splits_4 : decode cX5_splits 4 = .ok (.iconst 1, 1) := by decide +kernel
theorem dX5_splits_5 : decode cX5_splits 5 = .ok (.istore_n 2, 1) := by decide +kernel
theorem dX5_splits_6 : decode cX5_splits 6 = .ok (.iload_n 2, 1) := by decide +kernel
theorem dX5_splits_7 : decode cX5_splits 7 = .ok (.aload_n 0, 1) := by decide +kernel
theorem dX5_splits_8 : decode cX5_splits 8 = .ok (.getfield 60, 3) := by decide +kernel
theorem dX5_splits_11 : decode cX5_splits 11 = .ok (.if_icmp .gt 25, 3) := by decide +kernel
theorem dX5_splits_14 : decode cX5_splits 14 = .ok (.aload_n 0, 1) := by decide +kernel
theorem dX5_splits_15 : decode cX5_splits 15 = .ok (.getfield 37, 3) := by decide +kernel
theorem dX5_splits_18 : decode cX5_splits 18 = .ok (.iconst 0, 1) := by decide +kernel
theorem dX5_splits_19 : decode cX5_splits 19 = .ok (.iload_n 2, 1) := by decide +kernel
theorem dX5_splits_20 : decode cX5_splits 20 = .ok (.iload_n 1, 1) := by decide +kernel
theorem dX5_splits_21 : decode cX5_splits 21 = .ok (.invokestatic 122, 3) := by decide +kernel
theorem dX5_splits_24 : decode cX5_splits 24 = .ok (.iaload, 1) := by decide +kernel
theorem dX5_splits_25 : decode cX5_splits 25 = .ok (.ldc 125, 2) := by decide +kernel
theorem dX5_splits_27 : decode cX5_splits 27 = .ok (.if_icmp .ne 9, 3) := by decide +kernel
theorem dX5_splits_30 : decode cX5_splits 30 = .ok (.iinc 2 1, 3) := by decide +kernel
theorem dX5_splits_33 : decode cX5_splits 33 = .ok (.goto (-27), 3) := by decide +kernel
theorem dX5_splits_36 : decode cX5_splits 36 = .ok (.iload_n 2, 1) := by decide +kernel
theorem dX5_splits_37 : decode cX5_splits 37 = .ok (.aload_n 0, 1) := by decide +kernel
theorem dX5_splits_38 : decode cX5_splits 38 = .ok (.getfield 60, 3) := by decide +kernel
theorem dX5_splits_41 : decode cX5_splits 41 = .ok (.if_icmp .le 5, 3) := by decide +kernel
theorem dX5_splits_44 : decode cX5_splits 44 = .ok (.iconst 0, 1) := by decide +kernel
theorem dX5_splits_45 : decode cX5_splits 45 = .ok (.ireturn, 1) := by decide +kernel
theorem dX5_splits_46 : decode cX5_splits 46 = .ok (.iload_n 2, 1) := by decide +kernel
theorem dX5_splits_47 : decode cX5_splits 47 = .ok (.istore_n 3, 1) := by decide +kernel
theorem dX5_splits_48 : decode cX5_splits 48 = .ok (.iload_n 1, 1) := by decide +kernel
theorem dX5_splits_49 : decode cX5_splits 49 = .ok (.istore 4, 2) := by decide +kernel
theorem dX5_splits_51 : decode cX5_splits 51 = .ok (.iconst 0, 1) := by decide +kernel
theorem dX5_splits_52 : decode cX5_splits 52 = .ok (.istore 5, 2) := by decide +kernel
theorem dX5_splits_54 : decode cX5_splits 54 = .ok (.iload 5, 2) := by decide +kernel
theorem dX5_splits_56 : decode cX5_splits 56 = .ok (.aload_n 0, 1) := by decide +kernel
theorem dX5_splits_57 : decode cX5_splits 57 = .ok (.getfield 60, 3) := by decide +kernel
theorem dX5_splits_60 : decode cX5_splits 60 = .ok (.if_icmp .ge 120, 3) := by decide +kernel
theorem dX5_splits_63 : decode cX5_splits 63 = .ok (.aload_n 0, 1) := by decide +kernel
theorem dX5_splits_64 : decode cX5_splits 64 = .ok (.getfield 37, 3) := by decide +kernel
theorem dX5_splits_67 : decode cX5_splits 67 = .ok (.iload 5, 2) := by decide +kernel
theorem dX5_splits_69 : decode cX5_splits 69 = .ok (.iload_n 3, 1) := by decide +kernel
theorem dX5_splits_70 : decode cX5_splits 70 = .ok (.iload 4, 2) := by decide +kernel
theorem dX5_splits_72 : decode cX5_splits 72 = .ok (.invokestatic 122, 3) := by decide +kernel
theorem dX5_splits_75 : decode cX5_splits 75 = .ok (.iaload, 1) := by decide +kernel
theorem dX5_splits_76 : decode cX5_splits 76 = .ok (.istore 6, 2) := by decide +kernel
theorem dX5_splits_78 : decode cX5_splits 78 = .ok (.iload_n 3, 1) := by decide +kernel
theorem dX5_splits_79 : decode cX5_splits 79 = .ok (.ifCond .ne 7, 3) := by decide +kernel
theorem dX5_splits_82 : decode cX5_splits 82 = .ok (.iconst 0, 1) := by decide +kernel
theorem dX5_splits_83 : decode cX5_splits 83 = .ok (.goto 27, 3) := by decide +kernel
theorem dX5_splits_86 : decode cX5_splits 86 = .ok (.iload 4, 2) := by decide +kernel
theorem dX5_splits_88 : decode cX5_splits 88 = .ok (.aload_n 0, 1) := by decide +kernel
theorem dX5_splits_89 : decode cX5_splits 89 = .ok (.getfield 7, 3) := by decide +kernel
theorem dX5_splits_92 : decode cX5_splits 92 = .ok (.iload 5, 2) := by decide +kernel
theorem dX5_splits_94 : decode cX5_splits 94 = .ok (.iaload, 1) := by decide +kernel
theorem dX5_splits_95 : decode cX5_splits 95 = .ok (.if_icmp .ge 8, 3) := by decide +kernel
theorem dX5_splits_98 : decode cX5_splits 98 = .ok (.iload 4, 2) := by decide +kernel
theorem dX5_splits_100 : decode cX5_splits 100 = .ok (.goto 10, 3) := by decide +kernel
theorem dX5_splits_103 : decode cX5_splits 103 = .ok (.aload_n 0, 1) := by decide +kernel
theorem dX5_splits_104 : decode cX5_splits 104 = .ok (.getfield 7, 3) := by decide +kernel
theorem dX5_splits_107 : decode cX5_splits 107 = .ok (.iload 5, 2) := by decide +kernel
theorem dX5_splits_109 : decode cX5_splits 109 = .ok (.iaload, 1) := by decide +kernel
theorem dX5_splits_110 : decode cX5_splits 110 = .ok (.istore 7, 2) := by decide +kernel
theorem dX5_splits_112 : decode cX5_splits 112 = .ok (.iload 7, 2) := by decide +kernel
theorem dX5_splits_114 : decode cX5_splits 114 = .ok (.ifCond .le 31, 3) := by decide +kernel
theorem dX5_splits_117 : decode cX5_splits 117 = .ok (.iload 7, 2) := by decide +kernel
theorem dX5_splits_119 : decode cX5_splits 119 = .ok (.iconst 1, 1) := by decide +kernel
theorem dX5_splits_120 : decode cX5_splits 120 = .ok (.if_icmp .eq 19, 3) := by decide +kernel
theorem dX5_splits_123 : decode cX5_splits 123 = .ok (.aload_n 0, 1) := by decide +kernel
theorem dX5_splits_124 : decode cX5_splits 124 = .ok (.iload 5, 2) := by decide +kernel
theorem dX5_splits_126 : decode cX5_splits 126 = .ok (.iload_n 3, 1) := by decide +kernel
theorem dX5_splits_127 : decode cX5_splits 127 = .ok (.iload 4, 2) := by decide +kernel
theorem dX5_splits_129 : decode cX5_splits 129 = .ok (.iload 7, 2) := by decide +kernel
theorem dX5_splits_131 : decode cX5_splits 131 = .ok (.invokevirtual 133, 3) := by decide +kernel
theorem dX5_splits_134 : decode cX5_splits 134 = .ok (.iload 6, 2) := by decide +kernel
theorem dX5_splits_136 : decode cX5_splits 136 = .ok (.if_icmp .eq 9, 3) := by decide +kernel
theorem dX5_splits_139 : decode cX5_splits 139 = .ok (.iinc 7 (-1), 3) := by decide +kernel
theorem dX5_splits_142 : decode cX5_splits 142 = .ok (.goto (-30), 3) := by decide +kernel
theorem dX5_splits_145 : decode cX5_splits 145 = .ok (.aload_n 0, 1) := by decide +kernel
theorem dX5_splits_146 : decode cX5_splits 146 = .ok (.getfield 40, 3) := by decide +kernel
theorem dX5_splits_149 : decode cX5_splits 149 = .ok (.iload 5, 2) := by decide +kernel
theorem dX5_splits_151 : decode cX5_splits 151 = .ok (.iload 7, 2) := by decide +kernel
theorem dX5_splits_153 : decode cX5_splits 153 = .ok (.iastore, 1) := by decide +kernel
theorem dX5_splits_154 : decode cX5_splits 154 = .ok (.iload_n 3, 1) := by decide +kernel
theorem dX5_splits_155 : decode cX5_splits 155 = .ok (.iload 7, 2) := by decide +kernel
theorem dX5_splits_157 : decode cX5_splits 157 = .ok (.ifCond .le 7, 3) := by decide +kernel
theorem dX5_splits_160 : decode cX5_splits 160 = .ok (.iconst 1, 1) := by decide +kernel
theorem dX5_splits_161 : decode cX5_splits 161 = .ok (.goto 4, 3) := by decide +kernel
theorem dX5_splits_164 : decode cX5_splits 164 = .ok (.iconst 0, 1) := by decide +kernel
theorem dX5_splits_165 : decode cX5_splits 165 = .ok (.isub, 1) := by decide +kernel
theorem dX5_splits_166 : decode cX5_splits 166 = .ok (.istore_n 3, 1) := by decide +kernel
theorem dX5_splits_167 : decode cX5_splits 167 = .ok (.iload 4, 2) := by decide +kernel
theorem dX5_splits_169 : decode cX5_splits 169 = .ok (.iload 7, 2) := by decide +kernel
theorem dX5_splits_171 : decode cX5_splits 171 = .ok (.isub, 1) := by decide +kernel
theorem dX5_splits_172 : decode cX5_splits 172 = .ok (.istore 4, 2) := by decide +kernel
theorem dX5_splits_174 : decode cX5_splits 174 = .ok (.iinc 5 1, 3) := by decide +kernel
theorem dX5_splits_177 : decode cX5_splits 177 = .ok (.goto (-123), 3) := by decide +kernel
theorem dX5_splits_180 : decode cX5_splits 180 = .ok (.iload_n 2, 1) := by decide +kernel
theorem dX5_splits_181 : decode cX5_splits 181 = .ok (.ireturn, 1) := by decide +kernel
theorem dX5_isGroup_0 : decode cX5_isGroup 0 = .ok (.iload_n 0, 1) := by decide +kernel
theorem dX5_isGroup_1 : decode cX5_isGroup 1 = .ok (.iconst 2, 1) := by decide +kernel
theorem dX5_isGroup_2 : decode cX5_isGroup 2 = .ok (.bipush 100, 2) := by decide +kernel
theorem dX5_isGroup_4 : decode cX5_isGroup 4 = .ok (.invokestatic 56, 3) := by decide +kernel
theorem dX5_isGroup_7 : decode cX5_isGroup 7 = .ok (.ireturn, 1) := by decide +kernel
theorem dX5_rowsForGroup_0 : decode cX5_rowsForGroup 0 = .ok (.iload_n 1, 1) := by decide +kernel
theorem dX5_rowsForGroup_1 : decode cX5_rowsForGroup 1 = .ok (.invokestatic 137, 3) := by decide +kernel
theorem dX5_rowsForGroup_4 : decode cX5_rowsForGroup 4 = .ok (.ifCond .eq 11, 3) := by decide +kernel
theorem dX5_rowsForGroup_7 : decode cX5_rowsForGroup 7 = .ok (.aload_n 0, 1) := by decide +kernel
theorem dX5_rowsForGroup_8 : decode cX5_rowsForGroup 8 = .ok (.iload_n 1, 1) := by decide +kernel
theorem dX5_rowsForGroup_9 : decode cX5_rowsForGroup 9 = .ok (.invokevirtual 140, 3) := by decide +kernel
theorem dX5_rowsForGroup_12 : decode cX5_rowsForGroup 12 = .ok (.goto 4, 3) := by decide +kernel
theorem dX5_rowsForGroup_15 : decode cX5_rowsForGroup 15 = .ok (.iconst 0, 1) := by decide +kernel
theorem dX5_rowsForGroup_16 : decode cX5_rowsForGroup 16 = .ok (.istore_n 2, 1) := by decide +kernel
theorem dX5_rowsForGroup_17 : decode cX5_rowsForGroup 17 = .ok (.aload_n 0, 1) := by decide +kernel
theorem dX5_rowsForGroup_18 : decode cX5_rowsForGroup 18 = .ok (.iload_n 1, 1) := by decide +kernel
theorem dX5_rowsForGroup_19 : decode cX5_rowsForGroup 19 = .ok (.invokestatic 137, 3) := by decide +kernel
theorem dX5_rowsForGroup_22 : decode cX5_rowsForGroup 22 = .ok (.ifCond .ne 7, 3) := by decide +kernel
theorem dX5_rowsForGroup_25 : decode cX5_rowsForGroup 25 = .ok (.iconst 1, 1) := by decide +kernel
theorem dX5_rowsForGroup_26 : decode cX5_rowsForGroup 26 = .ok (.goto 12, 3) := by decide +kernel
theorem dX5_rowsForGroup_29 : decode cX5_rowsForGroup 29 = .ok (.iload_n 2, 1) := by decide +kernel
theorem dX5_rowsForGroup_30 : decode cX5_rowsForGroup 30 = .ok (.ifCond .ne 7, 3) := by decide +kernel
theorem dX5_rowsForGroup_33 : decode cX5_rowsForGroup 33 = .ok (.iconst 2, 1) := by decide +kernel
theorem dX5_rowsForGroup_34 : decode cX5_rowsForGroup 34 = .ok (.goto 4, 3) := by decide +kernel
theorem dX5_rowsForGroup_37 : decode cX5_rowsForGroup 37 = .ok (.iconst 0, 1) := by decide +kernel
theorem dX5_rowsForGroup_38 : decode cX5_rowsForGroup 38 = .ok (.invokevirtual 63, 3) := by decide +kernel
theorem dX5_rowsForGroup_41 : decode cX5_rowsForGroup 41 = .ok (.ifCond .eq 7, 3) := by decide +kernel
theorem dX5_rowsForGroup_44 : decode cX5_rowsForGroup 44 = .ok (.iload_n 2, 1) := by decide +kernel
theorem dX5_rowsForGroup_45 : decode cX5_rowsForGroup 45 = .ok (.goto 4, 3) := by decide +kernel
theorem dX5_rowsForGroup_48 : decode cX5_rowsForGroup 48 = .ok (.iconst 0, 1) := by decide +kernel
theorem dX5_rowsForGroup_49 : decode cX5_rowsForGroup 49 = .ok (.ireturn, 1) := by decide +kernel
theorem dX5_seatsForGroup_0 : decode cX5_seatsForGroup 0 = .ok (.aload_n 0, 1) := by decide +kernel
theorem dX5_seatsForGroup_1 : decode cX5_seatsForGroup 1 = .ok (.iload_n 2, 1) := by decide +kernel
theorem dX5_seatsForGroup_2 : decode cX5_seatsForGroup 2 = .ok (.invokevirtual 67, 3) := by decide +kernel
theorem dX5_seatsForGroup_5 : decode cX5_seatsForGroup 5 = .ok (.ifCond .eq 14, 3) := by decide +kernel
theorem dX5_seatsForGroup_8 : decode cX5_seatsForGroup 8 = .ok (.iload_n 1, 1) := by decide +kernel
theorem dX5_seatsForGroup_9 : decode cX5_seatsForGroup 9 = .ok (.invokestatic 137, 3) := by decide +kernel
theorem dX5_seatsForGroup_12 : decode cX5_seatsForGroup 12 = .ok (.ifCond .eq 7, 3) := by decide +kernel
theorem dX5_seatsForGroup_15 : decode cX5_seatsForGroup 15 = .ok (.iconst 1, 1) := by decide +kernel
theorem dX5_seatsForGroup_16 : decode cX5_seatsForGroup 16 = .ok (.goto 4, 3) := by decide +kernel
theorem dX5_seatsForGroup_19 : decode cX5_seatsForGroup 19 = .ok (.iconst 0, 1) := by decide +kernel
theorem dX5_seatsForGroup_20 : decode cX5_seatsForGroup 20 = .ok (.istore_n 3, 1) := by decide +kernel
theorem dX5_seatsForGroup_21 : decode cX5_seatsForGroup 21 = .ok (.iload_n 3, 1) := by decide +kernel
theorem dX5_seatsForGroup_22 : decode cX5_seatsForGroup 22 = .ok (.ifCond .eq 11, 3) := by decide +kernel
theorem dX5_seatsForGroup_25 : decode cX5_seatsForGroup 25 = .ok (.aload_n 0, 1) := by decide +kernel
theorem dX5_seatsForGroup_26 : decode cX5_seatsForGroup 26 = .ok (.iload_n 1, 1) := by decide +kernel
theorem dX5_seatsForGroup_27 : decode cX5_seatsForGroup 27 = .ok (.invokevirtual 140, 3) := by decide +kernel
theorem dX5_seatsForGroup_30 : decode cX5_seatsForGroup 30 = .ok (.goto 4, 3) := by decide +kernel
theorem dX5_seatsForGroup_33 : decode cX5_seatsForGroup 33 = .ok (.iconst 0, 1) := by decide +kernel
theorem dX5_seatsForGroup_34 : decode cX5_seatsForGroup 34 = .ok (.istore 4, 2) := by decide +kernel
theorem dX5_seatsForGroup_36 : decode cX5_seatsForGroup 36 = .ok (.aload_n 0, 1) := by decide +kernel
theorem dX5_seatsForGroup_37 : decode cX5_seatsForGroup 37 = .ok (.aload_n 0, 1) := by decide +kernel
theorem dX5_seatsForGroup_38 : decode cX5_seatsForGroup 38 = .ok (.iload_n 2, 1) := by decide +kernel
theorem dX5_seatsForGroup_39 : decode cX5_seatsForGroup 39 = .ok (.invokevirtual 67, 3) := by decide +kernel
theorem dX5_seatsForGroup_42 : decode cX5_seatsForGroup 42 = .ok (.ifCond .ne 7, 3) := by decide +kernel
theorem dX5_seatsForGroup_45 : decode cX5_seatsForGroup 45 = .ok (.iconst 1, 1) := by decide +kernel
theorem dX5_seatsForGroup_46 : decode cX5_seatsForGroup 46 = .ok (.goto 24, 3) := by decide +kernel
theorem dX5_seatsForGroup_49 : decode cX5_seatsForGroup 49 = .ok (.iload_n 1, 1) := by decide +kernel
theorem dX5_seatsForGroup_50 : decode cX5_seatsForGroup 50 = .ok (.invokestatic 137, 3) := by decide +kernel
theorem dX5_seatsForGroup_53 : decode cX5_seatsForGroup 53 = .ok (.ifCond .ne 7, 3) := by decide +kernel
theorem dX5_seatsForGroup_56 : decode cX5_seatsForGroup 56 = .ok (.iconst 2, 1) := by decide +kernel
theorem dX5_seatsForGroup_57 : decode cX5_seatsForGroup 57 = .ok (.goto 13, 3) := by decide +kernel
theorem dX5_seatsForGroup_60 : decode cX5_seatsForGroup 60 = .ok (.iload 4, 2) := by decide +kernel
theorem dX5_seatsForGroup_62 : decode cX5_seatsForGroup 62 = .ok (.ifCond .ne 7, 3) := by decide +kernel
theorem dX5_seatsForGroup_65 : decode cX5_seatsForGroup 65 = .ok (.iconst 3, 1) := by decide +kernel
theorem dX5_seatsForGroup_66 : decode cX5_seatsForGroup 66 = .ok (.goto 4, 3) := by decide +kernel
theorem dX5_seatsForGroup_69 : decode cX5_seatsForGroup 69 = .ok (.iconst 0, 1) := by decide +kernel
theorem dX5_seatsForGroup_70 : decode cX5_seatsForGroup 70 = .ok (.invokevirtual 63, 3) := by decide +kernel
theorem dX5_seatsForGroup_73 : decode cX5_seatsForGroup 73 = .ok (.ifCond .eq 12, 3) := by decide +kernel
theorem dX5_seatsForGroup_76 : decode cX5_seatsForGroup 76 = .ok (.aload_n 0, 1) := by decide +kernel
theorem dX5_seatsForGroup_77 : decode cX5_seatsForGroup 77 = .ok (.getfield 40, 3) := by decide +kernel
theorem dX5_seatsForGroup_80 : decode cX5_seatsForGroup 80 = .ok (.iload_n 2, 1) := by decide +kernel
theorem dX5_seatsForGroup_81 : decode cX5_seatsForGroup 81 = .ok (.iaload, 1) := by decide +kernel
theorem dX5_seatsForGroup_82 : decode cX5_seatsForGroup 82 = .ok (.goto 4, 3) := by decide +kernel
theorem dX5_seatsForGroup_85 : decode cX5_seatsForGroup 85 = .ok (.iconst 0, 1) := by decide +kernel
theorem dX5_seatsForGroup_86 : decode cX5_seatsForGroup 86 = .ok (.ireturn, 1) := by decide +kernel
theorem dX5_holdGroup_0 : decode cX5_holdGroup 0 = .ok (.iload_n 1, 1) := by decide +kernel
theorem dX5_holdGroup_1 : decode cX5_holdGroup 1 = .ok (.invokestatic 137, 3) := by decide +kernel
theorem dX5_holdGroup_4 : decode cX5_holdGroup 4 = .ok (.ifCond .eq 14, 3) := by decide +kernel
theorem dX5_holdGroup_7 : decode cX5_holdGroup 7 = .ok (.iload_n 2, 1) := by decide +kernel
theorem dX5_holdGroup_8 : decode cX5_holdGroup 8 = .ok (.invokestatic 112, 3) := by decide +kernel
theorem dX5_holdGroup_11 : decode cX5_holdGroup 11 = .ok (.ifCond .eq 7, 3) := by decide +kernel
theorem dX5_holdGroup_14 : decode cX5_holdGroup 14 = .ok (.iconst 1, 1) := by decide +kernel
theorem dX5_holdGroup_15 : decode cX5_holdGroup 15 = .ok (.goto 4, 3) := by decide +kernel
theorem dX5_holdGroup_18 : decode cX5_holdGroup 18 = .ok (.iconst 0, 1) := by decide +kernel
theorem dX5_holdGroup_19 : decode cX5_holdGroup 19 = .ok (.istore_n 3, 1) := by decide +kernel
theorem dX5_holdGroup_20 : decode cX5_holdGroup 20 = .ok (.iload_n 3, 1) := by decide +kernel
theorem dX5_holdGroup_21 : decode cX5_holdGroup 21 = .ok (.ifCond .eq 11, 3) := by decide +kernel
theorem dX5_holdGroup_24 : decode cX5_holdGroup 24 = .ok (.aload_n 0, 1) := by decide +kernel
theorem dX5_holdGroup_25 : decode cX5_holdGroup 25 = .ok (.iload_n 1, 1) := by decide +kernel
theorem dX5_holdGroup_26 : decode cX5_holdGroup 26 = .ok (.invokevirtual 140, 3) := by decide +kernel
theorem dX5_holdGroup_29 : decode cX5_holdGroup 29 = .ok (.goto 4, 3) := by decide +kernel
theorem dX5_holdGroup_32 : decode cX5_holdGroup 32 = .ok (.iconst 0, 1) := by decide +kernel
theorem dX5_holdGroup_33 : decode cX5_holdGroup 33 = .ok (.istore 4, 2) := by decide +kernel
theorem dX5_holdGroup_35 : decode cX5_holdGroup 35 = .ok (.aload_n 0, 1) := by decide +kernel
theorem dX5_holdGroup_36 : decode cX5_holdGroup 36 = .ok (.iload_n 3, 1) := by decide +kernel
theorem dX5_holdGroup_37 : decode cX5_holdGroup 37 = .ok (.ifCond .ne 7, 3) := by decide +kernel
theorem dX5_holdGroup_40 : decode cX5_holdGroup 40 = .ok (.iconst 1, 1) := by decide +kernel
theorem dX5_holdGroup_41 : decode cX5_holdGroup 41 = .ok (.goto 22, 3) := by decide +kernel
theorem dX5_holdGroup_44 : decode cX5_holdGroup 44 = .ok (.iload 4, 2) := by decide +kernel
theorem dX5_holdGroup_46 : decode cX5_holdGroup 46 = .ok (.ifCond .eq 12, 3) := by decide +kernel
theorem dX5_holdGroup_49 : decode cX5_holdGroup 49 = .ok (.aload_n 0, 1) := by decide +kernel
theorem dX5_holdGroup_50 : decode cX5_holdGroup 50 = .ok (.getfield 106, 3) := by decide +kernel
theorem dX5_holdGroup_53 : decode cX5_holdGroup 53 = .ok (.bipush 100, 2) := by decide +kernel
theorem dX5_holdGroup_55 : decode cX5_holdGroup 55 = .ok (.if_icmp .ne 7, 3) := by decide +kernel
theorem dX5_holdGroup_58 : decode cX5_holdGroup 58 = .ok (.iconst 2, 1) := by decide +kernel
theorem dX5_holdGroup_59 : decode cX5_holdGroup 59 = .ok (.goto 4, 3) := by decide +kernel
theorem dX5_holdGroup_62 : decode cX5_holdGroup 62 = .ok (.iconst 0, 1) := by decide +kernel
theorem dX5_holdGroup_63 : decode cX5_holdGroup 63 = .ok (.invokevirtual 63, 3) := by decide +kernel
theorem dX5_holdGroup_66 : decode cX5_holdGroup 66 = .ok (.ifCond .ne 5, 3) := by decide +kernel
theorem dX5_holdGroup_69 : decode cX5_holdGroup 69 = .ok (.iconst 0, 1) := by decide +kernel
theorem dX5_holdGroup_70 : decode cX5_holdGroup 70 = .ok (.ireturn, 1) := by decide +kernel
theorem dX5_holdGroup_71 : decode cX5_holdGroup 71 = .ok (.aload_n 0, 1) := by decide +kernel
theorem dX5_holdGroup_72 : decode cX5_holdGroup 72 = .ok (.iload_n 2, 1) := by decide +kernel
theorem dX5_holdGroup_73 : decode cX5_holdGroup 73 = .ok (.invokevirtual 115, 3) := by decide +kernel
theorem dX5_holdGroup_76 : decode cX5_holdGroup 76 = .ok (.istore 5, 2) := by decide +kernel
theorem dX5_holdGroup_78 : decode cX5_holdGroup 78 = .ok (.iconst 0, 1) := by decide +kernel
theorem dX5_holdGroup_79 : decode cX5_holdGroup 79 = .ok (.istore 6, 2) := by decide +kernel
theorem dX5_holdGroup_81 : decode cX5_holdGroup 81 = .ok (.iload 6, 2) := by decide +kernel
theorem dX5_holdGroup_83 : decode cX5_holdGroup 83 = .ok (.aload_n 0, 1) := by decide +kernel
theorem dX5_holdGroup_84 : decode cX5_holdGroup 84 = .ok (.getfield 60, 3) := by decide +kernel
theorem dX5_holdGroup_87 : decode cX5_holdGroup 87 = .ok (.if_icmp .ge 48, 3) := by decide +kernel
theorem dX5_holdGroup_90 : decode cX5_holdGroup 90 = .ok (.aload_n 0, 1) := by decide +kernel
theorem dX5_holdGroup_91 : decode cX5_holdGroup 91 = .ok (.getfield 40, 3) := by decide +kernel
theorem dX5_holdGroup_94 : decode cX5_holdGroup 94 = .ok (.iload 6, 2) := by decide +kernel
theorem dX5_holdGroup_96 : decode cX5_holdGroup 96 = .ok (.iaload, 1) := by decide +kernel
theorem dX5_holdGroup_97 : decode cX5_holdGroup 97 = .ok (.ifCond .le 32, 3) := by decide +kernel
theorem dX5_holdGroup_100 : decode cX5_holdGroup 100 = .ok (.aload_n 0, 1) := by decide +kernel
theorem dX5_holdGroup_101 : decode cX5_holdGroup 101 = .ok (.iload 6, 2) := by decide +kernel
theorem dX5_holdGroup_103 : decode cX5_holdGroup 103 = .ok (.aload_n 0, 1) := by decide +kernel
theorem dX5_holdGroup_104 : decode cX5_holdGroup 104 = .ok (.iload 6, 2) := by decide +kernel
theorem dX5_holdGroup_106 : decode cX5_holdGroup 106 = .ok (.aload_n 0, 1) := by decide +kernel
theorem dX5_holdGroup_107 : decode cX5_holdGroup 107 = .ok (.getfield 40, 3) := by decide +kernel
theorem dX5_holdGroup_110 : decode cX5_holdGroup 110 = .ok (.iload 6, 2) := by decide +kernel
theorem dX5_holdGroup_112 : decode cX5_holdGroup 112 = .ok (.iaload, 1) := by decide +kernel
theorem dX5_holdGroup_113 : decode cX5_holdGroup 113 = .ok (.iconst 0, 1) := by decide +kernel
theorem dX5_holdGroup_114 : decode cX5_holdGroup 114 = .ok (.invokevirtual 95, 3) := by decide +kernel
theorem dX5_holdGroup_117 : decode cX5_holdGroup 117 = .ok (.aload_n 0, 1) := by decide +kernel
theorem dX5_holdGroup_118 : decode cX5_holdGroup 118 = .ok (.getfield 40, 3) := by decide +kernel
theorem dX5_holdGroup_121 : decode cX5_holdGroup 121 = .ok (.iload 6, 2) := by decide +kernel
theorem dX5_holdGroup_123 : decode cX5_holdGroup 123 = .ok (.iaload, 1) := by decide +kernel
theorem dX5_holdGroup_124 : decode cX5_holdGroup 124 = .ok (.iload 5, 2) := by decide +kernel
theorem dX5_holdGroup_126 : decode cX5_holdGroup 126 = .ok (.invokevirtual 118, 3) := by decide +kernel
theorem dX5_holdGroup_129 : decode cX5_holdGroup 129 = .ok (.iinc 6 1, 3) := by decide +kernel
theorem dX5_holdGroup_132 : decode cX5_holdGroup 132 = .ok (.goto (-51), 3) := by decide +kernel
theorem dX5_holdGroup_135 : decode cX5_holdGroup 135 = .ok (.iload 5, 2) := by decide +kernel
theorem dX5_holdGroup_137 : decode cX5_holdGroup 137 = .ok (.ireturn, 1) := by decide +kernel
theorem dX5_isTicket_0 : decode cX5_isTicket 0 = .ok (.iload_n 1, 1) := by decide +kernel
theorem dX5_isTicket_1 : decode cX5_isTicket 1 = .ok (.iconst 1, 1) := by decide +kernel
theorem dX5_isTicket_2 : decode cX5_isTicket 2 = .ok (.aload_n 0, 1) := by decide +kernel
theorem dX5_isTicket_3 : decode cX5_isTicket 3 = .ok (.getfield 106, 3) := by decide +kernel
theorem dX5_isTicket_6 : decode cX5_isTicket 6 = .ok (.invokestatic 56, 3) := by decide +kernel
theorem dX5_isTicket_9 : decode cX5_isTicket 9 = .ok (.ireturn, 1) := by decide +kernel
theorem dX5_tickets_0 : decode cX5_tickets 0 = .ok (.aload_n 0, 1) := by decide +kernel
theorem dX5_tickets_1 : decode cX5_tickets 1 = .ok (.iconst 0, 1) := by decide +kernel
theorem dX5_tickets_2 : decode cX5_tickets 2 = .ok (.putfield 52, 3) := by decide +kernel
theorem dX5_tickets_5 : decode cX5_tickets 5 = .ok (.aload_n 0, 1) := by decide +kernel
theorem dX5_tickets_6 : decode cX5_tickets 6 = .ok (.getfield 106, 3) := by decide +kernel
theorem dX5_tickets_9 : decode cX5_tickets 9 = .ok (.ireturn, 1) := by decide +kernel
theorem dX5_ticketState_0 : decode cX5_ticketState 0 = .ok (.aload_n 0, 1) := by decide +kernel
theorem dX5_ticketState_1 : decode cX5_ticketState 1 = .ok (.aload_n 0, 1) := by decide +kernel
theorem dX5_ticketState_2 : decode cX5_ticketState 2 = .ok (.iload_n 1, 1) := by decide +kernel
theorem dX5_ticketState_3 : decode cX5_ticketState 3 = .ok (.invokevirtual 143, 3) := by decide +kernel
theorem dX5_ticketState_6 : decode cX5_ticketState 6 = .ok (.ifCond .eq 7, 3) := by decide +kernel
theorem dX5_ticketState_9 : decode cX5_ticketState 9 = .ok (.iconst 0, 1) := by decide +kernel
theorem dX5_ticketState_10 : decode cX5_ticketState 10 = .ok (.goto 4, 3) := by decide +kernel
theorem dX5_ticketState_13 : decode cX5_ticketState 13 = .ok (.iconst 1, 1) := by decide +kernel
theorem dX5_ticketState_14 : decode cX5_ticketState 14 = .ok (.invokevirtual 63, 3) := by decide +kernel
theorem dX5_ticketState_17 : decode cX5_ticketState 17 = .ok (.ifCond .eq 12, 3) := by decide +kernel
theorem dX5_ticketState_20 : decode cX5_ticketState 20 = .ok (.aload_n 0, 1) := by decide +kernel
theorem dX5_ticketState_21 : decode cX5_ticketState 21 = .ok (.getfield 22, 3) := by decide +kernel
theorem dX5_ticketState_24 : decode cX5_ticketState 24 = .ok (.iload_n 1, 1) := by decide +kernel
theorem dX5_ticketState_25 : decode cX5_ticketState 25 = .ok (.iaload, 1) := by decide +kernel
theorem dX5_ticketState_26 : decode cX5_ticketState 26 = .ok (.goto 4, 3) := by decide +kernel
theorem dX5_ticketState_29 : decode cX5_ticketState 29 = .ok (.iconst 0, 1) := by decide +kernel
theorem dX5_ticketState_30 : decode cX5_ticketState 30 = .ok (.ireturn, 1) := by decide +kernel
theorem dX5_many_0 : decode cX5_many 0 = .ok (.iconst 0, 1) := by decide +kernel
theorem dX5_many_1 : decode cX5_many 1 = .ok (.istore_n 2, 1) := by decide +kernel
theorem dX5_many_2 : decode cX5_many 2 = .ok (.iconst 0, 1) := by decide +kernel
theorem dX5_many_3 : decode cX5_many 3 = .ok (.istore_n 3, 1) := by decide +kernel
theorem dX5_many_4 : decode cX5_many 4 = .ok (.iload_n 3, 1) := by decide +kernel
theorem dX5_many_5 : decode cX5_many 5 = .ok (.sipush 240, 3) := by decide +kernel
theorem dX5_many_8 : decode cX5_many 8 = .ok (.if_icmp .ge 27, 3) := by decide +kernel
theorem dX5_many_11 : decode cX5_many 11 = .ok (.iload_n 2, 1) := by decide +kernel
theorem dX5_many_12 : decode cX5_many 12 = .ok (.aload_n 0, 1) := by decide +kernel
theorem dX5_many_13 : decode cX5_many 13 = .ok (.getfield 19, 3) := by decide +kernel
theorem dX5_many_16 : decode cX5_many 16 = .ok (.iload_n 3, 1) := by decide +kernel
theorem dX5_many_17 : decode cX5_many 17 = .ok (.iaload, 1) := by decide +kernel
theorem dX5_many_18 : decode cX5_many 18 = .ok (.iload_n 1, 1) := by decide +kernel
theorem dX5_many_19 : decode cX5_many 19 = .ok (.if_icmp .ne 7, 3) := by decide +kernel
theorem dX5_many_22 : decode cX5_many 22 = .ok (.iconst 1, 1) := by decide +kernel
theorem dX5_many_23 : decode cX5_many 23 = .ok (.goto 4, 3) := by decide +kernel
theorem dX5_many_26 : decode cX5_many 26 = .ok (.iconst 0, 1) := by decide +kernel
theorem dX5_many_27 : decode cX5_many 27 = .ok (.iadd, 1) := by decide +kernel
theorem dX5_many_28 : decode cX5_many 28 = .ok (.istore_n 2, 1) := by decide +kernel
theorem dX5_many_29 : decode cX5_many 29 = .ok (.iinc 3 1, 3) := by decide +kernel
theorem dX5_many_32 : decode cX5_many 32 = .ok (.goto (-28), 3) := by decide +kernel
theorem dX5_many_35 : decode cX5_many 35 = .ok (.iload_n 2, 1) := by decide +kernel
theorem dX5_many_36 : decode cX5_many 36 = .ok (.ireturn, 1) := by decide +kernel
theorem dX5_seatsOf_0 : decode cX5_seatsOf 0 = .ok (.aload_n 0, 1) := by decide +kernel
theorem dX5_seatsOf_1 : decode cX5_seatsOf 1 = .ok (.aload_n 0, 1) := by decide +kernel
theorem dX5_seatsOf_2 : decode cX5_seatsOf 2 = .ok (.iload_n 1, 1) := by decide +kernel
theorem dX5_seatsOf_3 : decode cX5_seatsOf 3 = .ok (.invokevirtual 143, 3) := by decide +kernel
theorem dX5_seatsOf_6 : decode cX5_seatsOf 6 = .ok (.ifCond .eq 7, 3) := by decide +kernel
theorem dX5_seatsOf_9 : decode cX5_seatsOf 9 = .ok (.iconst 0, 1) := by decide +kernel
theorem dX5_seatsOf_10 : decode cX5_seatsOf 10 = .ok (.goto 4, 3) := by decide +kernel
theorem dX5_seatsOf_13 : decode cX5_seatsOf 13 = .ok (.iconst 1, 1) := by decide +kernel
theorem dX5_seatsOf_14 : decode cX5_seatsOf 14 = .ok (.invokevirtual 63, 3) := by decide +kernel
theorem dX5_seatsOf_17 : decode cX5_seatsOf 17 = .ok (.ifCond .eq 11, 3) := by decide +kernel
theorem dX5_seatsOf_20 : decode cX5_seatsOf 20 = .ok (.aload_n 0, 1) := by decide +kernel
theorem dX5_seatsOf_21 : decode cX5_seatsOf 21 = .ok (.iload_n 1, 1) := by decide +kernel
theorem dX5_seatsOf_22 : decode cX5_seatsOf 22 = .ok (.invokevirtual 146, 3) := by decide +kernel
theorem dX5_seatsOf_25 : decode cX5_seatsOf 25 = .ok (.goto 4, 3) := by decide +kernel
theorem dX5_seatsOf_28 : decode cX5_seatsOf 28 = .ok (.iconst 0, 1) := by decide +kernel
theorem dX5_seatsOf_29 : decode cX5_seatsOf 29 = .ok (.ireturn, 1) := by decide +kernel
theorem dX5_priced_0 : decode cX5_priced 0 = .ok (.iconst 0, 1) := by decide +kernel
theorem dX5_priced_1 : decode cX5_priced 1 = .ok (.istore_n 2, 1) := by decide +kernel
theorem dX5_priced_2 : decode cX5_priced 2 = .ok (.iconst 0, 1) := by decide +kernel
theorem dX5_priced_3 : decode cX5_priced 3 = .ok (.istore_n 3, 1) := by decide +kernel
theorem dX5_priced_4 : decode cX5_priced 4 = .ok (.iload_n 3, 1) := by decide +kernel
theorem dX5_priced_5 : decode cX5_priced 5 = .ok (.sipush 240, 3) := by decide +kernel
theorem dX5_priced_8 : decode cX5_priced 8 = .ok (.if_icmp .ge 35, 3) := by decide +kernel
theorem dX5_priced_11 : decode cX5_priced 11 = .ok (.iload_n 2, 1) := by decide +kernel
theorem dX5_priced_12 : decode cX5_priced 12 = .ok (.aload_n 0, 1) := by decide +kernel
theorem dX5_priced_13 : decode cX5_priced 13 = .ok (.getfield 19, 3) := by decide +kernel
theorem dX5_priced_16 : decode cX5_priced 16 = .ok (.iload_n 3, 1) := by decide +kernel
theorem dX5_priced_17 : decode cX5_priced 17 = .ok (.iaload, 1) := by decide +kernel
theorem dX5_priced_18 : decode cX5_priced 18 = .ok (.iload_n 1, 1) := by decide +kernel
theorem dX5_priced_19 : decode cX5_priced 19 = .ok (.if_icmp .ne 15, 3) := by decide +kernel
theorem dX5_priced_22 : decode cX5_priced 22 = .ok (.aload_n 0, 1) := by decide +kernel
theorem dX5_priced_23 : decode cX5_priced 23 = .ok (.getfield 16, 3) := by decide +kernel
theorem dX5_priced_26 : decode cX5_priced 26 = .ok (.iload_n 3, 1) := by decide +kernel
theorem dX5_priced_27 : decode cX5_priced 27 = .ok (.bipush 20, 2) := by decide +kernel
theorem dX5_priced_29 : decode cX5_priced 29 = .ok (.idiv, 1) := by decide +kernel
theorem dX5_priced_30 : decode cX5_priced 30 = .ok (.iaload, 1) := by decide +kernel
theorem dX5_priced_31 : decode cX5_priced 31 = .ok (.goto 4, 3) := by decide +kernel
theorem dX5_priced_34 : decode cX5_priced 34 = .ok (.iconst 0, 1) := by decide +kernel
theorem dX5_priced_35 : decode cX5_priced 35 = .ok (.iadd, 1) := by decide +kernel
theorem dX5_priced_36 : decode cX5_priced 36 = .ok (.istore_n 2, 1) := by decide +kernel
theorem dX5_priced_37 : decode cX5_priced 37 = .ok (.iinc 3 1, 3) := by decide +kernel
theorem dX5_priced_40 : decode cX5_priced 40 = .ok (.goto (-36), 3) := by decide +kernel
theorem dX5_priced_43 : decode cX5_priced 43 = .ok (.iload_n 2, 1) := by decide +kernel
theorem dX5_priced_44 : decode cX5_priced 44 = .ok (.ireturn, 1) := by decide +kernel
theorem dX5_priceOf_0 : decode cX5_priceOf 0 = .ok (.aload_n 0, 1) := by decide +kernel
theorem dX5_priceOf_1 : decode cX5_priceOf 1 = .ok (.aload_n 0, 1) := by decide +kernel
theorem dX5_priceOf_2 : decode cX5_priceOf 2 = .ok (.iload_n 1, 1) := by decide +kernel
theorem dX5_priceOf_3 : decode cX5_priceOf 3 = .ok (.invokevirtual 143, 3) := by decide +kernel
theorem dX5_priceOf_6 : decode cX5_priceOf 6 = .ok (.ifCond .eq 7, 3) := by decide +kernel
theorem dX5_priceOf_9 : decode cX5_priceOf 9 = .ok (.iconst 0, 1) := by decide +kernel
theorem dX5_priceOf_10 : decode cX5_priceOf 10 = .ok (.goto 4, 3) := by decide +kernel
theorem dX5_priceOf_13 : decode cX5_priceOf 13 = .ok (.iconst 1, 1) := by decide +kernel
theorem dX5_priceOf_14 : decode cX5_priceOf 14 = .ok (.invokevirtual 63, 3) := by decide +kernel
theorem dX5_priceOf_17 : decode cX5_priceOf 17 = .ok (.ifCond .eq 11, 3) := by decide +kernel
theorem dX5_priceOf_20 : decode cX5_priceOf 20 = .ok (.aload_n 0, 1) := by decide +kernel
theorem dX5_priceOf_21 : decode cX5_priceOf 21 = .ok (.iload_n 1, 1) := by decide +kernel
theorem dX5_priceOf_22 : decode cX5_priceOf 22 = .ok (.invokevirtual 149, 3) := by decide +kernel
theorem dX5_priceOf_25 : decode cX5_priceOf 25 = .ok (.goto 4, 3) := by decide +kernel
theorem dX5_priceOf_28 : decode cX5_priceOf 28 = .ok (.iconst 0, 1) := by decide +kernel
theorem dX5_priceOf_29 : decode cX5_priceOf 29 = .ok (.ireturn, 1) := by decide +kernel
theorem dX5_extend_0 : decode cX5_extend 0 = .ok (.aload_n 0, 1) := by decide +kernel
theorem dX5_extend_1 : decode cX5_extend 1 = .ok (.aload_n 0, 1) := by decide +kernel
theorem dX5_extend_2 : decode cX5_extend 2 = .ok (.iload_n 1, 1) := by decide +kernel
theorem dX5_extend_3 : decode cX5_extend 3 = .ok (.invokevirtual 143, 3) := by decide +kernel
theorem dX5_extend_6 : decode cX5_extend 6 = .ok (.ifCond .ne 7, 3) := by decide +kernel
theorem dX5_extend_9 : decode cX5_extend 9 = .ok (.iconst 1, 1) := by decide +kernel
theorem dX5_extend_10 : decode cX5_extend 10 = .ok (.goto 38, 3) := by decide +kernel
theorem dX5_extend_13 : decode cX5_extend 13 = .ok (.iload_n 2, 1) := by decide +kernel
theorem dX5_extend_14 : decode cX5_extend 14 = .ok (.invokestatic 112, 3) := by decide +kernel
theorem dX5_extend_17 : decode cX5_extend 17 = .ok (.ifCond .ne 7, 3) := by decide +kernel
theorem dX5_extend_20 : decode cX5_extend 20 = .ok (.iconst 2, 1) := by decide +kernel
theorem dX5_extend_21 : decode cX5_extend 21 = .ok (.goto 27, 3) := by decide +kernel
theorem dX5_extend_24 : decode cX5_extend 24 = .ok (.aload_n 0, 1) := by decide +kernel
theorem dX5_extend_25 : decode cX5_extend 25 = .ok (.getfield 22, 3) := by decide +kernel
theorem dX5_extend_28 : decode cX5_extend 28 = .ok (.iload_n 1, 1) := by decide +kernel
theorem dX5_extend_29 : decode cX5_extend 29 = .ok (.iaload, 1) := by decide +kernel
theorem dX5_extend_30 : decode cX5_extend 30 = .ok (.ifCond .ne 13, 3) := by decide +kernel
theorem dX5_extend_33 : decode cX5_extend 33 = .ok (.aload_n 0, 1) := by decide +kernel
theorem dX5_extend_34 : decode cX5_extend 34 = .ok (.getfield 28, 3) := by decide +kernel
theorem dX5_extend_37 : decode cX5_extend 37 = .ok (.iload_n 1, 1) := by decide +kernel
theorem dX5_extend_38 : decode cX5_extend 38 = .ok (.iaload, 1) := by decide +kernel
theorem dX5_extend_39 : decode cX5_extend 39 = .ok (.iconst 2, 1) := by decide +kernel
theorem dX5_extend_40 : decode cX5_extend 40 = .ok (.if_icmp .ne 7, 3) := by decide +kernel
theorem dX5_extend_43 : decode cX5_extend 43 = .ok (.iconst 3, 1) := by decide +kernel
theorem dX5_extend_44 : decode cX5_extend 44 = .ok (.goto 4, 3) := by decide +kernel
theorem dX5_extend_47 : decode cX5_extend 47 = .ok (.iconst 0, 1) := by decide +kernel
theorem dX5_extend_48 : decode cX5_extend 48 = .ok (.invokevirtual 63, 3) := by decide +kernel
theorem dX5_extend_51 : decode cX5_extend 51 = .ok (.ifCond .ne 5, 3) := by decide +kernel
theorem dX5_extend_54 : decode cX5_extend 54 = .ok (.iconst 0, 1) := by decide +kernel
theorem dX5_extend_55 : decode cX5_extend 55 = .ok (.ireturn, 1) := by decide +kernel
theorem dX5_extend_56 : decode cX5_extend 56 = .ok (.aload_n 0, 1) := by decide +kernel
theorem dX5_extend_57 : decode cX5_extend 57 = .ok (.getfield 28, 3) := by decide +kernel
theorem dX5_extend_60 : decode cX5_extend 60 = .ok (.iload_n 1, 1) := by decide +kernel
theorem dX5_extend_61 : decode cX5_extend 61 = .ok (.dup2, 1) := by decide +kernel
theorem dX5_extend_62 : decode cX5_extend 62 = .ok (.iaload, 1) := by decide +kernel
theorem dX5_extend_63 : decode cX5_extend 63 = .ok (.iconst 1, 1) := by decide +kernel
theorem dX5_extend_64 : decode cX5_extend 64 = .ok (.iadd, 1) := by decide +kernel
theorem dX5_extend_65 : decode cX5_extend 65 = .ok (.iastore, 1) := by decide +kernel
theorem dX5_extend_66 : decode cX5_extend 66 = .ok (.aload_n 0, 1) := by decide +kernel
theorem dX5_extend_67 : decode cX5_extend 67 = .ok (.getfield 25, 3) := by decide +kernel
theorem dX5_extend_70 : decode cX5_extend 70 = .ok (.iload_n 1, 1) := by decide +kernel
theorem dX5_extend_71 : decode cX5_extend 71 = .ok (.aload_n 0, 1) := by decide +kernel
theorem dX5_extend_72 : decode cX5_extend 72 = .ok (.getfield 109, 3) := by decide +kernel
theorem dX5_extend_75 : decode cX5_extend 75 = .ok (.iload_n 2, 1) := by decide +kernel
theorem dX5_extend_76 : decode cX5_extend 76 = .ok (.iadd, 1) := by decide +kernel
theorem dX5_extend_77 : decode cX5_extend 77 = .ok (.iastore, 1) := by decide +kernel
theorem dX5_extend_78 : decode cX5_extend 78 = .ok (.aload_n 0, 1) := by decide +kernel
theorem dX5_extend_79 : decode cX5_extend 79 = .ok (.getfield 25, 3) := by decide +kernel
theorem dX5_extend_82 : decode cX5_extend 82 = .ok (.iload_n 1, 1) := by decide +kernel
theorem dX5_extend_83 : decode cX5_extend 83 = .ok (.iaload, 1) := by decide +kernel
theorem dX5_extend_84 : decode cX5_extend 84 = .ok (.ireturn, 1) := by decide +kernel
theorem dX5_pay_0 : decode cX5_pay 0 = .ok (.aload_n 0, 1) := by decide +kernel
theorem dX5_pay_1 : decode cX5_pay 1 = .ok (.aload_n 0, 1) := by decide +kernel
theorem dX5_pay_2 : decode cX5_pay 2 = .ok (.iload_n 1, 1) := by decide +kernel
theorem dX5_pay_3 : decode cX5_pay 3 = .ok (.invokevirtual 143, 3) := by decide +kernel
theorem dX5_pay_6 : decode cX5_pay 6 = .ok (.ifCond .ne 7, 3) := by decide +kernel
theorem dX5_pay_9 : decode cX5_pay 9 = .ok (.iconst 1, 1) := by decide +kernel
theorem dX5_pay_10 : decode cX5_pay 10 = .ok (.goto 17, 3) := by decide +kernel
theorem dX5_pay_13 : decode cX5_pay 13 = .ok (.aload_n 0, 1) := by decide +kernel
theorem dX5_pay_14 : decode cX5_pay 14 = .ok (.getfield 22, 3) := by decide +kernel
theorem dX5_pay_17 : decode cX5_pay 17 = .ok (.iload_n 1, 1) := by decide +kernel
theorem dX5_pay_18 : decode cX5_pay 18 = .ok (.iaload, 1) := by decide +kernel
theorem dX5_pay_19 : decode cX5_pay 19 = .ok (.ifCond .eq 7, 3) := by decide +kernel
theorem dX5_pay_22 : decode cX5_pay 22 = .ok (.iconst 2, 1) := by decide +kernel
theorem dX5_pay_23 : decode cX5_pay 23 = .ok (.goto 4, 3) := by decide +kernel
theorem dX5_pay_26 : decode cX5_pay 26 = .ok (.iconst 0, 1) := by decide +kernel
theorem dX5_pay_27 : decode cX5_pay 27 = .ok (.invokevirtual 63, 3) := by decide +kernel
theorem dX5_pay_30 : decode cX5_pay 30 = .ok (.ifCond .ne 5, 3) := by decide +kernel
theorem dX5_pay_33 : decode cX5_pay 33 = .ok (.iconst 0, 1) := by decide +kernel
theorem dX5_pay_34 : decode cX5_pay 34 = .ok (.ireturn, 1) := by decide +kernel
theorem dX5_pay_35 : decode cX5_pay 35 = .ok (.aload_n 0, 1) := by decide +kernel
theorem dX5_pay_36 : decode cX5_pay 36 = .ok (.getfield 22, 3) := by decide +kernel
theorem dX5_pay_39 : decode cX5_pay 39 = .ok (.iload_n 1, 1) := by decide +kernel
theorem dX5_pay_40 : decode cX5_pay 40 = .ok (.iconst 1, 1) := by decide +kernel
theorem dX5_pay_41 : decode cX5_pay 41 = .ok (.iastore, 1) := by decide +kernel
theorem dX5_pay_42 : decode cX5_pay 42 = .ok (.aload_n 0, 1) := by decide +kernel
theorem dX5_pay_43 : decode cX5_pay 43 = .ok (.getfield 31, 3) := by decide +kernel
theorem dX5_pay_46 : decode cX5_pay 46 = .ok (.iload_n 1, 1) := by decide +kernel
theorem dX5_pay_47 : decode cX5_pay 47 = .ok (.aload_n 0, 1) := by decide +kernel
theorem dX5_pay_48 : decode cX5_pay 48 = .ok (.iload_n 1, 1) := by decide +kernel
theorem dX5_pay_49 : decode cX5_pay 49 = .ok (.invokevirtual 149, 3) := by decide +kernel
theorem dX5_pay_52 : decode cX5_pay 52 = .ok (.iastore, 1) := by decide +kernel
theorem dX5_pay_53 : decode cX5_pay 53 = .ok (.aload_n 0, 1) := by decide +kernel
theorem dX5_pay_54 : decode cX5_pay 54 = .ok (.dup, 1) := by decide +kernel
theorem dX5_pay_55 : decode cX5_pay 55 = .ok (.getfield 152, 3) := by decide +kernel
theorem dX5_pay_58 : decode cX5_pay 58 = .ok (.aload_n 0, 1) := by decide +kernel
theorem dX5_pay_59 : decode cX5_pay 59 = .ok (.getfield 31, 3) := by decide +kernel
theorem dX5_pay_62 : decode cX5_pay 62 = .ok (.iload_n 1, 1) := by decide +kernel
theorem dX5_pay_63 : decode cX5_pay 63 = .ok (.iaload, 1) := by decide +kernel
theorem dX5_pay_64 : decode cX5_pay 64 = .ok (.iadd, 1) := by decide +kernel
theorem dX5_pay_65 : decode cX5_pay 65 = .ok (.putfield 152, 3) := by decide +kernel
theorem dX5_pay_68 : decode cX5_pay 68 = .ok (.aload_n 0, 1) := by decide +kernel
theorem dX5_pay_69 : decode cX5_pay 69 = .ok (.getfield 31, 3) := by decide +kernel
theorem dX5_pay_72 : decode cX5_pay 72 = .ok (.iload_n 1, 1) := by decide +kernel
theorem dX5_pay_73 : decode cX5_pay 73 = .ok (.iaload, 1) := by decide +kernel
theorem dX5_pay_74 : decode cX5_pay 74 = .ok (.ireturn, 1) := by decide +kernel
theorem dX5_closes_0 : decode cX5_closes 0 = .ok (.aload_n 0, 1) := by decide +kernel
theorem dX5_closes_1 : decode cX5_closes 1 = .ok (.getfield 22, 3) := by decide +kernel
theorem dX5_closes_4 : decode cX5_closes 4 = .ok (.iload_n 1, 1) := by decide +kernel
theorem dX5_closes_5 : decode cX5_closes 5 = .ok (.iload_n 2, 1) := by decide +kernel
theorem dX5_closes_6 : decode cX5_closes 6 = .ok (.iastore, 1) := by decide +kernel
theorem dX5_closes_7 : decode cX5_closes 7 = .ok (.iconst 0, 1) := by decide +kernel
theorem dX5_closes_8 : decode cX5_closes 8 = .ok (.istore_n 3, 1) := by decide +kernel
theorem dX5_closes_9 : decode cX5_closes 9 = .ok (.iload_n 3, 1) := by decide +kernel
theorem dX5_closes_10 : decode cX5_closes 10 = .ok (.sipush 240, 3) := by decide +kernel
theorem dX5_closes_13 : decode cX5_closes 13 = .ok (.if_icmp .ge 35, 3) := by decide +kernel
theorem dX5_closes_16 : decode cX5_closes 16 = .ok (.aload_n 0, 1) := by decide +kernel
theorem dX5_closes_17 : decode cX5_closes 17 = .ok (.getfield 19, 3) := by decide +kernel
theorem dX5_closes_20 : decode cX5_closes 20 = .ok (.iload_n 3, 1) := by decide +kernel
theorem dX5_closes_21 : decode cX5_closes 21 = .ok (.aload_n 0, 1) := by decide +kernel
theorem dX5_closes_22 : decode cX5_closes 22 = .ok (.getfield 19, 3) := by decide +kernel
theorem dX5_closes_25 : decode cX5_closes 25 = .ok (.iload_n 3, 1) := by decide +kernel
theorem dX5_closes_26 : decode cX5_closes 26 = .ok (.iaload, 1) := by decide +kernel
theorem dX5_closes_27 : decode cX5_closes 27 = .ok (.iload_n 1, 1) := by decide +kernel
theorem dX5_closes_28 : decode cX5_closes 28 = .ok (.if_icmp .ne 7, 3) := by decide +kernel
theorem dX5_closes_31 : decode cX5_closes 31 = .ok (.iconst 0, 1) := by decide +kernel
theorem dX5_closes_32 : decode cX5_closes 32 = .ok (.goto 9, 3) := by decide +kernel
theorem dX5_closes_35 : decode cX5_closes 35 = .ok (.aload_n 0, 1) := by decide +kernel
theorem dX5_closes_36 : decode cX5_closes 36 = .ok (.getfield 19, 3) := by decide +kernel
theorem dX5_closes_39 : decode cX5_closes 39 = .ok (.iload_n 3, 1) := by decide +kernel
theorem dX5_closes_40 : decode cX5_closes 40 = .ok (.iaload, 1) := by decide +kernel
theorem dX5_closes_41 : decode cX5_closes 41 = .ok (.iastore, 1) := by decide +kernel
theorem dX5_closes_42 : decode cX5_closes 42 = .ok (.iinc 3 1, 3) := by decide +kernel
theorem dX5_closes_45 : decode cX5_closes 45 = .ok (.goto (-36), 3) := by decide +kernel
theorem dX5_closes_48 : decode cX5_closes 48 = .ok (.return_, 1) := by decide +kernel
theorem dX5_cancel_0 : decode cX5_cancel 0 = .ok (.aload_n 0, 1) := by decide +kernel
theorem dX5_cancel_1 : decode cX5_cancel 1 = .ok (.aload_n 0, 1) := by decide +kernel
theorem dX5_cancel_2 : decode cX5_cancel 2 = .ok (.iload_n 1, 1) := by decide +kernel
theorem dX5_cancel_3 : decode cX5_cancel 3 = .ok (.invokevirtual 143, 3) := by decide +kernel
theorem dX5_cancel_6 : decode cX5_cancel 6 = .ok (.ifCond .ne 7, 3) := by decide +kernel
theorem dX5_cancel_9 : decode cX5_cancel 9 = .ok (.iconst 1, 1) := by decide +kernel
theorem dX5_cancel_10 : decode cX5_cancel 10 = .ok (.goto 18, 3) := by decide +kernel
theorem dX5_cancel_13 : decode cX5_cancel 13 = .ok (.aload_n 0, 1) := by decide +kernel
theorem dX5_cancel_14 : decode cX5_cancel 14 = .ok (.getfield 22, 3) := by decide +kernel
theorem dX5_cancel_17 : decode cX5_cancel 17 = .ok (.iload_n 1, 1) := by decide +kernel
theorem dX5_cancel_18 : decode cX5_cancel 18 = .ok (.iaload, 1) := by decide +kernel
theorem dX5_cancel_19 : decode cX5_cancel 19 = .ok (.iconst 1, 1) := by decide +kernel
theorem dX5_cancel_20 : decode cX5_cancel 20 = .ok (.if_icmp .le 7, 3) := by decide +kernel
theorem dX5_cancel_23 : decode cX5_cancel 23 = .ok (.iconst 2, 1) := by decide +kernel
theorem dX5_cancel_24 : decode cX5_cancel 24 = .ok (.goto 4, 3) := by decide +kernel
theorem dX5_cancel_27 : decode cX5_cancel 27 = .ok (.iconst 0, 1) := by decide +kernel
theorem dX5_cancel_28 : decode cX5_cancel 28 = .ok (.invokevirtual 63, 3) := by decide +kernel
theorem dX5_cancel_31 : decode cX5_cancel 31 = .ok (.ifCond .ne 5, 3) := by decide +kernel
theorem dX5_cancel_34 : decode cX5_cancel 34 = .ok (.iconst 0, 1) := by decide +kernel
theorem dX5_cancel_35 : decode cX5_cancel 35 = .ok (.ireturn, 1) := by decide +kernel
theorem dX5_cancel_36 : decode cX5_cancel 36 = .ok (.aload_n 0, 1) := by decide +kernel
theorem dX5_cancel_37 : decode cX5_cancel 37 = .ok (.iload_n 1, 1) := by decide +kernel
theorem dX5_cancel_38 : decode cX5_cancel 38 = .ok (.iconst 3, 1) := by decide +kernel
theorem dX5_cancel_39 : decode cX5_cancel 39 = .ok (.invokevirtual 155, 3) := by decide +kernel
theorem dX5_cancel_42 : decode cX5_cancel 42 = .ok (.aload_n 0, 1) := by decide +kernel
theorem dX5_cancel_43 : decode cX5_cancel 43 = .ok (.dup, 1) := by decide +kernel
theorem dX5_cancel_44 : decode cX5_cancel 44 = .ok (.getfield 152, 3) := by decide +kernel
theorem dX5_cancel_47 : decode cX5_cancel 47 = .ok (.aload_n 0, 1) := by decide +kernel
theorem dX5_cancel_48 : decode cX5_cancel 48 = .ok (.getfield 31, 3) := by decide +kernel
theorem dX5_cancel_51 : decode cX5_cancel 51 = .ok (.iload_n 1, 1) := by decide +kernel
theorem dX5_cancel_52 : decode cX5_cancel 52 = .ok (.iaload, 1) := by decide +kernel
theorem dX5_cancel_53 : decode cX5_cancel 53 = .ok (.isub, 1) := by decide +kernel
theorem dX5_cancel_54 : decode cX5_cancel 54 = .ok (.putfield 152, 3) := by decide +kernel
theorem dX5_cancel_57 : decode cX5_cancel 57 = .ok (.aload_n 0, 1) := by decide +kernel
theorem dX5_cancel_58 : decode cX5_cancel 58 = .ok (.getfield 31, 3) := by decide +kernel
theorem dX5_cancel_61 : decode cX5_cancel 61 = .ok (.iload_n 1, 1) := by decide +kernel
theorem dX5_cancel_62 : decode cX5_cancel 62 = .ok (.iaload, 1) := by decide +kernel
theorem dX5_cancel_63 : decode cX5_cancel 63 = .ok (.ireturn, 1) := by decide +kernel
theorem dX5_takings_0 : decode cX5_takings 0 = .ok (.aload_n 0, 1) := by decide +kernel
theorem dX5_takings_1 : decode cX5_takings 1 = .ok (.iconst 0, 1) := by decide +kernel
theorem dX5_takings_2 : decode cX5_takings 2 = .ok (.putfield 52, 3) := by decide +kernel
theorem dX5_takings_5 : decode cX5_takings 5 = .ok (.aload_n 0, 1) := by decide +kernel
theorem dX5_takings_6 : decode cX5_takings 6 = .ok (.getfield 152, 3) := by decide +kernel
theorem dX5_takings_9 : decode cX5_takings 9 = .ok (.ireturn, 1) := by decide +kernel
theorem dX5_now_0 : decode cX5_now 0 = .ok (.aload_n 0, 1) := by decide +kernel
theorem dX5_now_1 : decode cX5_now 1 = .ok (.iconst 0, 1) := by decide +kernel
theorem dX5_now_2 : decode cX5_now 2 = .ok (.putfield 52, 3) := by decide +kernel
theorem dX5_now_5 : decode cX5_now 5 = .ok (.aload_n 0, 1) := by decide +kernel
theorem dX5_now_6 : decode cX5_now 6 = .ok (.getfield 109, 3) := by decide +kernel
theorem dX5_now_9 : decode cX5_now 9 = .ok (.ireturn, 1) := by decide +kernel
theorem dX5_pass_0 : decode cX5_pass 0 = .ok (.aload_n 0, 1) := by decide +kernel
theorem dX5_pass_1 : decode cX5_pass 1 = .ok (.iload_n 1, 1) := by decide +kernel
theorem dX5_pass_2 : decode cX5_pass 2 = .ok (.iconst 1, 1) := by decide +kernel
theorem dX5_pass_3 : decode cX5_pass 3 = .ok (.sipush 1000, 3) := by decide +kernel
theorem dX5_pass_6 : decode cX5_pass 6 = .ok (.invokestatic 56, 3) := by decide +kernel
theorem dX5_pass_9 : decode cX5_pass 9 = .ok (.ifCond .eq 7, 3) := by decide +kernel
theorem dX5_pass_12 : decode cX5_pass 12 = .ok (.iconst 0, 1) := by decide +kernel
theorem dX5_pass_13 : decode cX5_pass 13 = .ok (.goto 4, 3) := by decide +kernel
theorem dX5_pass_16 : decode cX5_pass 16 = .ok (.iconst 1, 1) := by decide +kernel
theorem dX5_pass_17 : decode cX5_pass 17 = .ok (.invokevirtual 63, 3) := by decide +kernel
theorem dX5_pass_20 : decode cX5_pass 20 = .ok (.ifCond .ne 5, 3) := by decide +kernel
theorem dX5_pass_23 : decode cX5_pass 23 = .ok (.iconst 0, 1) := by decide +kernel
theorem dX5_pass_24 : decode cX5_pass 24 = .ok (.ireturn, 1) := by decide +kernel
theorem dX5_pass_25 : decode cX5_pass 25 = .ok (.aload_n 0, 1) := by decide +kernel
theorem dX5_pass_26 : decode cX5_pass 26 = .ok (.dup, 1) := by decide +kernel
theorem dX5_pass_27 : decode cX5_pass 27 = .ok (.getfield 109, 3) := by decide +kernel
theorem dX5_pass_30 : decode cX5_pass 30 = .ok (.iload_n 1, 1) := by decide +kernel
theorem dX5_pass_31 : decode cX5_pass 31 = .ok (.iadd, 1) := by decide +kernel
theorem dX5_pass_32 : decode cX5_pass 32 = .ok (.putfield 109, 3) := by decide +kernel
theorem dX5_pass_35 : decode cX5_pass 35 = .ok (.iconst 0, 1) := by decide +kernel
theorem dX5_pass_36 : decode cX5_pass 36 = .ok (.istore_n 2, 1) := by decide +kernel
theorem dX5_pass_37 : decode cX5_pass 37 = .ok (.iconst 1, 1) := by decide +kernel
theorem dX5_pass_38 : decode cX5_pass 38 = .ok (.istore_n 3, 1) := by decide +kernel
theorem dX5_pass_39 : decode cX5_pass 39 = .ok (.iload_n 3, 1) := by decide +kernel
theorem dX5_pass_40 : decode cX5_pass 40 = .ok (.aload_n 0, 1) := by decide +kernel
theorem dX5_pass_41 : decode cX5_pass 41 = .ok (.getfield 106, 3) := by decide +kernel
theorem dX5_pass_44 : decode cX5_pass 44 = .ok (.if_icmp .gt 40, 3) := by decide +kernel
theorem dX5_pass_47 : decode cX5_pass 47 = .ok (.aload_n 0, 1) := by decide +kernel
theorem dX5_pass_48 : decode cX5_pass 48 = .ok (.getfield 22, 3) := by decide +kernel
theorem dX5_pass_51 : decode cX5_pass 51 = .ok (.iload_n 3, 1) := by decide +kernel
theorem dX5_pass_52 : decode cX5_pass 52 = .ok (.iaload, 1) := by decide +kernel
theorem dX5_pass_53 : decode cX5_pass 53 = .ok (.ifCond .ne 25, 3) := by decide +kernel
theorem dX5_pass_56 : decode cX5_pass 56 = .ok (.aload_n 0, 1) := by decide +kernel
theorem dX5_pass_57 : decode cX5_pass 57 = .ok (.getfield 25, 3) := by decide +kernel
theorem dX5_pass_60 : decode cX5_pass 60 = .ok (.iload_n 3, 1) := by decide +kernel
theorem dX5_pass_61 : decode cX5_pass 61 = .ok (.iaload, 1) := by decide +kernel
theorem dX5_pass_62 : decode cX5_pass 62 = .ok (.aload_n 0, 1) := by decide +kernel
theorem dX5_pass_63 : decode cX5_pass 63 = .ok (.getfield 109, 3) := by decide +kernel
theorem dX5_pass_66 : decode cX5_pass 66 = .ok (.if_icmp .gt 12, 3) := by decide +kernel
theorem dX5_pass_69 : decode cX5_pass 69 = .ok (.aload_n 0, 1) := by decide +kernel
theorem dX5_pass_70 : decode cX5_pass 70 = .ok (.iload_n 3, 1) := by decide +kernel
theorem dX5_pass_71 : decode cX5_pass 71 = .ok (.iconst 2, 1) := by decide +kernel
theorem dX5_pass_72 : decode cX5_pass 72 = .ok (.invokevirtual 155, 3) := by decide +kernel
theorem dX5_pass_75 : decode cX5_pass 75 = .ok (.iinc 2 1, 3) := by decide +kernel
theorem dX5_pass_78 : decode cX5_pass 78 = .ok (.iinc 3 1, 3) := by decide +kernel
theorem dX5_pass_81 : decode cX5_pass 81 = .ok (.goto (-42), 3) := by decide +kernel
theorem dX5_pass_84 : decode cX5_pass 84 = .ok (.iload_n 2, 1) := by decide +kernel
theorem dX5_pass_85 : decode cX5_pass 85 = .ok (.ireturn, 1) := by decide +kernel
theorem dX5_nextExpiry_0 : decode cX5_nextExpiry 0 = .ok (.iconst (-1), 1) := by decide +kernel
theorem dX5_nextExpiry_1 : decode cX5_nextExpiry 1 = .ok (.istore_n 1, 1) := by decide +kernel
theorem dX5_nextExpiry_2 : decode cX5_nextExpiry 2 = .ok (.iconst 1, 1) := by decide +kernel
theorem dX5_nextExpiry_3 : decode cX5_nextExpiry 3 = .ok (.istore_n 2, 1) := by decide +kernel
theorem dX5_nextExpiry_4 : decode cX5_nextExpiry 4 = .ok (.iload_n 2, 1) := by decide +kernel
theorem dX5_nextExpiry_5 : decode cX5_nextExpiry 5 = .ok (.aload_n 0, 1) := by decide +kernel
theorem dX5_nextExpiry_6 : decode cX5_nextExpiry 6 = .ok (.getfield 106, 3) := by decide +kernel
theorem dX5_nextExpiry_9 : decode cX5_nextExpiry 9 = .ok (.if_icmp .gt 39, 3) := by decide +kernel
theorem dX5_nextExpiry_12 : decode cX5_nextExpiry 12 = .ok (.aload_n 0, 1) := by decide +kernel
theorem dX5_nextExpiry_13 : decode cX5_nextExpiry 13 = .ok (.getfield 22, 3) := by decide +kernel
theorem dX5_nextExpiry_16 : decode cX5_nextExpiry 16 = .ok (.iload_n 2, 1) := by decide +kernel
theorem dX5_nextExpiry_17 : decode cX5_nextExpiry 17 = .ok (.iaload, 1) := by decide +kernel
theorem dX5_nextExpiry_18 : decode cX5_nextExpiry 18 = .ok (.ifCond .ne 24, 3) := by decide +kernel
theorem dX5_nextExpiry_21 : decode cX5_nextExpiry 21 = .ok (.iload_n 1, 1) := by decide +kernel
theorem dX5_nextExpiry_22 : decode cX5_nextExpiry 22 = .ok (.ifCond .lt 13, 3) := by decide +kernel
theorem dX5_nextExpiry_25 : decode cX5_nextExpiry 25 = .ok (.aload_n 0, 1) := by decide +kernel
theorem dX5_nextExpiry_26 : decode cX5_nextExpiry 26 = .ok (.getfield 25, 3) := by decide +kernel
theorem dX5_nextExpiry_29 : decode cX5_nextExpiry 29 = .ok (.iload_n 2, 1) := by decide +kernel
theorem dX5_nextExpiry_30 : decode cX5_nextExpiry 30 = .ok (.iaload, 1) := by decide +kernel
theorem dX5_nextExpiry_31 : decode cX5_nextExpiry 31 = .ok (.iload_n 1, 1) := by decide +kernel
theorem dX5_nextExpiry_32 : decode cX5_nextExpiry 32 = .ok (.if_icmp .ge 10, 3) := by decide +kernel
theorem dX5_nextExpiry_35 : decode cX5_nextExpiry 35 = .ok (.aload_n 0, 1) := by decide +kernel
theorem dX5_nextExpiry_36 : decode cX5_nextExpiry 36 = .ok (.getfield 25, 3) := by decide +kernel
theorem dX5_nextExpiry_39 : decode cX5_nextExpiry 39 = .ok (.iload_n 2, 1) := by decide +kernel
theorem dX5_nextExpiry_40 : decode cX5_nextExpiry 40 = .ok (.iaload, 1) := by decide +kernel
theorem dX5_nextExpiry_41 : decode cX5_nextExpiry 41 = .ok (.istore_n 1, 1) := by decide +kernel
theorem dX5_nextExpiry_42 : decode cX5_nextExpiry 42 = .ok (.iinc 2 1, 3) := by decide +kernel
theorem dX5_nextExpiry_45 : decode cX5_nextExpiry 45 = .ok (.goto (-41), 3) := by decide +kernel
theorem dX5_nextExpiry_48 : decode cX5_nextExpiry 48 = .ok (.aload_n 0, 1) := by decide +kernel
theorem dX5_nextExpiry_49 : decode cX5_nextExpiry 49 = .ok (.iload_n 1, 1) := by decide +kernel
theorem dX5_nextExpiry_50 : decode cX5_nextExpiry 50 = .ok (.ifCond .ge 7, 3) := by decide +kernel
theorem dX5_nextExpiry_53 : decode cX5_nextExpiry 53 = .ok (.iconst 1, 1) := by decide +kernel
theorem dX5_nextExpiry_54 : decode cX5_nextExpiry 54 = .ok (.goto 4, 3) := by decide +kernel
theorem dX5_nextExpiry_57 : decode cX5_nextExpiry 57 = .ok (.iconst 0, 1) := by decide +kernel
theorem dX5_nextExpiry_58 : decode cX5_nextExpiry 58 = .ok (.invokevirtual 63, 3) := by decide +kernel
theorem dX5_nextExpiry_61 : decode cX5_nextExpiry 61 = .ok (.ifCond .eq 7, 3) := by decide +kernel
theorem dX5_nextExpiry_64 : decode cX5_nextExpiry 64 = .ok (.iload_n 1, 1) := by decide +kernel
theorem dX5_nextExpiry_65 : decode cX5_nextExpiry 65 = .ok (.goto 4, 3) := by decide +kernel
theorem dX5_nextExpiry_68 : decode cX5_nextExpiry 68 = .ok (.iconst 0, 1) := by decide +kernel
theorem dX5_nextExpiry_69 : decode cX5_nextExpiry 69 = .ok (.ireturn, 1) := by decide +kernel
theorem dX5_firstOf_0 : decode cX5_firstOf 0 = .ok (.iconst 0, 1) := by decide +kernel
theorem dX5_firstOf_1 : decode cX5_firstOf 1 = .ok (.istore_n 2, 1) := by decide +kernel
theorem dX5_firstOf_2 : decode cX5_firstOf 2 = .ok (.iload_n 2, 1) := by decide +kernel
theorem dX5_firstOf_3 : decode cX5_firstOf 3 = .ok (.sipush 240, 3) := by decide +kernel
theorem dX5_firstOf_6 : decode cX5_firstOf 6 = .ok (.if_icmp .ge 21, 3) := by decide +kernel
theorem dX5_firstOf_9 : decode cX5_firstOf 9 = .ok (.aload_n 0, 1) := by decide +kernel
theorem dX5_firstOf_10 : decode cX5_firstOf 10 = .ok (.getfield 19, 3) := by decide +kernel
theorem dX5_firstOf_13 : decode cX5_firstOf 13 = .ok (.iload_n 2, 1) := by decide +kernel
theorem dX5_firstOf_14 : decode cX5_firstOf 14 = .ok (.iaload, 1) := by decide +kernel
theorem dX5_firstOf_15 : decode cX5_firstOf 15 = .ok (.iload_n 1, 1) := by decide +kernel
theorem dX5_firstOf_16 : decode cX5_firstOf 16 = .ok (.if_icmp .ne 5, 3) := by decide +kernel
theorem dX5_firstOf_19 : decode cX5_firstOf 19 = .ok (.iload_n 2, 1) := by decide +kernel
theorem dX5_firstOf_20 : decode cX5_firstOf 20 = .ok (.ireturn, 1) := by decide +kernel
theorem dX5_firstOf_21 : decode cX5_firstOf 21 = .ok (.iinc 2 1, 3) := by decide +kernel
theorem dX5_firstOf_24 : decode cX5_firstOf 24 = .ok (.goto (-22), 3) := by decide +kernel
theorem dX5_firstOf_27 : decode cX5_firstOf 27 = .ok (.iconst (-1), 1) := by decide +kernel
theorem dX5_firstOf_28 : decode cX5_firstOf 28 = .ok (.ireturn, 1) := by decide +kernel
theorem dX5_lastOf_0 : decode cX5_lastOf 0 = .ok (.iconst (-1), 1) := by decide +kernel
theorem dX5_lastOf_1 : decode cX5_lastOf 1 = .ok (.istore_n 2, 1) := by decide +kernel
theorem dX5_lastOf_2 : decode cX5_lastOf 2 = .ok (.iconst 0, 1) := by decide +kernel
theorem dX5_lastOf_3 : decode cX5_lastOf 3 = .ok (.istore_n 3, 1) := by decide +kernel
theorem dX5_lastOf_4 : decode cX5_lastOf 4 = .ok (.iload_n 3, 1) := by decide +kernel
theorem dX5_lastOf_5 : decode cX5_lastOf 5 = .ok (.sipush 240, 3) := by decide +kernel
theorem dX5_lastOf_8 : decode cX5_lastOf 8 = .ok (.if_icmp .ge 25, 3) := by decide +kernel
theorem dX5_lastOf_11 : decode cX5_lastOf 11 = .ok (.aload_n 0, 1) := by decide +kernel
theorem dX5_lastOf_12 : decode cX5_lastOf 12 = .ok (.getfield 19, 3) := by decide +kernel
theorem dX5_lastOf_15 : decode cX5_lastOf 15 = .ok (.iload_n 3, 1) := by decide +kernel
theorem dX5_lastOf_16 : decode cX5_lastOf 16 = .ok (.iaload, 1) := by decide +kernel
theorem dX5_lastOf_17 : decode cX5_lastOf 17 = .ok (.iload_n 1, 1) := by decide +kernel
theorem dX5_lastOf_18 : decode cX5_lastOf 18 = .ok (.if_icmp .ne 7, 3) := by decide +kernel
theorem dX5_lastOf_21 : decode cX5_lastOf 21 = .ok (.iload_n 3, 1) := by decide +kernel
theorem dX5_lastOf_22 : decode cX5_lastOf 22 = .ok (.goto 4, 3) := by decide +kernel
theorem dX5_lastOf_25 : decode cX5_lastOf 25 = .ok (.iload_n 2, 1) := by decide +kernel
theorem dX5_lastOf_26 : decode cX5_lastOf 26 = .ok (.istore_n 2, 1) := by decide +kernel
theorem dX5_lastOf_27 : decode cX5_lastOf 27 = .ok (.iinc 3 1, 3) := by decide +kernel
theorem dX5_lastOf_30 : decode cX5_lastOf 30 = .ok (.goto (-26), 3) := by decide +kernel
theorem dX5_lastOf_33 : decode cX5_lastOf 33 = .ok (.iload_n 2, 1) := by decide +kernel
theorem dX5_lastOf_34 : decode cX5_lastOf 34 = .ok (.ireturn, 1) := by decide +kernel
theorem dX5_mayWish_0 : decode cX5_mayWish 0 = .ok (.aload_n 0, 1) := by decide +kernel
theorem dX5_mayWish_1 : decode cX5_mayWish 1 = .ok (.getfield 22, 3) := by decide +kernel
theorem dX5_mayWish_4 : decode cX5_mayWish 4 = .ok (.iload_n 1, 1) := by decide +kernel
theorem dX5_mayWish_5 : decode cX5_mayWish 5 = .ok (.iaload, 1) := by decide +kernel
theorem dX5_mayWish_6 : decode cX5_mayWish 6 = .ok (.iconst 1, 1) := by decide +kernel
theorem dX5_mayWish_7 : decode cX5_mayWish 7 = .ok (.if_icmp .ne 38, 3) := by decide +kernel
theorem dX5_mayWish_10 : decode cX5_mayWish 10 = .ok (.aload_n 0, 1) := by decide +kernel
theorem dX5_mayWish_11 : decode cX5_mayWish 11 = .ok (.iload_n 1, 1) := by decide +kernel
theorem dX5_mayWish_12 : decode cX5_mayWish 12 = .ok (.invokevirtual 158, 3) := by decide +kernel
theorem dX5_mayWish_15 : decode cX5_mayWish 15 = .ok (.bipush 20, 2) := by decide +kernel
theorem dX5_mayWish_17 : decode cX5_mayWish 17 = .ok (.idiv, 1) := by decide +kernel
theorem dX5_mayWish_18 : decode cX5_mayWish 18 = .ok (.aload_n 0, 1) := by decide +kernel
theorem dX5_mayWish_19 : decode cX5_mayWish 19 = .ok (.iload_n 1, 1) := by decide +kernel
theorem dX5_mayWish_20 : decode cX5_mayWish 20 = .ok (.invokevirtual 161, 3) := by decide +kernel
theorem dX5_mayWish_23 : decode cX5_mayWish 23 = .ok (.bipush 20, 2) := by decide +kernel
theorem dX5_mayWish_25 : decode cX5_mayWish 25 = .ok (.idiv, 1) := by decide +kernel
theorem dX5_mayWish_26 : decode cX5_mayWish 26 = .ok (.if_icmp .ne 19, 3) := by decide +kernel
theorem dX5_mayWish_29 : decode cX5_mayWish 29 = .ok (.aload_n 0, 1) := by decide +kernel
theorem dX5_mayWish_30 : decode cX5_mayWish 30 = .ok (.iload_n 1, 1) := by decide +kernel
theorem dX5_mayWish_31 : decode cX5_mayWish 31 = .ok (.invokevirtual 158, 3) := by decide +kernel
theorem dX5_mayWish_34 : decode cX5_mayWish 34 = .ok (.bipush 20, 2) := by decide +kernel
theorem dX5_mayWish_36 : decode cX5_mayWish 36 = .ok (.idiv, 1) := by decide +kernel
theorem dX5_mayWish_37 : decode cX5_mayWish 37 = .ok (.iload_n 2, 1) := by decide +kernel
theorem dX5_mayWish_38 : decode cX5_mayWish 38 = .ok (.if_icmp .eq 7, 3) := by decide +kernel
theorem dX5_mayWish_41 : decode cX5_mayWish 41 = .ok (.iconst 1, 1) := by decide +kernel
theorem dX5_mayWish_42 : decode cX5_mayWish 42 = .ok (.goto 4, 3) := by decide +kernel
theorem dX5_mayWish_45 : decode cX5_mayWish 45 = .ok (.iconst 0, 1) := by decide +kernel
theorem dX5_mayWish_46 : decode cX5_mayWish 46 = .ok (.ireturn, 1) := by decide +kernel
theorem dX5_wish_0 : decode cX5_wish 0 = .ok (.aload_n 0, 1) := by decide +kernel
theorem dX5_wish_1 : decode cX5_wish 1 = .ok (.aload_n 0, 1) := by decide +kernel
theorem dX5_wish_2 : decode cX5_wish 2 = .ok (.iload_n 1, 1) := by decide +kernel
theorem dX5_wish_3 : decode cX5_wish 3 = .ok (.invokevirtual 143, 3) := by decide +kernel
theorem dX5_wish_6 : decode cX5_wish 6 = .ok (.ifCond .eq 11, 3) := by decide +kernel
theorem dX5_wish_9 : decode cX5_wish 9 = .ok (.aload_n 0, 1) := by decide +kernel
theorem dX5_wish_10 : decode cX5_wish 10 = .ok (.iload_n 2, 1) := by decide +kernel
theorem dX5_wish_11 : decode cX5_wish 11 = .ok (.invokevirtual 67, 3) := by decide +kernel
theorem dX5_wish_14 : decode cX5_wish 14 = .ok (.ifCond .ne 7, 3) := by decide +kernel
theorem dX5_wish_17 : decode cX5_wish 17 = .ok (.iconst 1, 1) := by decide +kernel
theorem dX5_wish_18 : decode cX5_wish 18 = .ok (.goto 17, 3) := by decide +kernel
theorem dX5_wish_21 : decode cX5_wish 21 = .ok (.aload_n 0, 1) := by decide +kernel
theorem dX5_wish_22 : decode cX5_wish 22 = .ok (.iload_n 1, 1) := by decide +kernel
theorem dX5_wish_23 : decode cX5_wish 23 = .ok (.iload_n 2, 1) := by decide +kernel
theorem dX5_wish_24 : decode cX5_wish 24 = .ok (.invokevirtual 164, 3) := by decide +kernel
theorem dX5_wish_27 : decode cX5_wish 27 = .ok (.ifCond .eq 7, 3) := by decide +kernel
theorem dX5_wish_30 : decode cX5_wish 30 = .ok (.iconst 0, 1) := by decide +kernel
theorem dX5_wish_31 : decode cX5_wish 31 = .ok (.goto 4, 3) := by decide +kernel
theorem dX5_wish_34 : decode cX5_wish 34 = .ok (.iconst 2, 1) := by decide +kernel
theorem dX5_wish_35 : decode cX5_wish 35 = .ok (.invokevirtual 63, 3) := by decide +kernel
theorem dX5_wish_38 : decode cX5_wish 38 = .ok (.ifCond .ne 5, 3) := by decide +kernel
theorem dX5_wish_41 : decode cX5_wish 41 = .ok (.iconst 0, 1) := by decide +kernel
theorem dX5_wish_42 : decode cX5_wish 42 = .ok (.ireturn, 1) := by decide +kernel
theorem dX5_wish_43 : decode cX5_wish 43 = .ok (.aload_n 0, 1) := by decide +kernel
theorem dX5_wish_44 : decode cX5_wish 44 = .ok (.getfield 34, 3) := by decide +kernel
theorem dX5_wish_47 : decode cX5_wish 47 = .ok (.iload_n 1, 1) := by decide +kernel
theorem dX5_wish_48 : decode cX5_wish 48 = .ok (.iaload, 1) := by decide +kernel
theorem dX5_wish_49 : decode cX5_wish 49 = .ok (.istore_n 3, 1) := by decide +kernel
theorem dX5_wish_50 : decode cX5_wish 50 = .ok (.aload_n 0, 1) := by decide +kernel
theorem dX5_wish_51 : decode cX5_wish 51 = .ok (.getfield 34, 3) := by decide +kernel
theorem dX5_wish_54 : decode cX5_wish 54 = .ok (.iload_n 1, 1) := by decide +kernel
theorem dX5_wish_55 : decode cX5_wish 55 = .ok (.iload_n 2, 1) := by decide +kernel
theorem dX5_wish_56 : decode cX5_wish 56 = .ok (.iastore, 1) := by decide +kernel
theorem dX5_wish_57 : decode cX5_wish 57 = .ok (.iload_n 3, 1) := by decide +kernel
theorem dX5_wish_58 : decode cX5_wish 58 = .ok (.ireturn, 1) := by decide +kernel
theorem dX5_hasWish_0 : decode cX5_hasWish 0 = .ok (.aload_n 0, 1) := by decide +kernel
theorem dX5_hasWish_1 : decode cX5_hasWish 1 = .ok (.getfield 22, 3) := by decide +kernel
theorem dX5_hasWish_4 : decode cX5_hasWish 4 = .ok (.iload_n 1, 1) := by decide +kernel
theorem dX5_hasWish_5 : decode cX5_hasWish 5 = .ok (.iaload, 1) := by decide +kernel
theorem dX5_hasWish_6 : decode cX5_hasWish 6 = .ok (.iconst 1, 1) := by decide +kernel
theorem dX5_hasWish_7 : decode cX5_hasWish 7 = .ok (.if_icmp .ne 16, 3) := by decide +kernel
theorem dX5_hasWish_10 : decode cX5_hasWish 10 = .ok (.aload_n 0, 1) := by decide +kernel
theorem dX5_hasWish_11 : decode cX5_hasWish 11 = .ok (.getfield 34, 3) := by decide +kernel
theorem dX5_hasWish_14 : decode cX5_hasWish 14 = .ok (.iload_n 1, 1) := by decide +kernel
theorem dX5_hasWish_15 : decode cX5_hasWish 15 = .ok (.iaload, 1) := by decide +kernel
theorem dX5_hasWish_16 : decode cX5_hasWish 16 = .ok (.ifCond .lt 7, 3) := by decide +kernel
theorem dX5_hasWish_19 : decode cX5_hasWish 19 = .ok (.iconst 1, 1) := by decide +kernel
theorem dX5_hasWish_20 : decode cX5_hasWish 20 = .ok (.goto 4, 3) := by decide +kernel
theorem dX5_hasWish_23 : decode cX5_hasWish 23 = .ok (.iconst 0, 1) := by decide +kernel
theorem dX5_hasWish_24 : decode cX5_hasWish 24 = .ok (.ireturn, 1) := by decide +kernel
theorem dX5_laysFar_0 : decode cX5_laysFar 0 = .ok (.iconst 1, 1) := by decide +kernel
theorem dX5_laysFar_1 : decode cX5_laysFar 1 = .ok (.istore_n 3, 1) := by decide +kernel
theorem dX5_laysFar_2 : decode cX5_laysFar 2 = .ok (.iload_n 3, 1) := by decide +kernel
theorem dX5_laysFar_3 : decode cX5_laysFar 3 = .ok (.aload_n 0, 1) := by decide +kernel
theorem dX5_laysFar_4 : decode cX5_laysFar 4 = .ok (.getfield 106, 3) := by decide +kernel
theorem dX5_laysFar_7 : decode cX5_laysFar 7 = .ok (.if_icmp .gt 113, 3) := by decide +kernel
theorem dX5_laysFar_10 : decode cX5_laysFar 10 = .ok (.aload_n 0, 1) := by decide +kernel
theorem dX5_laysFar_11 : decode cX5_laysFar 11 = .ok (.iload_n 3, 1) := by decide +kernel
theorem dX5_laysFar_12 : decode cX5_laysFar 12 = .ok (.invokevirtual 167, 3) := by decide +kernel
theorem dX5_laysFar_15 : decode cX5_laysFar 15 = .ok (.ifCond .eq 16, 3) := by decide +kernel
theorem dX5_laysFar_18 : decode cX5_laysFar 18 = .ok (.aload_n 0, 1) := by decide +kernel
theorem dX5_laysFar_19 : decode cX5_laysFar 19 = .ok (.iload_n 3, 1) := by decide +kernel
theorem dX5_laysFar_20 : decode cX5_laysFar 20 = .ok (.invokevirtual 146, 3) := by decide +kernel
theorem dX5_laysFar_23 : decode cX5_laysFar 23 = .ok (.iload_n 2, 1) := by decide +kernel
theorem dX5_laysFar_24 : decode cX5_laysFar 24 = .ok (.if_icmp .ne 7, 3) := by decide +kernel
theorem dX5_laysFar_27 : decode cX5_laysFar 27 = .ok (.iconst 1, 1) := by decide +kernel
theorem dX5_laysFar_28 : decode cX5_laysFar 28 = .ok (.goto 4, 3) := by decide +kernel
theorem dX5_laysFar_31 : decode cX5_laysFar 31 = .ok (.iconst 0, 1) := by decide +kernel
theorem dX5_laysFar_32 : decode cX5_laysFar 32 = .ok (.istore 4, 2) := by decide +kernel
theorem dX5_laysFar_34 : decode cX5_laysFar 34 = .ok (.iload 4, 2) := by decide +kernel
theorem dX5_laysFar_36 : decode cX5_laysFar 36 = .ok (.ifCond .eq 39, 3) := by decide +kernel
theorem dX5_laysFar_39 : decode cX5_laysFar 39 = .ok (.aload_n 0, 1) := by decide +kernel
theorem dX5_laysFar_40 : decode cX5_laysFar 40 = .ok (.aload_n 0, 1) := by decide +kernel
theorem dX5_laysFar_41 : decode cX5_laysFar 41 = .ok (.getfield 34, 3) := by decide +kernel
theorem dX5_laysFar_44 : decode cX5_laysFar 44 = .ok (.iload_n 3, 1) := by decide +kernel
theorem dX5_laysFar_45 : decode cX5_laysFar 45 = .ok (.iaload, 1) := by decide +kernel
theorem dX5_laysFar_46 : decode cX5_laysFar 46 = .ok (.iload_n 2, 1) := by decide +kernel
theorem dX5_laysFar_47 : decode cX5_laysFar 47 = .ok (.iconst 0, 1) := by decide +kernel
theorem dX5_laysFar_48 : decode cX5_laysFar 48 = .ok (.invokevirtual 95, 3) := by decide +kernel
theorem dX5_laysFar_51 : decode cX5_laysFar 51 = .ok (.ifCond .ge 20, 3) := by decide +kernel
theorem dX5_laysFar_54 : decode cX5_laysFar 54 = .ok (.aload_n 0, 1) := by decide +kernel
theorem dX5_laysFar_55 : decode cX5_laysFar 55 = .ok (.getfield 34, 3) := by decide +kernel
theorem dX5_laysFar_58 : decode cX5_laysFar 58 = .ok (.iload_n 3, 1) := by decide +kernel
theorem dX5_laysFar_59 : decode cX5_laysFar 59 = .ok (.iaload, 1) := by decide +kernel
theorem dX5_laysFar_60 : decode cX5_laysFar 60 = .ok (.aload_n 0, 1) := by decide +kernel
theorem dX5_laysFar_61 : decode cX5_laysFar 61 = .ok (.iload_n 1, 1) := by decide +kernel
theorem dX5_laysFar_62 : decode cX5_laysFar 62 = .ok (.invokevirtual 158, 3) := by decide +kernel
theorem dX5_laysFar_65 : decode cX5_laysFar 65 = .ok (.bipush 20, 2) := by decide +kernel
theorem dX5_laysFar_67 : decode cX5_laysFar 67 = .ok (.idiv, 1) := by decide +kernel
theorem dX5_laysFar_68 : decode cX5_laysFar 68 = .ok (.if_icmp .ne 7, 3) := by decide +kernel
theorem dX5_laysFar_71 : decode cX5_laysFar 71 = .ok (.iconst 1, 1) := by decide +kernel
theorem dX5_laysFar_72 : decode cX5_laysFar 72 = .ok (.goto 4, 3) := by decide +kernel
theorem dX5_laysFar_75 : decode cX5_laysFar 75 = .ok (.iconst 0, 1) := by decide +kernel
theorem dX5_laysFar_76 : decode cX5_laysFar 76 = .ok (.istore 5, 2) := by decide +kernel
theorem dX5_laysFar_78 : decode cX5_laysFar 78 = .ok (.aload_n 0, 1) := by decide +kernel
theorem dX5_laysFar_79 : decode cX5_laysFar 79 = .ok (.getfield 43, 3) := by decide +kernel
theorem dX5_laysFar_82 : decode cX5_laysFar 82 = .ok (.iload_n 3, 1) := by decide +kernel
theorem dX5_laysFar_83 : decode cX5_laysFar 83 = .ok (.iload 5, 2) := by decide +kernel
theorem dX5_laysFar_85 : decode cX5_laysFar 85 = .ok (.ifCond .eq 7, 3) := by decide +kernel
theorem dX5_laysFar_88 : decode cX5_laysFar 88 = .ok (.iconst 1, 1) := by decide +kernel
theorem dX5_laysFar_89 : decode cX5_laysFar 89 = .ok (.goto 4, 3) := by decide +kernel
theorem dX5_laysFar_92 : decode cX5_laysFar 92 = .ok (.iconst 0, 1) := by decide +kernel
theorem dX5_laysFar_93 : decode cX5_laysFar 93 = .ok (.iastore, 1) := by decide +kernel
theorem dX5_laysFar_94 : decode cX5_laysFar 94 = .ok (.aload_n 0, 1) := by decide +kernel
theorem dX5_laysFar_95 : decode cX5_laysFar 95 = .ok (.getfield 49, 3) := by decide +kernel
theorem dX5_laysFar_98 : decode cX5_laysFar 98 = .ok (.iload_n 3, 1) := by decide +kernel
theorem dX5_laysFar_99 : decode cX5_laysFar 99 = .ok (.iload 4, 2) := by decide +kernel
theorem dX5_laysFar_101 : decode cX5_laysFar 101 = .ok (.ifCond .eq 11, 3) := by decide +kernel
theorem dX5_laysFar_104 : decode cX5_laysFar 104 = .ok (.aload_n 0, 1) := by decide +kernel
theorem dX5_laysFar_105 : decode cX5_laysFar 105 = .ok (.iload_n 3, 1) := by decide +kernel
theorem dX5_laysFar_106 : decode cX5_laysFar 106 = .ok (.invokevirtual 158, 3) := by decide +kernel
theorem dX5_laysFar_109 : decode cX5_laysFar 109 = .ok (.goto 4, 3) := by decide +kernel
theorem dX5_laysFar_112 : decode cX5_laysFar 112 = .ok (.iconst (-1), 1) := by decide +kernel
theorem dX5_laysFar_113 : decode cX5_laysFar 113 = .ok (.iastore, 1) := by decide +kernel
theorem dX5_laysFar_114 : decode cX5_laysFar 114 = .ok (.iinc 3 1, 3) := by decide +kernel
theorem dX5_laysFar_117 : decode cX5_laysFar 117 = .ok (.goto (-115), 3) := by decide +kernel
theorem dX5_laysFar_120 : decode cX5_laysFar 120 = .ok (.iconst 1, 1) := by decide +kernel
theorem dX5_laysFar_121 : decode cX5_laysFar 121 = .ok (.istore_n 3, 1) := by decide +kernel
theorem dX5_laysFar_122 : decode cX5_laysFar 122 = .ok (.iload_n 3, 1) := by decide +kernel
theorem dX5_laysFar_123 : decode cX5_laysFar 123 = .ok (.aload_n 0, 1) := by decide +kernel
theorem dX5_laysFar_124 : decode cX5_laysFar 124 = .ok (.getfield 106, 3) := by decide +kernel
theorem dX5_laysFar_127 : decode cX5_laysFar 127 = .ok (.if_icmp .ge 101, 3) := by decide +kernel
theorem dX5_laysFar_130 : decode cX5_laysFar 130 = .ok (.iconst 1, 1) := by decide +kernel
theorem dX5_laysFar_131 : decode cX5_laysFar 131 = .ok (.istore 4, 2) := by decide +kernel
theorem dX5_laysFar_133 : decode cX5_laysFar 133 = .ok (.iload 4, 2) := by decide +kernel
theorem dX5_laysFar_135 : decode cX5_laysFar 135 = .ok (.aload_n 0, 1) := by decide +kernel
theorem dX5_laysFar_136 : decode cX5_laysFar 136 = .ok (.getfield 106, 3) := by decide +kernel
theorem dX5_laysFar_139 : decode cX5_laysFar 139 = .ok (.if_icmp .gt 83, 3) := by decide +kernel
theorem dX5_laysFar_142 : decode cX5_laysFar 142 = .ok (.iconst 1, 1) := by decide +kernel
theorem dX5_laysFar_143 : decode cX5_laysFar 143 = .ok (.istore 5, 2) := by decide +kernel
theorem dX5_laysFar_145 : decode cX5_laysFar 145 = .ok (.iload 5, 2) := by decide +kernel
theorem dX5_laysFar_147 : decode cX5_laysFar 147 = .ok (.aload_n 0, 1) := by decide +kernel
theorem dX5_laysFar_148 : decode cX5_laysFar 148 = .ok (.getfield 106, 3) := by decide +kernel
theorem dX5_laysFar_151 : decode cX5_laysFar 151 = .ok (.if_icmp .gt 65, 3) := by decide +kernel
theorem dX5_laysFar_154 : decode cX5_laysFar 154 = .ok (.aload_n 0, 1) := by decide +kernel
theorem dX5_laysFar_155 : decode cX5_laysFar 155 = .ok (.getfield 49, 3) := by decide +kernel
theorem dX5_laysFar_158 : decode cX5_laysFar 158 = .ok (.iload 4, 2) := by decide +kernel
theorem dX5_laysFar_160 : decode cX5_laysFar 160 = .ok (.iaload, 1) := by decide +kernel
theorem dX5_laysFar_161 : decode cX5_laysFar 161 = .ok (.ifCond .lt 55, 3) := by decide +kernel
theorem dX5_laysFar_164 : decode cX5_laysFar 164 = .ok (.aload_n 0, 1) := by decide +kernel
theorem dX5_laysFar_165 : decode cX5_laysFar 165 = .ok (.getfield 43, 3) := by decide +kernel
theorem dX5_laysFar_168 : decode cX5_laysFar 168 = .ok (.iload 4, 2) := by decide +kernel
theorem dX5_laysFar_170 : decode cX5_laysFar 170 = .ok (.iaload, 1) := by decide +kernel
theorem dX5_laysFar_171 : decode cX5_laysFar 171 = .ok (.ifCond .ne 45, 3) := by decide +kernel
theorem dX5_laysFar_174 : decode cX5_laysFar 174 = .ok (.aload_n 0, 1) := by decide +kernel
theorem dX5_laysFar_175 : decode cX5_laysFar 175 = .ok (.getfield 43, 3) := by decide +kernel
theorem dX5_laysFar_178 : decode cX5_laysFar 178 = .ok (.iload 4, 2) := by decide +kernel
theorem dX5_laysFar_180 : decode cX5_laysFar 180 = .ok (.aload_n 0, 1) := by decide +kernel
theorem dX5_laysFar_181 : decode cX5_laysFar 181 = .ok (.iload 4, 2) := by decide +kernel
theorem dX5_laysFar_183 : decode cX5_laysFar 183 = .ok (.iload 5, 2) := by decide +kernel
theorem dX5_laysFar_185 : decode cX5_laysFar 185 = .ok (.invokevirtual 170, 3) := by decide +kernel
theorem dX5_laysFar_188 : decode cX5_laysFar 188 = .ok (.ifCond .eq 20, 3) := by decide +kernel
theorem dX5_laysFar_191 : decode cX5_laysFar 191 = .ok (.aload_n 0, 1) := by decide +kernel
theorem dX5_laysFar_192 : decode cX5_laysFar 192 = .ok (.getfield 43, 3) := by decide +kernel
theorem dX5_laysFar_195 : decode cX5_laysFar 195 = .ok (.iload 5, 2) := by decide +kernel
theorem dX5_laysFar_197 : decode cX5_laysFar 197 = .ok (.iaload, 1) := by decide +kernel
theorem dX5_laysFar_198 : decode cX5_laysFar 198 = .ok (.iload_n 3, 1) := by decide +kernel
theorem dX5_laysFar_199 : decode cX5_laysFar 199 = .ok (.if_icmp .ne 9, 3) := by decide +kernel
theorem dX5_laysFar_202 : decode cX5_laysFar 202 = .ok (.iload_n 3, 1) := by decide +kernel
theorem dX5_laysFar_203 : decode cX5_laysFar 203 = .ok (.iconst 1, 1) := by decide +kernel
theorem dX5_laysFar_204 : decode cX5_laysFar 204 = .ok (.iadd, 1) := by decide +kernel
theorem dX5_laysFar_205 : decode cX5_laysFar 205 = .ok (.goto 4, 3) := by decide +kernel
theorem dX5_laysFar_208 : decode cX5_laysFar 208 = .ok (.iconst 0, 1) := by decide +kernel
theorem dX5_laysFar_209 : decode cX5_laysFar 209 = .ok (.iastore, 1) := by decide +kernel
theorem dX5_laysFar_210 : decode cX5_laysFar 210 = .ok (.iinc 5 1, 3) := by decide +kernel
theorem dX5_laysFar_213 : decode cX5_laysFar 213 = .ok (.goto (-68), 3) := by decide +kernel
theorem dX5_laysFar_216 : decode cX5_laysFar 216 = .ok (.iinc 4 1, 3) := by decide +kernel
theorem dX5_laysFar_219 : decode cX5_laysFar 219 = .ok (.goto (-86), 3) := by decide +kernel
theorem dX5_laysFar_222 : decode cX5_laysFar 222 = .ok (.iinc 3 1, 3) := by decide +kernel
theorem dX5_laysFar_225 : decode cX5_laysFar 225 = .ok (.goto (-103), 3) := by decide +kernel
theorem dX5_laysFar_228 : decode cX5_laysFar 228 = .ok (.return_, 1) := by decide +kernel
theorem dX5_follows_0 : decode cX5_follows 0 = .ok (.aload_n 0, 1) := by decide +kernel
theorem dX5_follows_1 : decode cX5_follows 1 = .ok (.getfield 49, 3) := by decide +kernel
theorem dX5_follows_4 : decode cX5_follows 4 = .ok (.iload_n 2, 1) := by decide +kernel
theorem dX5_follows_5 : decode cX5_follows 5 = .ok (.iaload, 1) := by decide +kernel
theorem dX5_follows_6 : decode cX5_follows 6 = .ok (.ifCond .lt 25, 3) := by decide +kernel
theorem dX5_follows_9 : decode cX5_follows 9 = .ok (.aload_n 0, 1) := by decide +kernel
theorem dX5_follows_10 : decode cX5_follows 10 = .ok (.getfield 49, 3) := by decide +kernel
theorem dX5_follows_13 : decode cX5_follows 13 = .ok (.iload_n 2, 1) := by decide +kernel
theorem dX5_follows_14 : decode cX5_follows 14 = .ok (.iaload, 1) := by decide +kernel
theorem dX5_follows_15 : decode cX5_follows 15 = .ok (.bipush 20, 2) := by decide +kernel
theorem dX5_follows_17 : decode cX5_follows 17 = .ok (.idiv, 1) := by decide +kernel
theorem dX5_follows_18 : decode cX5_follows 18 = .ok (.aload_n 0, 1) := by decide +kernel
theorem dX5_follows_19 : decode cX5_follows 19 = .ok (.getfield 34, 3) := by decide +kernel
theorem dX5_follows_22 : decode cX5_follows 22 = .ok (.iload_n 1, 1) := by decide +kernel
theorem dX5_follows_23 : decode cX5_follows 23 = .ok (.iaload, 1) := by decide +kernel
theorem dX5_follows_24 : decode cX5_follows 24 = .ok (.if_icmp .ne 7, 3) := by decide +kernel
theorem dX5_follows_27 : decode cX5_follows 27 = .ok (.iconst 1, 1) := by decide +kernel
theorem dX5_follows_28 : decode cX5_follows 28 = .ok (.goto 4, 3) := by decide +kernel
theorem dX5_follows_31 : decode cX5_follows 31 = .ok (.iconst 0, 1) := by decide +kernel
theorem dX5_follows_32 : decode cX5_follows 32 = .ok (.ireturn, 1) := by decide +kernel
theorem dX5_exchange_0 : decode cX5_exchange 0 = .ok (.aload_n 0, 1) := by decide +kernel
theorem dX5_exchange_1 : decode cX5_exchange 1 = .ok (.iload_n 1, 1) := by decide +kernel
theorem dX5_exchange_2 : decode cX5_exchange 2 = .ok (.invokevirtual 143, 3) := by decide +kernel
theorem dX5_exchange_5 : decode cX5_exchange 5 = .ok (.ifCond .eq 15, 3) := by decide +kernel
theorem dX5_exchange_8 : decode cX5_exchange 8 = .ok (.aload_n 0, 1) := by decide +kernel
theorem dX5_exchange_9 : decode cX5_exchange 9 = .ok (.iload_n 1, 1) := by decide +kernel
theorem dX5_exchange_10 : decode cX5_exchange 10 = .ok (.invokevirtual 167, 3) := by decide +kernel
theorem dX5_exchange_13 : decode cX5_exchange 13 = .ok (.ifCond .eq 7, 3) := by decide +kernel
theorem dX5_exchange_16 : decode cX5_exchange 16 = .ok (.iconst 1, 1) := by decide +kernel
theorem dX5_exchange_17 : decode cX5_exchange 17 = .ok (.goto 4, 3) := by decide +kernel
theorem dX5_exchange_20 : decode cX5_exchange 20 = .ok (.iconst 0, 1) := by decide +kernel
theorem dX5_exchange_21 : decode cX5_exchange 21 = .ok (.istore_n 2, 1) := by decide +kernel
theorem dX5_exchange_22 : decode cX5_exchange 22 = .ok (.iload_n 2, 1) := by decide +kernel
theorem dX5_exchange_23 : decode cX5_exchange 23 = .ok (.ifCond .eq 11, 3) := by decide +kernel
theorem dX5_exchange_26 : decode cX5_exchange 26 = .ok (.aload_n 0, 1) := by decide +kernel
theorem dX5_exchange_27 : decode cX5_exchange 27 = .ok (.iload_n 1, 1) := by decide +kernel
theorem dX5_exchange_28 : decode cX5_exchange 28 = .ok (.invokevirtual 146, 3) := by decide +kernel
theorem dX5_exchange_31 : decode cX5_exchange 31 = .ok (.goto 4, 3) := by decide +kernel
theorem dX5_exchange_34 : decode cX5_exchange 34 = .ok (.iconst 0, 1) := by decide +kernel
theorem dX5_exchange_35 : decode cX5_exchange 35 = .ok (.istore_n 3, 1) := by decide +kernel
theorem dX5_exchange_36 : decode cX5_exchange 36 = .ok (.iload_n 2, 1) := by decide +kernel
theorem dX5_exchange_37 : decode cX5_exchange 37 = .ok (.ifCond .eq 9, 3) := by decide +kernel
theorem dX5_exchange_40 : decode cX5_exchange 40 = .ok (.aload_n 0, 1) := by decide +kernel
theorem dX5_exchange_41 : decode cX5_exchange 41 = .ok (.iload_n 1, 1) := by decide +kernel
theorem dX5_exchange_42 : decode cX5_exchange 42 = .ok (.iload_n 3, 1) := by decide +kernel
theorem dX5_exchange_43 : decode cX5_exchange 43 = .ok (.invokevirtual 173, 3) := by decide +kernel
theorem dX5_exchange_46 : decode cX5_exchange 46 = .ok (.aload_n 0, 1) := by decide +kernel
theorem dX5_exchange_47 : decode cX5_exchange 47 = .ok (.aload_n 0, 1) := by decide +kernel
theorem dX5_exchange_48 : decode cX5_exchange 48 = .ok (.iload_n 1, 1) := by decide +kernel
theorem dX5_exchange_49 : decode cX5_exchange 49 = .ok (.invokevirtual 143, 3) := by decide +kernel
theorem dX5_exchange_52 : decode cX5_exchange 52 = .ok (.ifCond .ne 7, 3) := by decide +kernel
theorem dX5_exchange_55 : decode cX5_exchange 55 = .ok (.iconst 1, 1) := by decide +kernel
theorem dX5_exchange_56 : decode cX5_exchange 56 = .ok (.goto 21, 3) := by decide +kernel
theorem dX5_exchange_59 : decode cX5_exchange 59 = .ok (.iload_n 2, 1) := by decide +kernel
theorem dX5_exchange_60 : decode cX5_exchange 60 = .ok (.ifCond .eq 12, 3) := by decide +kernel
theorem dX5_exchange_63 : decode cX5_exchange 63 = .ok (.aload_n 0, 1) := by decide +kernel
theorem dX5_exchange_64 : decode cX5_exchange 64 = .ok (.getfield 43, 3) := by decide +kernel
theorem dX5_exchange_67 : decode cX5_exchange 67 = .ok (.iload_n 1, 1) := by decide +kernel
theorem dX5_exchange_68 : decode cX5_exchange 68 = .ok (.iaload, 1) := by decide +kernel
theorem dX5_exchange_69 : decode cX5_exchange 69 = .ok (.ifCond .ne 7, 3) := by decide +kernel
theorem dX5_exchange_72 : decode cX5_exchange 72 = .ok (.iconst 2, 1) := by decide +kernel
theorem dX5_exchange_73 : decode cX5_exchange 73 = .ok (.goto 4, 3) := by decide +kernel
theorem dX5_exchange_76 : decode cX5_exchange 76 = .ok (.iconst 0, 1) := by decide +kernel
theorem dX5_exchange_77 : decode cX5_exchange 77 = .ok (.invokevirtual 63, 3) := by decide +kernel
theorem dX5_exchange_80 : decode cX5_exchange 80 = .ok (.ifCond .ne 5, 3) := by decide +kernel
theorem dX5_exchange_83 : decode cX5_exchange 83 = .ok (.iconst 0, 1) := by decide +kernel
theorem dX5_exchange_84 : decode cX5_exchange 84 = .ok (.ireturn, 1) := by decide +kernel
theorem dX5_exchange_85 : decode cX5_exchange 85 = .ok (.aload_n 0, 1) := by decide +kernel
theorem dX5_exchange_86 : decode cX5_exchange 86 = .ok (.getfield 43, 3) := by decide +kernel
theorem dX5_exchange_89 : decode cX5_exchange 89 = .ok (.iload_n 1, 1) := by decide +kernel
theorem dX5_exchange_90 : decode cX5_exchange 90 = .ok (.iaload, 1) := by decide +kernel
theorem dX5_exchange_91 : decode cX5_exchange 91 = .ok (.istore 4, 2) := by decide +kernel
theorem dX5_exchange_93 : decode cX5_exchange 93 = .ok (.aload_n 0, 1) := by decide +kernel
theorem dX5_exchange_94 : decode cX5_exchange 94 = .ok (.getfield 46, 3) := by decide +kernel
theorem dX5_exchange_97 : decode cX5_exchange 97 = .ok (.iconst 0, 1) := by decide +kernel
theorem dX5_exchange_98 : decode cX5_exchange 98 = .ok (.iload_n 1, 1) := by decide +kernel
theorem dX5_exchange_99 : decode cX5_exchange 99 = .ok (.iastore, 1) := by decide +kernel
theorem dX5_exchange_100 : decode cX5_exchange 100 = .ok (.iconst 1, 1) := by decide +kernel
theorem dX5_exchange_101 : decode cX5_exchange 101 = .ok (.istore 5, 2) := by decide +kernel
theorem dX5_exchange_103 : decode cX5_exchange 103 = .ok (.iload 5, 2) := by decide +kernel
theorem dX5_exchange_105 : decode cX5_exchange 105 = .ok (.iload 4, 2) := by decide +kernel
theorem dX5_exchange_107 : decode cX5_exchange 107 = .ok (.if_icmp .ge 60, 3) := by decide +kernel
theorem dX5_exchange_110 : decode cX5_exchange 110 = .ok (.iconst 1, 1) := by decide +kernel
theorem dX5_exchange_111 : decode cX5_exchange 111 = .ok (.istore 6, 2) := by decide +kernel
theorem dX5_exchange_113 : decode cX5_exchange 113 = .ok (.aload_n 0, 1) := by decide +kernel
theorem dX5_exchange_114 : decode cX5_exchange 114 = .ok (.aload_n 0, 1) := by decide +kernel
theorem dX5_exchange_115 : decode cX5_exchange 115 = .ok (.getfield 46, 3) := by decide +kernel
theorem dX5_exchange_118 : decode cX5_exchange 118 = .ok (.iload 5, 2) := by decide +kernel
theorem dX5_exchange_120 : decode cX5_exchange 120 = .ok (.iconst 1, 1) := by decide +kernel
theorem dX5_exchange_121 : decode cX5_exchange 121 = .ok (.isub, 1) := by decide +kernel
theorem dX5_exchange_122 : decode cX5_exchange 122 = .ok (.iaload, 1) := by decide +kernel
theorem dX5_exchange_123 : decode cX5_exchange 123 = .ok (.iload 6, 2) := by decide +kernel
theorem dX5_exchange_125 : decode cX5_exchange 125 = .ok (.invokevirtual 170, 3) := by decide +kernel
theorem dX5_exchange_128 : decode cX5_exchange 128 = .ok (.ifCond .eq 18, 3) := by decide +kernel
theorem dX5_exchange_131 : decode cX5_exchange 131 = .ok (.aload_n 0, 1) := by decide +kernel
theorem dX5_exchange_132 : decode cX5_exchange 132 = .ok (.getfield 43, 3) := by decide +kernel
theorem dX5_exchange_135 : decode cX5_exchange 135 = .ok (.iload 6, 2) := by decide +kernel
theorem dX5_exchange_137 : decode cX5_exchange 137 = .ok (.iaload, 1) := by decide +kernel
theorem dX5_exchange_138 : decode cX5_exchange 138 = .ok (.iload 4, 2) := by decide +kernel
theorem dX5_exchange_140 : decode cX5_exchange 140 = .ok (.iload 5, 2) := by decide +kernel
theorem dX5_exchange_142 : decode cX5_exchange 142 = .ok (.isub, 1) := by decide +kernel
theorem dX5_exchange_143 : decode cX5_exchange 143 = .ok (.if_icmp .eq 9, 3) := by decide +kernel
theorem dX5_exchange_146 : decode cX5_exchange 146 = .ok (.iinc 6 1, 3) := by decide +kernel
theorem dX5_exchange_149 : decode cX5_exchange 149 = .ok (.goto (-36), 3) := by decide +kernel
theorem dX5_exchange_152 : decode cX5_exchange 152 = .ok (.aload_n 0, 1) := by decide +kernel
theorem dX5_exchange_153 : decode cX5_exchange 153 = .ok (.getfield 46, 3) := by decide +kernel
theorem dX5_exchange_156 : decode cX5_exchange 156 = .ok (.iload 5, 2) := by decide +kernel
theorem dX5_exchange_158 : decode cX5_exchange 158 = .ok (.iload 6, 2) := by decide +kernel
theorem dX5_exchange_160 : decode cX5_exchange 160 = .ok (.iastore, 1) := by decide +kernel
theorem dX5_exchange_161 : decode cX5_exchange 161 = .ok (.iinc 5 1, 3) := by decide +kernel
theorem dX5_exchange_164 : decode cX5_exchange 164 = .ok (.goto (-61), 3) := by decide +kernel
theorem dX5_exchange_167 : decode cX5_exchange 167 = .ok (.aload_n 0, 1) := by decide +kernel
theorem dX5_exchange_168 : decode cX5_exchange 168 = .ok (.iload 4, 2) := by decide +kernel
theorem dX5_exchange_170 : decode cX5_exchange 170 = .ok (.iload_n 3, 1) := by decide +kernel
theorem dX5_exchange_171 : decode cX5_exchange 171 = .ok (.invokevirtual 176, 3) := by decide +kernel
theorem dX5_exchange_174 : decode cX5_exchange 174 = .ok (.iload 4, 2) := by decide +kernel
theorem dX5_exchange_176 : decode cX5_exchange 176 = .ok (.ireturn, 1) := by decide +kernel
theorem dX5_changes_0 : decode cX5_changes 0 = .ok (.aload_n 0, 1) := by decide +kernel
theorem dX5_changes_1 : decode cX5_changes 1 = .ok (.getfield 46, 3) := by decide +kernel
theorem dX5_changes_4 : decode cX5_changes 4 = .ok (.iload_n 1, 1) := by decide +kernel
theorem dX5_changes_5 : decode cX5_changes 5 = .ok (.iconst 1, 1) := by decide +kernel
theorem dX5_changes_6 : decode cX5_changes 6 = .ok (.isub, 1) := by decide +kernel
theorem dX5_changes_7 : decode cX5_changes 7 = .ok (.iaload, 1) := by decide +kernel
theorem dX5_changes_8 : decode cX5_changes 8 = .ok (.istore_n 3, 1) := by decide +kernel
theorem dX5_changes_9 : decode cX5_changes 9 = .ok (.aload_n 0, 1) := by decide +kernel
theorem dX5_changes_10 : decode cX5_changes 10 = .ok (.aload_n 0, 1) := by decide +kernel
theorem dX5_changes_11 : decode cX5_changes 11 = .ok (.getfield 34, 3) := by decide +kernel
theorem dX5_changes_14 : decode cX5_changes 14 = .ok (.iload_n 3, 1) := by decide +kernel
theorem dX5_changes_15 : decode cX5_changes 15 = .ok (.iaload, 1) := by decide +kernel
theorem dX5_changes_16 : decode cX5_changes 16 = .ok (.iload_n 2, 1) := by decide +kernel
theorem dX5_changes_17 : decode cX5_changes 17 = .ok (.iconst 0, 1) := by decide +kernel
theorem dX5_changes_18 : decode cX5_changes 18 = .ok (.invokevirtual 95, 3) := by decide +kernel
theorem dX5_changes_21 : decode cX5_changes 21 = .ok (.istore 4, 2) := by decide +kernel
theorem dX5_changes_23 : decode cX5_changes 23 = .ok (.iload 4, 2) := by decide +kernel
theorem dX5_changes_25 : decode cX5_changes 25 = .ok (.ifCond .ge 17, 3) := by decide +kernel
theorem dX5_changes_28 : decode cX5_changes 28 = .ok (.aload_n 0, 1) := by decide +kernel
theorem dX5_changes_29 : decode cX5_changes 29 = .ok (.getfield 49, 3) := by decide +kernel
theorem dX5_changes_32 : decode cX5_changes 32 = .ok (.aload_n 0, 1) := by decide +kernel
theorem dX5_changes_33 : decode cX5_changes 33 = .ok (.getfield 46, 3) := by decide +kernel
theorem dX5_changes_36 : decode cX5_changes 36 = .ok (.iconst 0, 1) := by decide +kernel
theorem dX5_changes_37 : decode cX5_changes 37 = .ok (.iaload, 1) := by decide +kernel
theorem dX5_changes_38 : decode cX5_changes 38 = .ok (.iaload, 1) := by decide +kernel
theorem dX5_changes_39 : decode cX5_changes 39 = .ok (.goto 15, 3) := by decide +kernel
theorem dX5_changes_42 : decode cX5_changes 42 = .ok (.bipush 20, 2) := by decide +kernel
theorem dX5_changes_44 : decode cX5_changes 44 = .ok (.aload_n 0, 1) := by decide +kernel
theorem dX5_changes_45 : decode cX5_changes 45 = .ok (.getfield 34, 3) := by decide +kernel
theorem dX5_changes_48 : decode cX5_changes 48 = .ok (.iload_n 3, 1) := by decide +kernel
theorem dX5_changes_49 : decode cX5_changes 49 = .ok (.iaload, 1) := by decide +kernel
theorem dX5_changes_50 : decode cX5_changes 50 = .ok (.imul, 1) := by decide +kernel
theorem dX5_changes_51 : decode cX5_changes 51 = .ok (.iload 4, 2) := by decide +kernel
theorem dX5_changes_53 : decode cX5_changes 53 = .ok (.iadd, 1) := by decide +kernel
theorem dX5_changes_54 : decode cX5_changes 54 = .ok (.istore 5, 2) := by decide +kernel
theorem dX5_changes_56 : decode cX5_changes 56 = .ok (.iload 4, 2) := by decide +kernel
theorem dX5_changes_58 : decode cX5_changes 58 = .ok (.ifCond .lt 37, 3) := by decide +kernel
theorem dX5_changes_61 : decode cX5_changes 61 = .ok (.aload_n 0, 1) := by decide +kernel
theorem dX5_changes_62 : decode cX5_changes 62 = .ok (.aload_n 0, 1) := by decide +kernel
theorem dX5_changes_63 : decode cX5_changes 63 = .ok (.getfield 49, 3) := by decide +kernel
theorem dX5_changes_66 : decode cX5_changes 66 = .ok (.aload_n 0, 1) := by decide +kernel
theorem dX5_changes_67 : decode cX5_changes 67 = .ok (.getfield 46, 3) := by decide +kernel
theorem dX5_changes_70 : decode cX5_changes 70 = .ok (.iconst 0, 1) := by decide +kernel
theorem dX5_changes_71 : decode cX5_changes 71 = .ok (.iaload, 1) := by decide +kernel
theorem dX5_changes_72 : decode cX5_changes 72 = .ok (.iaload, 1) := by decide +kernel
theorem dX5_changes_73 : decode cX5_changes 73 = .ok (.bipush 20, 2) := by decide +kernel
theorem dX5_changes_75 : decode cX5_changes 75 = .ok (.idiv, 1) := by decide +kernel
theorem dX5_changes_76 : decode cX5_changes 76 = .ok (.aload_n 0, 1) := by decide +kernel
theorem dX5_changes_77 : decode cX5_changes 77 = .ok (.getfield 49, 3) := by decide +kernel
theorem dX5_changes_80 : decode cX5_changes 80 = .ok (.aload_n 0, 1) := by decide +kernel
theorem dX5_changes_81 : decode cX5_changes 81 = .ok (.getfield 46, 3) := by decide +kernel
theorem dX5_changes_84 : decode cX5_changes 84 = .ok (.iconst 0, 1) := by decide +kernel
theorem dX5_changes_85 : decode cX5_changes 85 = .ok (.iaload, 1) := by decide +kernel
theorem dX5_changes_86 : decode cX5_changes 86 = .ok (.iaload, 1) := by decide +kernel
theorem dX5_changes_87 : decode cX5_changes 87 = .ok (.bipush 20, 2) := by decide +kernel
theorem dX5_changes_89 : decode cX5_changes 89 = .ok (.irem, 1) := by decide +kernel
theorem dX5_changes_90 : decode cX5_changes 90 = .ok (.iload_n 2, 1) := by decide +kernel
theorem dX5_changes_91 : decode cX5_changes 91 = .ok (.iconst 0, 1) := by decide +kernel
theorem dX5_changes_92 : decode cX5_changes 92 = .ok (.invokevirtual 118, 3) := by decide +kernel
theorem dX5_changes_95 : decode cX5_changes 95 = .ok (.iconst 0, 1) := by decide +kernel
theorem dX5_changes_96 : decode cX5_changes 96 = .ok (.istore 6, 2) := by decide +kernel
theorem dX5_changes_98 : decode cX5_changes 98 = .ok (.iload 6, 2) := by decide +kernel
theorem dX5_changes_100 : decode cX5_changes 100 = .ok (.iload_n 1, 1) := by decide +kernel
theorem dX5_changes_101 : decode cX5_changes 101 = .ok (.if_icmp .ge 73, 3) := by decide +kernel
theorem dX5_changes_104 : decode cX5_changes 104 = .ok (.iload 6, 2) := by decide +kernel
theorem dX5_changes_106 : decode cX5_changes 106 = .ok (.iload_n 1, 1) := by decide +kernel
theorem dX5_changes_107 : decode cX5_changes 107 = .ok (.iconst 1, 1) := by decide +kernel
theorem dX5_changes_108 : decode cX5_changes 108 = .ok (.isub, 1) := by decide +kernel
theorem dX5_changes_109 : decode cX5_changes 109 = .ok (.if_icmp .ge 20, 3) := by decide +kernel
theorem dX5_changes_112 : decode cX5_changes 112 = .ok (.aload_n 0, 1) := by decide +kernel
theorem dX5_changes_113 : decode cX5_changes 113 = .ok (.getfield 49, 3) := by decide +kernel
theorem dX5_changes_116 : decode cX5_changes 116 = .ok (.aload_n 0, 1) := by decide +kernel
theorem dX5_changes_117 : decode cX5_changes 117 = .ok (.getfield 46, 3) := by decide +kernel
theorem dX5_changes_120 : decode cX5_changes 120 = .ok (.iload 6, 2) := by decide +kernel
theorem dX5_changes_122 : decode cX5_changes 122 = .ok (.iconst 1, 1) := by decide +kernel
theorem dX5_changes_123 : decode cX5_changes 123 = .ok (.iadd, 1) := by decide +kernel
theorem dX5_changes_124 : decode cX5_changes 124 = .ok (.iaload, 1) := by decide +kernel
theorem dX5_changes_125 : decode cX5_changes 125 = .ok (.iaload, 1) := by decide +kernel
theorem dX5_changes_126 : decode cX5_changes 126 = .ok (.goto 5, 3) := by decide +kernel
theorem dX5_changes_129 : decode cX5_changes 129 = .ok (.iload 5, 2) := by decide +kernel
theorem dX5_changes_131 : decode cX5_changes 131 = .ok (.istore 7, 2) := by decide +kernel
theorem dX5_changes_133 : decode cX5_changes 133 = .ok (.aload_n 0, 1) := by decide +kernel
theorem dX5_changes_134 : decode cX5_changes 134 = .ok (.iload 7, 2) := by decide +kernel
theorem dX5_changes_136 : decode cX5_changes 136 = .ok (.bipush 20, 2) := by decide +kernel
theorem dX5_changes_138 : decode cX5_changes 138 = .ok (.idiv, 1) := by decide +kernel
theorem dX5_changes_139 : decode cX5_changes 139 = .ok (.iload 7, 2) := by decide +kernel
theorem dX5_changes_141 : decode cX5_changes 141 = .ok (.bipush 20, 2) := by decide +kernel
theorem dX5_changes_143 : decode cX5_changes 143 = .ok (.irem, 1) := by decide +kernel
theorem dX5_changes_144 : decode cX5_changes 144 = .ok (.iload_n 2, 1) := by decide +kernel
theorem dX5_changes_145 : decode cX5_changes 145 = .ok (.aload_n 0, 1) := by decide +kernel
theorem dX5_changes_146 : decode cX5_changes 146 = .ok (.getfield 46, 3) := by decide +kernel
theorem dX5_changes_149 : decode cX5_changes 149 = .ok (.iload 6, 2) := by decide +kernel
theorem dX5_changes_151 : decode cX5_changes 151 = .ok (.iaload, 1) := by decide +kernel
theorem dX5_changes_152 : decode cX5_changes 152 = .ok (.invokevirtual 118, 3) := by decide +kernel
theorem dX5_changes_155 : decode cX5_changes 155 = .ok (.aload_n 0, 1) := by decide +kernel
theorem dX5_changes_156 : decode cX5_changes 156 = .ok (.getfield 34, 3) := by decide +kernel
theorem dX5_changes_159 : decode cX5_changes 159 = .ok (.aload_n 0, 1) := by decide +kernel
theorem dX5_changes_160 : decode cX5_changes 160 = .ok (.getfield 46, 3) := by decide +kernel
theorem dX5_changes_163 : decode cX5_changes 163 = .ok (.iload 6, 2) := by decide +kernel
theorem dX5_changes_165 : decode cX5_changes 165 = .ok (.iaload, 1) := by decide +kernel
theorem dX5_changes_166 : decode cX5_changes 166 = .ok (.iconst (-1), 1) := by decide +kernel
theorem dX5_changes_167 : decode cX5_changes 167 = .ok (.iastore, 1) := by decide +kernel
theorem dX5_changes_168 : decode cX5_changes 168 = .ok (.iinc 6 1, 3) := by decide +kernel
theorem dX5_changes_171 : decode cX5_changes 171 = .ok (.goto (-73), 3) := by decide +kernel
theorem dX5_changes_174 : decode cX5_changes 174 = .ok (.return_, 1) := by decide +kernel
