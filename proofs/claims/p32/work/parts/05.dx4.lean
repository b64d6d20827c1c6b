theorem dX4_init_0 : decode cX4_init 0 = .ok (.aload_n 0, 1) := by decide +kernel
theorem dX4_init_1 : decode cX4_init 1 = .ok (.invokespecial 1, 3) := by decide +kernel
theorem dX4_init_4 : decode cX4_init 4 = .ok (.aload_n 0, 1) := by decide +kernel
theorem dX4_init_5 : decode cX4_init 5 = .ok (.new 7, 3) := by decide +kernel
theorem dX4_init_8 : decode cX4_init 8 = .ok (.dup, 1) := by decide +kernel
theorem dX4_init_9 : decode cX4_init 9 = .ok (.invokespecial 9, 3) := by decide +kernel
theorem dX4_init_12 : decode cX4_init 12 = .ok (.putfield 10, 3) := by decide +kernel
theorem dX4_init_15 : decode cX4_init 15 = .ok (.aload_n 0, 1) := by decide +kernel
theorem dX4_init_16 : decode cX4_init 16 = .ok (.new 16, 3) := by decide +kernel
theorem dX4_init_19 : decode cX4_init 19 = .ok (.dup, 1) := by decide +kernel
theorem dX4_init_20 : decode cX4_init 20 = .ok (.invokespecial 18, 3) := by decide +kernel
theorem dX4_init_23 : decode cX4_init 23 = .ok (.putfield 19, 3) := by decide +kernel
theorem dX4_init_26 : decode cX4_init 26 = .ok (.aload_n 0, 1) := by decide +kernel
theorem dX4_init_27 : decode cX4_init 27 = .ok (.new 23, 3) := by decide +kernel
theorem dX4_init_30 : decode cX4_init 30 = .ok (.dup, 1) := by decide +kernel
theorem dX4_init_31 : decode cX4_init 31 = .ok (.aload_n 0, 1) := by decide +kernel
theorem dX4_init_32 : decode cX4_init 32 = .ok (.getfield 10, 3) := by decide +kernel
theorem dX4_init_35 : decode cX4_init 35 = .ok (.invokespecial 25, 3) := by decide +kernel
theorem dX4_init_38 : decode cX4_init 38 = .ok (.putfield 28, 3) := by decide +kernel
theorem dX4_init_41 : decode cX4_init 41 = .ok (.aload_n 0, 1) := by decide +kernel
theorem dX4_init_42 : decode cX4_init 42 = .ok (.new 32, 3) := by decide +kernel
theorem dX4_init_45 : decode cX4_init 45 = .ok (.dup, 1) := by decide +kernel
theorem dX4_init_46 : decode cX4_init 46 = .ok (.aload_n 0, 1) := by decide +kernel
theorem dX4_init_47 : decode cX4_init 47 = .ok (.getfield 10, 3) := by decide +kernel
theorem dX4_init_50 : decode cX4_init 50 = .ok (.aload_n 0, 1) := by decide +kernel
theorem dX4_init_51 : decode cX4_init 51 = .ok (.getfield 19, 3) := by decide +kernel
theorem dX4_init_54 : decode cX4_init 54 = .ok (.invokespecial 34, 3) := by decide +kernel
theorem dX4_init_57 : decode cX4_init 57 = .ok (.putfield 37, 3) := by decide +kernel
theorem dX4_init_60 : decode cX4_init 60 = .ok (.aload_n 0, 1) := by decide +kernel
theorem dX4_init_61 : decode cX4_init 61 = .ok (.iconst 0, 1) := by decide +kernel
theorem dX4_init_62 : decode cX4_init 62 = .ok (.putfield 41, 3) := by decide +kernel
theorem dX4_init_65 : decode cX4_init 65 = .ok (.aload_n 0, 1) := by decide +kernel
theorem dX4_init_66 : decode cX4_init 66 = .ok (.iconst 0, 1) := by decide +kernel
theorem dX4_init_67 : decode cX4_init 67 = .ok (.putfield 45, 3) := by decide +kernel
theorem dX4_init_70 : decode cX4_init 70 = .ok (.return_, 1) := by decide +kernel
theorem dX4_addRow_0 : decode cX4_addRow 0 = .ok (.iload_n 1, 1) := by decide +kernel
theorem dX4_addRow_1 : decode cX4_addRow 1 = .ok (.invokestatic 48, 3) := by decide +kernel
theorem dX4_addRow_4 : decode cX4_addRow 4 = .ok (.iload_n 2, 1) := by decide +kernel
theorem dX4_addRow_5 : decode cX4_addRow 5 = .ok (.iconst 0, 1) := by decide +kernel
theorem dX4_addRow_6 : decode cX4_addRow 6 = .ok (.sipush 1000, 3) := by decide +kernel
theorem dX4_addRow_9 : decode cX4_addRow 9 = .ok (.invokestatic 52, 3) := by decide +kernel
theorem dX4_addRow_12 : decode cX4_addRow 12 = .ok (.iload_n 3, 1) := by decide +kernel
theorem dX4_addRow_13 : decode cX4_addRow 13 = .ok (.iconst 0, 1) := by decide +kernel
theorem dX4_addRow_14 : decode cX4_addRow 14 = .ok (.sipush 10000, 3) := by decide +kernel
theorem dX4_addRow_17 : decode cX4_addRow 17 = .ok (.invokestatic 52, 3) := by decide +kernel
theorem dX4_addRow_20 : decode cX4_addRow 20 = .ok (.aload_n 0, 1) := by decide +kernel
theorem dX4_addRow_21 : decode cX4_addRow 21 = .ok (.getfield 10, 3) := by decide +kernel
theorem dX4_addRow_24 : decode cX4_addRow 24 = .ok (.invokevirtual 56, 3) := by decide +kernel
theorem dX4_addRow_27 : decode cX4_addRow 27 = .ok (.bipush 12, 2) := by decide +kernel
theorem dX4_addRow_29 : decode cX4_addRow 29 = .ok (.if_icmp .lt 13, 3) := by decide +kernel
theorem dX4_addRow_32 : decode cX4_addRow 32 = .ok (.new 60, 3) := by decide +kernel
theorem dX4_addRow_35 : decode cX4_addRow 35 = .ok (.dup, 1) := by decide +kernel
theorem dX4_addRow_36 : decode cX4_addRow 36 = .ok (.ldc 62, 2) := by decide +kernel
theorem dX4_addRow_38 : decode cX4_addRow 38 = .ok (.invokespecial 64, 3) := by decide +kernel
theorem dX4_addRow_41 : decode cX4_addRow 41 = .ok (.athrow, 1) := by decide +kernel
theorem dX4_addRow_42 : decode cX4_addRow 42 = .ok (.aload_n 0, 1) := by decide +kernel
theorem dX4_addRow_43 : decode cX4_addRow 43 = .ok (.getfield 10, 3) := by decide +kernel
theorem dX4_addRow_46 : decode cX4_addRow 46 = .ok (.iload_n 1, 1) := by decide +kernel
theorem dX4_addRow_47 : decode cX4_addRow 47 = .ok (.iload_n 2, 1) := by decide +kernel
theorem dX4_addRow_48 : decode cX4_addRow 48 = .ok (.iload_n 3, 1) := by decide +kernel
theorem dX4_addRow_49 : decode cX4_addRow 49 = .ok (.invokevirtual 67, 3) := by decide +kernel
theorem dX4_addRow_52 : decode cX4_addRow 52 = .ok (.ireturn, 1) := by decide +kernel
theorem dX4_toggleBlocked_0 : decode cX4_toggleBlocked 0 = .ok (.aload_n 0, 1) := by decide +kernel
theorem dX4_toggleBlocked_1 : decode cX4_toggleBlocked 1 = .ok (.iload_n 1, 1) := by decide +kernel
theorem dX4_toggleBlocked_2 : decode cX4_toggleBlocked 2 = .ok (.iload_n 2, 1) := by decide +kernel
theorem dX4_toggleBlocked_3 : decode cX4_toggleBlocked 3 = .ok (.invokevirtual 71, 3) := by decide +kernel
theorem dX4_toggleBlocked_6 : decode cX4_toggleBlocked 6 = .ok (.aload_n 0, 1) := by decide +kernel
theorem dX4_toggleBlocked_7 : decode cX4_toggleBlocked 7 = .ok (.getfield 10, 3) := by decide +kernel
theorem dX4_toggleBlocked_10 : decode cX4_toggleBlocked 10 = .ok (.iload_n 1, 1) := by decide +kernel
theorem dX4_toggleBlocked_11 : decode cX4_toggleBlocked 11 = .ok (.iload_n 2, 1) := by decide +kernel
theorem dX4_toggleBlocked_12 : decode cX4_toggleBlocked 12 = .ok (.invokevirtual 75, 3) := by decide +kernel
theorem dX4_toggleBlocked_15 : decode cX4_toggleBlocked 15 = .ok (.istore_n 3, 1) := by decide +kernel
theorem dX4_toggleBlocked_16 : decode cX4_toggleBlocked 16 = .ok (.iload_n 3, 1) := by decide +kernel
theorem dX4_toggleBlocked_17 : decode cX4_toggleBlocked 17 = .ok (.ifCond .le 13, 3) := by decide +kernel
theorem dX4_toggleBlocked_20 : decode cX4_toggleBlocked 20 = .ok (.new 60, 3) := by decide +kernel
theorem dX4_toggleBlocked_23 : decode cX4_toggleBlocked 23 = .ok (.dup, 1) := by decide +kernel
theorem dX4_toggleBlocked_24 : decode cX4_toggleBlocked 24 = .ok (.ldc 79, 2) := by decide +kernel
theorem dX4_toggleBlocked_26 : decode cX4_toggleBlocked 26 = .ok (.invokespecial 64, 3) := by decide +kernel
theorem dX4_toggleBlocked_29 : decode cX4_toggleBlocked 29 = .ok (.athrow, 1) := by decide +kernel
theorem dX4_toggleBlocked_30 : decode cX4_toggleBlocked 30 = .ok (.iload_n 3, 1) := by decide +kernel
theorem dX4_toggleBlocked_31 : decode cX4_toggleBlocked 31 = .ok (.ifCond .ne 7, 3) := by decide +kernel
theorem dX4_toggleBlocked_34 : decode cX4_toggleBlocked 34 = .ok (.iconst 1, 1) := by decide +kernel
theorem dX4_toggleBlocked_35 : decode cX4_toggleBlocked 35 = .ok (.goto 4, 3) := by decide +kernel
theorem dX4_toggleBlocked_38 : decode cX4_toggleBlocked 38 = .ok (.iconst 0, 1) := by decide +kernel
theorem dX4_toggleBlocked_39 : decode cX4_toggleBlocked 39 = .ok (.istore 4, 2) := by decide +kernel
theorem dX4_toggleBlocked_41 : decode cX4_toggleBlocked 41 = .ok (.aload_n 0, 1) := by decide +kernel
theorem dX4_toggleBlocked_42 : decode cX4_toggleBlocked 42 = .ok (.getfield 10, 3) := by decide +kernel
theorem dX4_toggleBlocked_45 : decode cX4_toggleBlocked 45 = .ok (.iload_n 1, 1) := by decide +kernel
theorem dX4_toggleBlocked_46 : decode cX4_toggleBlocked 46 = .ok (.iload_n 2, 1) := by decide +kernel
theorem dX4_toggleBlocked_47 : decode cX4_toggleBlocked 47 = .ok (.iconst 1, 1) := by decide +kernel
theorem dX4_toggleBlocked_48 : decode cX4_toggleBlocked 48 = .ok (.iload 4, 2) := by decide +kernel
theorem dX4_toggleBlocked_50 : decode cX4_toggleBlocked 50 = .ok (.ifCond .eq 7, 3) := by decide +kernel
theorem dX4_toggleBlocked_53 : decode cX4_toggleBlocked 53 = .ok (.iconst (-1), 1) := by decide +kernel
theorem dX4_toggleBlocked_54 : decode cX4_toggleBlocked 54 = .ok (.goto 4, 3) := by decide +kernel
theorem dX4_toggleBlocked_57 : decode cX4_toggleBlocked 57 = .ok (.iconst 0, 1) := by decide +kernel
theorem dX4_toggleBlocked_58 : decode cX4_toggleBlocked 58 = .ok (.invokevirtual 81, 3) := by decide +kernel
theorem dX4_toggleBlocked_61 : decode cX4_toggleBlocked 61 = .ok (.iload 4, 2) := by decide +kernel
theorem dX4_toggleBlocked_63 : decode cX4_toggleBlocked 63 = .ok (.ireturn, 1) := by decide +kernel
theorem dX4_rows_0 : decode cX4_rows 0 = .ok (.aload_n 0, 1) := by decide +kernel
theorem dX4_rows_1 : decode cX4_rows 1 = .ok (.getfield 10, 3) := by decide +kernel
theorem dX4_rows_4 : decode cX4_rows 4 = .ok (.invokevirtual 56, 3) := by decide +kernel
theorem dX4_rows_7 : decode cX4_rows 7 = .ok (.ireturn, 1) := by decide +kernel
theorem dX4_state_0 : decode cX4_state 0 = .ok (.aload_n 0, 1) := by decide +kernel
theorem dX4_state_1 : decode cX4_state 1 = .ok (.iload_n 1, 1) := by decide +kernel
theorem dX4_state_2 : decode cX4_state 2 = .ok (.iload_n 2, 1) := by decide +kernel
theorem dX4_state_3 : decode cX4_state 3 = .ok (.invokevirtual 71, 3) := by decide +kernel
theorem dX4_state_6 : decode cX4_state 6 = .ok (.aload_n 0, 1) := by decide +kernel
theorem dX4_state_7 : decode cX4_state 7 = .ok (.getfield 10, 3) := by decide +kernel
theorem dX4_state_10 : decode cX4_state 10 = .ok (.iload_n 1, 1) := by decide +kernel
theorem dX4_state_11 : decode cX4_state 11 = .ok (.iload_n 2, 1) := by decide +kernel
theorem dX4_state_12 : decode cX4_state 12 = .ok (.invokevirtual 75, 3) := by decide +kernel
theorem dX4_state_15 : decode cX4_state 15 = .ok (.istore_n 3, 1) := by decide +kernel
theorem dX4_state_16 : decode cX4_state 16 = .ok (.iload_n 3, 1) := by decide +kernel
theorem dX4_state_17 : decode cX4_state 17 = .ok (.ifCond .ne 5, 3) := by decide +kernel
theorem dX4_state_20 : decode cX4_state 20 = .ok (.iconst 0, 1) := by decide +kernel
theorem dX4_state_21 : decode cX4_state 21 = .ok (.ireturn, 1) := by decide +kernel
theorem dX4_state_22 : decode cX4_state 22 = .ok (.iload_n 3, 1) := by decide +kernel
theorem dX4_state_23 : decode cX4_state 23 = .ok (.iconst (-1), 1) := by decide +kernel
theorem dX4_state_24 : decode cX4_state 24 = .ok (.if_icmp .ne 5, 3) := by decide +kernel
theorem dX4_state_27 : decode cX4_state 27 = .ok (.iconst 3, 1) := by decide +kernel
theorem dX4_state_28 : decode cX4_state 28 = .ok (.ireturn, 1) := by decide +kernel
theorem dX4_state_29 : decode cX4_state 29 = .ok (.aload_n 0, 1) := by decide +kernel
theorem dX4_state_30 : decode cX4_state 30 = .ok (.getfield 19, 3) := by decide +kernel
theorem dX4_state_33 : decode cX4_state 33 = .ok (.iload_n 3, 1) := by decide +kernel
theorem dX4_state_34 : decode cX4_state 34 = .ok (.invokevirtual 85, 3) := by decide +kernel
theorem dX4_state_37 : decode cX4_state 37 = .ok (.ifCond .ne 7, 3) := by decide +kernel
theorem dX4_state_40 : decode cX4_state 40 = .ok (.iconst 1, 1) := by decide +kernel
theorem dX4_state_41 : decode cX4_state 41 = .ok (.goto 4, 3) := by decide +kernel
theorem dX4_state_44 : decode cX4_state 44 = .ok (.iconst 2, 1) := by decide +kernel
theorem dX4_state_45 : decode cX4_state 45 = .ok (.ireturn, 1) := by decide +kernel
theorem dX4_ticketAt_0 : decode cX4_ticketAt 0 = .ok (.aload_n 0, 1) := by decide +kernel
theorem dX4_ticketAt_1 : decode cX4_ticketAt 1 = .ok (.iload_n 1, 1) := by decide +kernel
theorem dX4_ticketAt_2 : decode cX4_ticketAt 2 = .ok (.iload_n 2, 1) := by decide +kernel
theorem dX4_ticketAt_3 : decode cX4_ticketAt 3 = .ok (.invokevirtual 71, 3) := by decide +kernel
theorem dX4_ticketAt_6 : decode cX4_ticketAt 6 = .ok (.aload_n 0, 1) := by decide +kernel
theorem dX4_ticketAt_7 : decode cX4_ticketAt 7 = .ok (.getfield 10, 3) := by decide +kernel
theorem dX4_ticketAt_10 : decode cX4_ticketAt 10 = .ok (.iload_n 1, 1) := by decide +kernel
theorem dX4_ticketAt_11 : decode cX4_ticketAt 11 = .ok (.iload_n 2, 1) := by decide +kernel
theorem dX4_ticketAt_12 : decode cX4_ticketAt 12 = .ok (.invokevirtual 75, 3) := by decide +kernel
theorem dX4_ticketAt_15 : decode cX4_ticketAt 15 = .ok (.iconst 0, 1) := by decide +kernel
theorem dX4_ticketAt_16 : decode cX4_ticketAt 16 = .ok (.invokestatic 89, 3) := by decide +kernel
theorem dX4_ticketAt_19 : decode cX4_ticketAt 19 = .ok (.ireturn, 1) := by decide +kernel
theorem dX4_value_0 : decode cX4_value 0 = .ok (.aload_n 0, 1) := by decide +kernel
theorem dX4_value_1 : decode cX4_value 1 = .ok (.iload_n 1, 1) := by decide +kernel
theorem dX4_value_2 : decode cX4_value 2 = .ok (.iload_n 2, 1) := by decide +kernel
theorem dX4_value_3 : decode cX4_value 3 = .ok (.invokevirtual 71, 3) := by decide +kernel
theorem dX4_value_6 : decode cX4_value 6 = .ok (.aload_n 0, 1) := by decide +kernel
theorem dX4_value_7 : decode cX4_value 7 = .ok (.getfield 10, 3) := by decide +kernel
theorem dX4_value_10 : decode cX4_value 10 = .ok (.iload_n 1, 1) := by decide +kernel
theorem dX4_value_11 : decode cX4_value 11 = .ok (.iload_n 2, 1) := by decide +kernel
theorem dX4_value_12 : decode cX4_value 12 = .ok (.invokevirtual 94, 3) := by decide +kernel
theorem dX4_value_15 : decode cX4_value 15 = .ok (.ireturn, 1) := by decide +kernel
theorem dX4_freeSeats_0 : decode cX4_freeSeats 0 = .ok (.aload_n 0, 1) := by decide +kernel
theorem dX4_freeSeats_1 : decode cX4_freeSeats 1 = .ok (.iload_n 1, 1) := by decide +kernel
theorem dX4_freeSeats_2 : decode cX4_freeSeats 2 = .ok (.invokevirtual 97, 3) := by decide +kernel
theorem dX4_freeSeats_5 : decode cX4_freeSeats 5 = .ok (.aload_n 0, 1) := by decide +kernel
theorem dX4_freeSeats_6 : decode cX4_freeSeats 6 = .ok (.getfield 10, 3) := by decide +kernel
theorem dX4_freeSeats_9 : decode cX4_freeSeats 9 = .ok (.iload_n 1, 1) := by decide +kernel
theorem dX4_freeSeats_10 : decode cX4_freeSeats 10 = .ok (.invokevirtual 100, 3) := by decide +kernel
theorem dX4_freeSeats_13 : decode cX4_freeSeats 13 = .ok (.ireturn, 1) := by decide +kernel
theorem dX4_orphans_0 : decode cX4_orphans 0 = .ok (.aload_n 0, 1) := by decide +kernel
theorem dX4_orphans_1 : decode cX4_orphans 1 = .ok (.getfield 10, 3) := by decide +kernel
theorem dX4_orphans_4 : decode cX4_orphans 4 = .ok (.invokevirtual 103, 3) := by decide +kernel
theorem dX4_orphans_7 : decode cX4_orphans 7 = .ok (.ireturn, 1) := by decide +kernel
theorem dX4_longestBlock_0 : decode cX4_longestBlock 0 = .ok (.aload_n 0, 1) := by decide +kernel
theorem dX4_longestBlock_1 : decode cX4_longestBlock 1 = .ok (.getfield 10, 3) := by decide +kernel
theorem dX4_longestBlock_4 : decode cX4_longestBlock 4 = .ok (.invokevirtual 106, 3) := by decide +kernel
theorem dX4_longestBlock_7 : decode cX4_longestBlock 7 = .ok (.ireturn, 1) := by decide +kernel
theorem dX4_bestBlock_0 : decode cX4_bestBlock 0 = .ok (.iload_n 1, 1) := by decide +kernel
theorem dX4_bestBlock_1 : decode cX4_bestBlock 1 = .ok (.invokestatic 48, 3) := by decide +kernel
theorem dX4_bestBlock_4 : decode cX4_bestBlock 4 = .ok (.aload_n 0, 1) := by decide +kernel
theorem dX4_bestBlock_5 : decode cX4_bestBlock 5 = .ok (.iload_n 1, 1) := by decide +kernel
theorem dX4_bestBlock_6 : decode cX4_bestBlock 6 = .ok (.invokevirtual 109, 3) := by decide +kernel
theorem dX4_bestBlock_9 : decode cX4_bestBlock 9 = .ok (.ireturn, 1) := by decide +kernel
theorem dX4_leavesOrphan_0 : decode cX4_leavesOrphan 0 = .ok (.iload_n 1, 1) := by decide +kernel
theorem dX4_leavesOrphan_1 : decode cX4_leavesOrphan 1 = .ok (.invokestatic 48, 3) := by decide +kernel
theorem dX4_leavesOrphan_4 : decode cX4_leavesOrphan 4 = .ok (.aload_n 0, 1) := by decide +kernel
theorem dX4_leavesOrphan_5 : decode cX4_leavesOrphan 5 = .ok (.iload_n 1, 1) := by decide +kernel
theorem dX4_leavesOrphan_6 : decode cX4_leavesOrphan 6 = .ok (.invokevirtual 109, 3) := by decide +kernel
theorem dX4_leavesOrphan_9 : decode cX4_leavesOrphan 9 = .ok (.istore_n 2, 1) := by decide +kernel
theorem dX4_leavesOrphan_10 : decode cX4_leavesOrphan 10 = .ok (.aload_n 0, 1) := by decide +kernel
theorem dX4_leavesOrphan_11 : decode cX4_leavesOrphan 11 = .ok (.getfield 10, 3) := by decide +kernel
theorem dX4_leavesOrphan_14 : decode cX4_leavesOrphan 14 = .ok (.iload_n 2, 1) := by decide +kernel
theorem dX4_leavesOrphan_15 : decode cX4_leavesOrphan 15 = .ok (.bipush 100, 2) := by decide +kernel
theorem dX4_leavesOrphan_17 : decode cX4_leavesOrphan 17 = .ok (.idiv, 1) := by decide +kernel
theorem dX4_leavesOrphan_18 : decode cX4_leavesOrphan 18 = .ok (.iload_n 2, 1) := by decide +kernel
theorem dX4_leavesOrphan_19 : decode cX4_leavesOrphan 19 = .ok (.bipush 100, 2) := by decide +kernel
theorem dX4_leavesOrphan_21 : decode cX4_leavesOrphan 21 = .ok (.irem, 1) := by decide +kernel
theorem dX4_leavesOrphan_22 : decode cX4_leavesOrphan 22 = .ok (.iload_n 1, 1) := by decide +kernel
theorem dX4_leavesOrphan_23 : decode cX4_leavesOrphan 23 = .ok (.invokevirtual 112, 3) := by decide +kernel
theorem dX4_leavesOrphan_26 : decode cX4_leavesOrphan 26 = .ok (.ireturn, 1) := by decide +kernel
theorem dX4_hold_0 : decode cX4_hold 0 = .ok (.iload_n 1, 1) := by decide +kernel
theorem dX4_hold_1 : decode cX4_hold 1 = .ok (.invokestatic 48, 3) := by decide +kernel
theorem dX4_hold_4 : decode cX4_hold 4 = .ok (.iload_n 2, 1) := by decide +kernel
theorem dX4_hold_5 : decode cX4_hold 5 = .ok (.invokestatic 116, 3) := by decide +kernel
theorem dX4_hold_8 : decode cX4_hold 8 = .ok (.aload_n 0, 1) := by decide +kernel
theorem dX4_hold_9 : decode cX4_hold 9 = .ok (.iload_n 1, 1) := by decide +kernel
theorem dX4_hold_10 : decode cX4_hold 10 = .ok (.invokevirtual 109, 3) := by decide +kernel
theorem dX4_hold_13 : decode cX4_hold 13 = .ok (.istore_n 3, 1) := by decide +kernel
theorem dX4_hold_14 : decode cX4_hold 14 = .ok (.aload_n 0, 1) := by decide +kernel
theorem dX4_hold_15 : decode cX4_hold 15 = .ok (.invokevirtual 119, 3) := by decide +kernel
theorem dX4_hold_18 : decode cX4_hold 18 = .ok (.aload_n 0, 1) := by decide +kernel
theorem dX4_hold_19 : decode cX4_hold 19 = .ok (.iload_n 3, 1) := by decide +kernel
theorem dX4_hold_20 : decode cX4_hold 20 = .ok (.bipush 100, 2) := by decide +kernel
theorem dX4_hold_22 : decode cX4_hold 22 = .ok (.idiv, 1) := by decide +kernel
theorem dX4_hold_23 : decode cX4_hold 23 = .ok (.iload_n 3, 1) := by decide +kernel
theorem dX4_hold_24 : decode cX4_hold 24 = .ok (.bipush 100, 2) := by decide +kernel
theorem dX4_hold_26 : decode cX4_hold 26 = .ok (.irem, 1) := by decide +kernel
theorem dX4_hold_27 : decode cX4_hold 27 = .ok (.iload_n 1, 1) := by decide +kernel
theorem dX4_hold_28 : decode cX4_hold 28 = .ok (.iload_n 2, 1) := by decide +kernel
theorem dX4_hold_29 : decode cX4_hold 29 = .ok (.invokevirtual 122, 3) := by decide +kernel
theorem dX4_hold_32 : decode cX4_hold 32 = .ok (.ireturn, 1) := by decide +kernel
theorem dX4_holdAt_0 : decode cX4_holdAt 0 = .ok (.aload_n 0, 1) := by decide +kernel
theorem dX4_holdAt_1 : decode cX4_holdAt 1 = .ok (.iload_n 1, 1) := by decide +kernel
theorem dX4_holdAt_2 : decode cX4_holdAt 2 = .ok (.iload_n 2, 1) := by decide +kernel
theorem dX4_holdAt_3 : decode cX4_holdAt 3 = .ok (.invokevirtual 71, 3) := by decide +kernel
theorem dX4_holdAt_6 : decode cX4_holdAt 6 = .ok (.iload_n 3, 1) := by decide +kernel
theorem dX4_holdAt_7 : decode cX4_holdAt 7 = .ok (.invokestatic 48, 3) := by decide +kernel
theorem dX4_holdAt_10 : decode cX4_holdAt 10 = .ok (.iload 4, 2) := by decide +kernel
theorem dX4_holdAt_12 : decode cX4_holdAt 12 = .ok (.invokestatic 116, 3) := by decide +kernel
theorem dX4_holdAt_15 : decode cX4_holdAt 15 = .ok (.aload_n 0, 1) := by decide +kernel
theorem dX4_holdAt_16 : decode cX4_holdAt 16 = .ok (.getfield 10, 3) := by decide +kernel
theorem dX4_holdAt_19 : decode cX4_holdAt 19 = .ok (.iload_n 1, 1) := by decide +kernel
theorem dX4_holdAt_20 : decode cX4_holdAt 20 = .ok (.iload_n 2, 1) := by decide +kernel
theorem dX4_holdAt_21 : decode cX4_holdAt 21 = .ok (.iload_n 3, 1) := by decide +kernel
theorem dX4_holdAt_22 : decode cX4_holdAt 22 = .ok (.invokevirtual 126, 3) := by decide +kernel
theorem dX4_holdAt_25 : decode cX4_holdAt 25 = .ok (.ifCond .ne 13, 3) := by decide +kernel
theorem dX4_holdAt_28 : decode cX4_holdAt 28 = .ok (.new 60, 3) := by decide +kernel
theorem dX4_holdAt_31 : decode cX4_holdAt 31 = .ok (.dup, 1) := by decide +kernel
theorem dX4_holdAt_32 : decode cX4_holdAt 32 = .ok (.ldc 129, 2) := by decide +kernel
theorem dX4_holdAt_34 : decode cX4_holdAt 34 = .ok (.invokespecial 64, 3) := by decide +kernel
theorem dX4_holdAt_37 : decode cX4_holdAt 37 = .ok (.athrow, 1) := by decide +kernel
theorem dX4_holdAt_38 : decode cX4_holdAt 38 = .ok (.aload_n 0, 1) := by decide +kernel
theorem dX4_holdAt_39 : decode cX4_holdAt 39 = .ok (.invokevirtual 119, 3) := by decide +kernel
theorem dX4_holdAt_42 : decode cX4_holdAt 42 = .ok (.aload_n 0, 1) := by decide +kernel
theorem dX4_holdAt_43 : decode cX4_holdAt 43 = .ok (.iload_n 1, 1) := by decide +kernel
theorem dX4_holdAt_44 : decode cX4_holdAt 44 = .ok (.iload_n 2, 1) := by decide +kernel
theorem dX4_holdAt_45 : decode cX4_holdAt 45 = .ok (.iload_n 3, 1) := by decide +kernel
theorem dX4_holdAt_46 : decode cX4_holdAt 46 = .ok (.iload 4, 2) := by decide +kernel
theorem dX4_holdAt_48 : decode cX4_holdAt 48 = .ok (.invokevirtual 122, 3) := by decide +kernel
theorem dX4_holdAt_51 : decode cX4_holdAt 51 = .ok (.ireturn, 1) := by decide +kernel
theorem dX4_rowsForGroup_0 : decode cX4_rowsForGroup 0 = .ok (.iload_n 1, 1) := by decide +kernel
theorem dX4_rowsForGroup_1 : decode cX4_rowsForGroup 1 = .ok (.invokestatic 131, 3) := by decide +kernel
theorem dX4_rowsForGroup_4 : decode cX4_rowsForGroup 4 = .ok (.aload_n 0, 1) := by decide +kernel
theorem dX4_rowsForGroup_5 : decode cX4_rowsForGroup 5 = .ok (.iload_n 1, 1) := by decide +kernel
theorem dX4_rowsForGroup_6 : decode cX4_rowsForGroup 6 = .ok (.invokevirtual 134, 3) := by decide +kernel
theorem dX4_rowsForGroup_9 : decode cX4_rowsForGroup 9 = .ok (.aload_n 0, 1) := by decide +kernel
theorem dX4_rowsForGroup_10 : decode cX4_rowsForGroup 10 = .ok (.getfield 28, 3) := by decide +kernel
theorem dX4_rowsForGroup_13 : decode cX4_rowsForGroup 13 = .ok (.invokevirtual 137, 3) := by decide +kernel
theorem dX4_rowsForGroup_16 : decode cX4_rowsForGroup 16 = .ok (.ireturn, 1) := by decide +kernel
theorem dX4_seatsForGroup_0 : decode cX4_seatsForGroup 0 = .ok (.aload_n 0, 1) := by decide +kernel
theorem dX4_seatsForGroup_1 : decode cX4_seatsForGroup 1 = .ok (.iload_n 2, 1) := by decide +kernel
theorem dX4_seatsForGroup_2 : decode cX4_seatsForGroup 2 = .ok (.invokevirtual 97, 3) := by decide +kernel
theorem dX4_seatsForGroup_5 : decode cX4_seatsForGroup 5 = .ok (.iload_n 1, 1) := by decide +kernel
theorem dX4_seatsForGroup_6 : decode cX4_seatsForGroup 6 = .ok (.invokestatic 131, 3) := by decide +kernel
theorem dX4_seatsForGroup_9 : decode cX4_seatsForGroup 9 = .ok (.aload_n 0, 1) := by decide +kernel
theorem dX4_seatsForGroup_10 : decode cX4_seatsForGroup 10 = .ok (.iload_n 1, 1) := by decide +kernel
theorem dX4_seatsForGroup_11 : decode cX4_seatsForGroup 11 = .ok (.invokevirtual 134, 3) := by decide +kernel
theorem dX4_seatsForGroup_14 : decode cX4_seatsForGroup 14 = .ok (.aload_n 0, 1) := by decide +kernel
theorem dX4_seatsForGroup_15 : decode cX4_seatsForGroup 15 = .ok (.getfield 28, 3) := by decide +kernel
theorem dX4_seatsForGroup_18 : decode cX4_seatsForGroup 18 = .ok (.iload_n 2, 1) := by decide +kernel
theorem dX4_seatsForGroup_19 : decode cX4_seatsForGroup 19 = .ok (.invokevirtual 140, 3) := by decide +kernel
theorem dX4_seatsForGroup_22 : decode cX4_seatsForGroup 22 = .ok (.ireturn, 1) := by decide +kernel
theorem dX4_holdGroup_0 : decode cX4_holdGroup 0 = .ok (.iload_n 1, 1) := by decide +kernel
theorem dX4_holdGroup_1 : decode cX4_holdGroup 1 = .ok (.invokestatic 131, 3) := by decide +kernel
theorem dX4_holdGroup_4 : decode cX4_holdGroup 4 = .ok (.iload_n 2, 1) := by decide +kernel
theorem dX4_holdGroup_5 : decode cX4_holdGroup 5 = .ok (.invokestatic 116, 3) := by decide +kernel
theorem dX4_holdGroup_8 : decode cX4_holdGroup 8 = .ok (.aload_n 0, 1) := by decide +kernel
theorem dX4_holdGroup_9 : decode cX4_holdGroup 9 = .ok (.iload_n 1, 1) := by decide +kernel
theorem dX4_holdGroup_10 : decode cX4_holdGroup 10 = .ok (.invokevirtual 134, 3) := by decide +kernel
theorem dX4_holdGroup_13 : decode cX4_holdGroup 13 = .ok (.aload_n 0, 1) := by decide +kernel
theorem dX4_holdGroup_14 : decode cX4_holdGroup 14 = .ok (.invokevirtual 119, 3) := by decide +kernel
theorem dX4_holdGroup_17 : decode cX4_holdGroup 17 = .ok (.aload_n 0, 1) := by decide +kernel
theorem dX4_holdGroup_18 : decode cX4_holdGroup 18 = .ok (.iload_n 1, 1) := by decide +kernel
theorem dX4_holdGroup_19 : decode cX4_holdGroup 19 = .ok (.iload_n 2, 1) := by decide +kernel
theorem dX4_holdGroup_20 : decode cX4_holdGroup 20 = .ok (.invokevirtual 143, 3) := by decide +kernel
theorem dX4_holdGroup_23 : decode cX4_holdGroup 23 = .ok (.ireturn, 1) := by decide +kernel
theorem dX4_tickets_0 : decode cX4_tickets 0 = .ok (.aload_n 0, 1) := by decide +kernel
theorem dX4_tickets_1 : decode cX4_tickets 1 = .ok (.getfield 19, 3) := by decide +kernel
theorem dX4_tickets_4 : decode cX4_tickets 4 = .ok (.invokevirtual 146, 3) := by decide +kernel
theorem dX4_tickets_7 : decode cX4_tickets 7 = .ok (.ireturn, 1) := by decide +kernel
theorem dX4_ticketState_0 : decode cX4_ticketState 0 = .ok (.aload_n 0, 1) := by decide +kernel
theorem dX4_ticketState_1 : decode cX4_ticketState 1 = .ok (.iload_n 1, 1) := by decide +kernel
theorem dX4_ticketState_2 : decode cX4_ticketState 2 = .ok (.invokevirtual 149, 3) := by decide +kernel
theorem dX4_ticketState_5 : decode cX4_ticketState 5 = .ok (.aload_n 0, 1) := by decide +kernel
theorem dX4_ticketState_6 : decode cX4_ticketState 6 = .ok (.getfield 19, 3) := by decide +kernel
theorem dX4_ticketState_9 : decode cX4_ticketState 9 = .ok (.iload_n 1, 1) := by decide +kernel
theorem dX4_ticketState_10 : decode cX4_ticketState 10 = .ok (.invokevirtual 85, 3) := by decide +kernel
theorem dX4_ticketState_13 : decode cX4_ticketState 13 = .ok (.ireturn, 1) := by decide +kernel
theorem dX4_seatsOf_0 : decode cX4_seatsOf 0 = .ok (.aload_n 0, 1) := by decide +kernel
theorem dX4_seatsOf_1 : decode cX4_seatsOf 1 = .ok (.iload_n 1, 1) := by decide +kernel
theorem dX4_seatsOf_2 : decode cX4_seatsOf 2 = .ok (.invokevirtual 149, 3) := by decide +kernel
theorem dX4_seatsOf_5 : decode cX4_seatsOf 5 = .ok (.aload_n 0, 1) := by decide +kernel
theorem dX4_seatsOf_6 : decode cX4_seatsOf 6 = .ok (.getfield 19, 3) := by decide +kernel
theorem dX4_seatsOf_9 : decode cX4_seatsOf 9 = .ok (.iload_n 1, 1) := by decide +kernel
theorem dX4_seatsOf_10 : decode cX4_seatsOf 10 = .ok (.invokevirtual 152, 3) := by decide +kernel
theorem dX4_seatsOf_13 : decode cX4_seatsOf 13 = .ok (.ifCond .eq 14, 3) := by decide +kernel
theorem dX4_seatsOf_16 : decode cX4_seatsOf 16 = .ok (.aload_n 0, 1) := by decide +kernel
theorem dX4_seatsOf_17 : decode cX4_seatsOf 17 = .ok (.getfield 19, 3) := by decide +kernel
theorem dX4_seatsOf_20 : decode cX4_seatsOf 20 = .ok (.iload_n 1, 1) := by decide +kernel
theorem dX4_seatsOf_21 : decode cX4_seatsOf 21 = .ok (.invokevirtual 156, 3) := by decide +kernel
theorem dX4_seatsOf_24 : decode cX4_seatsOf 24 = .ok (.goto 4, 3) := by decide +kernel
theorem dX4_seatsOf_27 : decode cX4_seatsOf 27 = .ok (.iconst 0, 1) := by decide +kernel
theorem dX4_seatsOf_28 : decode cX4_seatsOf 28 = .ok (.ireturn, 1) := by decide +kernel
theorem dX4_priceOf_0 : decode cX4_priceOf 0 = .ok (.aload_n 0, 1) := by decide +kernel
theorem dX4_priceOf_1 : decode cX4_priceOf 1 = .ok (.iload_n 1, 1) := by decide +kernel
theorem dX4_priceOf_2 : decode cX4_priceOf 2 = .ok (.invokevirtual 149, 3) := by decide +kernel
theorem dX4_priceOf_5 : decode cX4_priceOf 5 = .ok (.aload_n 0, 1) := by decide +kernel
theorem dX4_priceOf_6 : decode cX4_priceOf 6 = .ok (.getfield 10, 3) := by decide +kernel
theorem dX4_priceOf_9 : decode cX4_priceOf 9 = .ok (.iload_n 1, 1) := by decide +kernel
theorem dX4_priceOf_10 : decode cX4_priceOf 10 = .ok (.invokevirtual 159, 3) := by decide +kernel
theorem dX4_priceOf_13 : decode cX4_priceOf 13 = .ok (.ireturn, 1) := by decide +kernel
theorem dX4_extend_0 : decode cX4_extend 0 = .ok (.aload_n 0, 1) := by decide +kernel
theorem dX4_extend_1 : decode cX4_extend 1 = .ok (.iload_n 1, 1) := by decide +kernel
theorem dX4_extend_2 : decode cX4_extend 2 = .ok (.invokevirtual 149, 3) := by decide +kernel
theorem dX4_extend_5 : decode cX4_extend 5 = .ok (.iload_n 2, 1) := by decide +kernel
theorem dX4_extend_6 : decode cX4_extend 6 = .ok (.invokestatic 116, 3) := by decide +kernel
theorem dX4_extend_9 : decode cX4_extend 9 = .ok (.aload_n 0, 1) := by decide +kernel
theorem dX4_extend_10 : decode cX4_extend 10 = .ok (.iload_n 1, 1) := by decide +kernel
theorem dX4_extend_11 : decode cX4_extend 11 = .ok (.invokevirtual 162, 3) := by decide +kernel
theorem dX4_extend_14 : decode cX4_extend 14 = .ok (.aload_n 0, 1) := by decide +kernel
theorem dX4_extend_15 : decode cX4_extend 15 = .ok (.getfield 19, 3) := by decide +kernel
theorem dX4_extend_18 : decode cX4_extend 18 = .ok (.iload_n 1, 1) := by decide +kernel
theorem dX4_extend_19 : decode cX4_extend 19 = .ok (.invokevirtual 165, 3) := by decide +kernel
theorem dX4_extend_22 : decode cX4_extend 22 = .ok (.iconst 2, 1) := by decide +kernel
theorem dX4_extend_23 : decode cX4_extend 23 = .ok (.if_icmp .lt 13, 3) := by decide +kernel
theorem dX4_extend_26 : decode cX4_extend 26 = .ok (.new 60, 3) := by decide +kernel
theorem dX4_extend_29 : decode cX4_extend 29 = .ok (.dup, 1) := by decide +kernel
theorem dX4_extend_30 : decode cX4_extend 30 = .ok (.ldc 168, 2) := by decide +kernel
theorem dX4_extend_32 : decode cX4_extend 32 = .ok (.invokespecial 64, 3) := by decide +kernel
theorem dX4_extend_35 : decode cX4_extend 35 = .ok (.athrow, 1) := by decide +kernel
theorem dX4_extend_36 : decode cX4_extend 36 = .ok (.aload_n 0, 1) := by decide +kernel
theorem dX4_extend_37 : decode cX4_extend 37 = .ok (.getfield 19, 3) := by decide +kernel
theorem dX4_extend_40 : decode cX4_extend 40 = .ok (.iload_n 1, 1) := by decide +kernel
theorem dX4_extend_41 : decode cX4_extend 41 = .ok (.aload_n 0, 1) := by decide +kernel
theorem dX4_extend_42 : decode cX4_extend 42 = .ok (.getfield 41, 3) := by decide +kernel
theorem dX4_extend_45 : decode cX4_extend 45 = .ok (.iload_n 2, 1) := by decide +kernel
theorem dX4_extend_46 : decode cX4_extend 46 = .ok (.iadd, 1) := by decide +kernel
theorem dX4_extend_47 : decode cX4_extend 47 = .ok (.invokevirtual 170, 3) := by decide +kernel
theorem dX4_extend_50 : decode cX4_extend 50 = .ok (.aload_n 0, 1) := by decide +kernel
theorem dX4_extend_51 : decode cX4_extend 51 = .ok (.getfield 41, 3) := by decide +kernel
theorem dX4_extend_54 : decode cX4_extend 54 = .ok (.iload_n 2, 1) := by decide +kernel
theorem dX4_extend_55 : decode cX4_extend 55 = .ok (.iadd, 1) := by decide +kernel
theorem dX4_extend_56 : decode cX4_extend 56 = .ok (.ireturn, 1) := by decide +kernel
theorem dX4_pay_0 : decode cX4_pay 0 = .ok (.aload_n 0, 1) := by decide +kernel
theorem dX4_pay_1 : decode cX4_pay 1 = .ok (.iload_n 1, 1) := by decide +kernel
theorem dX4_pay_2 : decode cX4_pay 2 = .ok (.invokevirtual 149, 3) := by decide +kernel
theorem dX4_pay_5 : decode cX4_pay 5 = .ok (.aload_n 0, 1) := by decide +kernel
theorem dX4_pay_6 : decode cX4_pay 6 = .ok (.iload_n 1, 1) := by decide +kernel
theorem dX4_pay_7 : decode cX4_pay 7 = .ok (.invokevirtual 162, 3) := by decide +kernel
theorem dX4_pay_10 : decode cX4_pay 10 = .ok (.aload_n 0, 1) := by decide +kernel
theorem dX4_pay_11 : decode cX4_pay 11 = .ok (.getfield 10, 3) := by decide +kernel
theorem dX4_pay_14 : decode cX4_pay 14 = .ok (.iload_n 1, 1) := by decide +kernel
theorem dX4_pay_15 : decode cX4_pay 15 = .ok (.invokevirtual 159, 3) := by decide +kernel
theorem dX4_pay_18 : decode cX4_pay 18 = .ok (.istore_n 2, 1) := by decide +kernel
theorem dX4_pay_19 : decode cX4_pay 19 = .ok (.aload_n 0, 1) := by decide +kernel
theorem dX4_pay_20 : decode cX4_pay 20 = .ok (.getfield 19, 3) := by decide +kernel
theorem dX4_pay_23 : decode cX4_pay 23 = .ok (.iload_n 1, 1) := by decide +kernel
theorem dX4_pay_24 : decode cX4_pay 24 = .ok (.iload_n 2, 1) := by decide +kernel
theorem dX4_pay_25 : decode cX4_pay 25 = .ok (.invokevirtual 173, 3) := by decide +kernel
theorem dX4_pay_28 : decode cX4_pay 28 = .ok (.aload_n 0, 1) := by decide +kernel
theorem dX4_pay_29 : decode cX4_pay 29 = .ok (.dup, 1) := by decide +kernel
theorem dX4_pay_30 : decode cX4_pay 30 = .ok (.getfield 45, 3) := by decide +kernel
theorem dX4_pay_33 : decode cX4_pay 33 = .ok (.iload_n 2, 1) := by decide +kernel
theorem dX4_pay_34 : decode cX4_pay 34 = .ok (.iadd, 1) := by decide +kernel
theorem dX4_pay_35 : decode cX4_pay 35 = .ok (.putfield 45, 3) := by decide +kernel
theorem dX4_pay_38 : decode cX4_pay 38 = .ok (.iload_n 2, 1) := by decide +kernel
theorem dX4_pay_39 : decode cX4_pay 39 = .ok (.ireturn, 1) := by decide +kernel
theorem dX4_cancel_0 : decode cX4_cancel 0 = .ok (.aload_n 0, 1) := by decide +kernel
theorem dX4_cancel_1 : decode cX4_cancel 1 = .ok (.iload_n 1, 1) := by decide +kernel
theorem dX4_cancel_2 : decode cX4_cancel 2 = .ok (.invokevirtual 149, 3) := by decide +kernel
theorem dX4_cancel_5 : decode cX4_cancel 5 = .ok (.aload_n 0, 1) := by decide +kernel
theorem dX4_cancel_6 : decode cX4_cancel 6 = .ok (.getfield 19, 3) := by decide +kernel
theorem dX4_cancel_9 : decode cX4_cancel 9 = .ok (.iload_n 1, 1) := by decide +kernel
theorem dX4_cancel_10 : decode cX4_cancel 10 = .ok (.invokevirtual 152, 3) := by decide +kernel
theorem dX4_cancel_13 : decode cX4_cancel 13 = .ok (.ifCond .ne 13, 3) := by decide +kernel
theorem dX4_cancel_16 : decode cX4_cancel 16 = .ok (.new 60, 3) := by decide +kernel
theorem dX4_cancel_19 : decode cX4_cancel 19 = .ok (.dup, 1) := by decide +kernel
theorem dX4_cancel_20 : decode cX4_cancel 20 = .ok (.ldc 176, 2) := by decide +kernel
theorem dX4_cancel_22 : decode cX4_cancel 22 = .ok (.invokespecial 64, 3) := by decide +kernel
theorem dX4_cancel_25 : decode cX4_cancel 25 = .ok (.athrow, 1) := by decide +kernel
theorem dX4_cancel_26 : decode cX4_cancel 26 = .ok (.aload_n 0, 1) := by decide +kernel
theorem dX4_cancel_27 : decode cX4_cancel 27 = .ok (.getfield 19, 3) := by decide +kernel
theorem dX4_cancel_30 : decode cX4_cancel 30 = .ok (.iload_n 1, 1) := by decide +kernel
theorem dX4_cancel_31 : decode cX4_cancel 31 = .ok (.invokevirtual 178, 3) := by decide +kernel
theorem dX4_cancel_34 : decode cX4_cancel 34 = .ok (.istore_n 2, 1) := by decide +kernel
theorem dX4_cancel_35 : decode cX4_cancel 35 = .ok (.aload_n 0, 1) := by decide +kernel
theorem dX4_cancel_36 : decode cX4_cancel 36 = .ok (.iload_n 1, 1) := by decide +kernel
theorem dX4_cancel_37 : decode cX4_cancel 37 = .ok (.iconst 3, 1) := by decide +kernel
theorem dX4_cancel_38 : decode cX4_cancel 38 = .ok (.invokevirtual 181, 3) := by decide +kernel
theorem dX4_cancel_41 : decode cX4_cancel 41 = .ok (.aload_n 0, 1) := by decide +kernel
theorem dX4_cancel_42 : decode cX4_cancel 42 = .ok (.dup, 1) := by decide +kernel
theorem dX4_cancel_43 : decode cX4_cancel 43 = .ok (.getfield 45, 3) := by decide +kernel
theorem dX4_cancel_46 : decode cX4_cancel 46 = .ok (.iload_n 2, 1) := by decide +kernel
theorem dX4_cancel_47 : decode cX4_cancel 47 = .ok (.isub, 1) := by decide +kernel
theorem dX4_cancel_48 : decode cX4_cancel 48 = .ok (.putfield 45, 3) := by decide +kernel
theorem dX4_cancel_51 : decode cX4_cancel 51 = .ok (.iload_n 2, 1) := by decide +kernel
theorem dX4_cancel_52 : decode cX4_cancel 52 = .ok (.ireturn, 1) := by decide +kernel
theorem dX4_takings_0 : decode cX4_takings 0 = .ok (.aload_n 0, 1) := by decide +kernel
theorem dX4_takings_1 : decode cX4_takings 1 = .ok (.getfield 45, 3) := by decide +kernel
theorem dX4_takings_4 : decode cX4_takings 4 = .ok (.ireturn, 1) := by decide +kernel
theorem dX4_now_0 : decode cX4_now 0 = .ok (.aload_n 0, 1) := by decide +kernel
theorem dX4_now_1 : decode cX4_now 1 = .ok (.getfield 41, 3) := by decide +kernel
theorem dX4_now_4 : decode cX4_now 4 = .ok (.ireturn, 1) := by decide +kernel
theorem dX4_pass_0 : decode cX4_pass 0 = .ok (.iload_n 1, 1) := by decide +kernel
theorem dX4_pass_1 : decode cX4_pass 1 = .ok (.iconst 1, 1) := by decide +kernel
theorem dX4_pass_2 : decode cX4_pass 2 = .ok (.sipush 1000, 3) := by decide +kernel
theorem dX4_pass_5 : decode cX4_pass 5 = .ok (.invokestatic 52, 3) := by decide +kernel
theorem dX4_pass_8 : decode cX4_pass 8 = .ok (.aload_n 0, 1) := by decide +kernel
theorem dX4_pass_9 : decode cX4_pass 9 = .ok (.dup, 1) := by decide +kernel
theorem dX4_pass_10 : decode cX4_pass 10 = .ok (.getfield 41, 3) := by decide +kernel
theorem dX4_pass_13 : decode cX4_pass 13 = .ok (.iload_n 1, 1) := by decide +kernel
theorem dX4_pass_14 : decode cX4_pass 14 = .ok (.iadd, 1) := by decide +kernel
theorem dX4_pass_15 : decode cX4_pass 15 = .ok (.putfield 41, 3) := by decide +kernel
theorem dX4_pass_18 : decode cX4_pass 18 = .ok (.iconst 0, 1) := by decide +kernel
theorem dX4_pass_19 : decode cX4_pass 19 = .ok (.istore_n 2, 1) := by decide +kernel
theorem dX4_pass_20 : decode cX4_pass 20 = .ok (.iconst 1, 1) := by decide +kernel
theorem dX4_pass_21 : decode cX4_pass 21 = .ok (.istore_n 3, 1) := by decide +kernel
theorem dX4_pass_22 : decode cX4_pass 22 = .ok (.iload_n 3, 1) := by decide +kernel
theorem dX4_pass_23 : decode cX4_pass 23 = .ok (.aload_n 0, 1) := by decide +kernel
theorem dX4_pass_24 : decode cX4_pass 24 = .ok (.getfield 19, 3) := by decide +kernel
theorem dX4_pass_27 : decode cX4_pass 27 = .ok (.invokevirtual 146, 3) := by decide +kernel
theorem dX4_pass_30 : decode cX4_pass 30 = .ok (.if_icmp .gt 44, 3) := by decide +kernel
theorem dX4_pass_33 : decode cX4_pass 33 = .ok (.aload_n 0, 1) := by decide +kernel
theorem dX4_pass_34 : decode cX4_pass 34 = .ok (.getfield 19, 3) := by decide +kernel
theorem dX4_pass_37 : decode cX4_pass 37 = .ok (.iload_n 3, 1) := by decide +kernel
theorem dX4_pass_38 : decode cX4_pass 38 = .ok (.invokevirtual 85, 3) := by decide +kernel
theorem dX4_pass_41 : decode cX4_pass 41 = .ok (.ifCond .ne 27, 3) := by decide +kernel
theorem dX4_pass_44 : decode cX4_pass 44 = .ok (.aload_n 0, 1) := by decide +kernel
theorem dX4_pass_45 : decode cX4_pass 45 = .ok (.getfield 19, 3) := by decide +kernel
theorem dX4_pass_48 : decode cX4_pass 48 = .ok (.iload_n 3, 1) := by decide +kernel
theorem dX4_pass_49 : decode cX4_pass 49 = .ok (.invokevirtual 184, 3) := by decide +kernel
theorem dX4_pass_52 : decode cX4_pass 52 = .ok (.aload_n 0, 1) := by decide +kernel
theorem dX4_pass_53 : decode cX4_pass 53 = .ok (.getfield 41, 3) := by decide +kernel
theorem dX4_pass_56 : decode cX4_pass 56 = .ok (.if_icmp .gt 12, 3) := by decide +kernel
theorem dX4_pass_59 : decode cX4_pass 59 = .ok (.aload_n 0, 1) := by decide +kernel
theorem dX4_pass_60 : decode cX4_pass 60 = .ok (.iload_n 3, 1) := by decide +kernel
theorem dX4_pass_61 : decode cX4_pass 61 = .ok (.iconst 2, 1) := by decide +kernel
theorem dX4_pass_62 : decode cX4_pass 62 = .ok (.invokevirtual 181, 3) := by decide +kernel
theorem dX4_pass_65 : decode cX4_pass 65 = .ok (.iinc 2 1, 3) := by decide +kernel
theorem dX4_pass_68 : decode cX4_pass 68 = .ok (.iinc 3 1, 3) := by decide +kernel
theorem dX4_pass_71 : decode cX4_pass 71 = .ok (.goto (-49), 3) := by decide +kernel
theorem dX4_pass_74 : decode cX4_pass 74 = .ok (.iload_n 2, 1) := by decide +kernel
theorem dX4_pass_75 : decode cX4_pass 75 = .ok (.ireturn, 1) := by decide +kernel
theorem dX4_nextExpiry_0 : decode cX4_nextExpiry 0 = .ok (.aload_n 0, 1) := by decide +kernel
theorem dX4_nextExpiry_1 : decode cX4_nextExpiry 1 = .ok (.getfield 19, 3) := by decide +kernel
theorem dX4_nextExpiry_4 : decode cX4_nextExpiry 4 = .ok (.invokevirtual 187, 3) := by decide +kernel
theorem dX4_nextExpiry_7 : decode cX4_nextExpiry 7 = .ok (.istore_n 1, 1) := by decide +kernel
theorem dX4_nextExpiry_8 : decode cX4_nextExpiry 8 = .ok (.iload_n 1, 1) := by decide +kernel
theorem dX4_nextExpiry_9 : decode cX4_nextExpiry 9 = .ok (.iconst (-1), 1) := by decide +kernel
theorem dX4_nextExpiry_10 : decode cX4_nextExpiry 10 = .ok (.if_icmp .ne 13, 3) := by decide +kernel
theorem dX4_nextExpiry_13 : decode cX4_nextExpiry 13 = .ok (.new 60, 3) := by decide +kernel
theorem dX4_nextExpiry_16 : decode cX4_nextExpiry 16 = .ok (.dup, 1) := by decide +kernel
theorem dX4_nextExpiry_17 : decode cX4_nextExpiry 17 = .ok (.ldc 190, 2) := by decide +kernel
theorem dX4_nextExpiry_19 : decode cX4_nextExpiry 19 = .ok (.invokespecial 64, 3) := by decide +kernel
theorem dX4_nextExpiry_22 : decode cX4_nextExpiry 22 = .ok (.athrow, 1) := by decide +kernel
theorem dX4_nextExpiry_23 : decode cX4_nextExpiry 23 = .ok (.iload_n 1, 1) := by decide +kernel
theorem dX4_nextExpiry_24 : decode cX4_nextExpiry 24 = .ok (.ireturn, 1) := by decide +kernel
theorem dX4_wish_0 : decode cX4_wish 0 = .ok (.aload_n 0, 1) := by decide +kernel
theorem dX4_wish_1 : decode cX4_wish 1 = .ok (.iload_n 1, 1) := by decide +kernel
theorem dX4_wish_2 : decode cX4_wish 2 = .ok (.invokevirtual 149, 3) := by decide +kernel
theorem dX4_wish_5 : decode cX4_wish 5 = .ok (.aload_n 0, 1) := by decide +kernel
theorem dX4_wish_6 : decode cX4_wish 6 = .ok (.iload_n 2, 1) := by decide +kernel
theorem dX4_wish_7 : decode cX4_wish 7 = .ok (.invokevirtual 97, 3) := by decide +kernel
theorem dX4_wish_10 : decode cX4_wish 10 = .ok (.aload_n 0, 1) := by decide +kernel
theorem dX4_wish_11 : decode cX4_wish 11 = .ok (.getfield 19, 3) := by decide +kernel
theorem dX4_wish_14 : decode cX4_wish 14 = .ok (.iload_n 1, 1) := by decide +kernel
theorem dX4_wish_15 : decode cX4_wish 15 = .ok (.invokevirtual 85, 3) := by decide +kernel
theorem dX4_wish_18 : decode cX4_wish 18 = .ok (.iconst 1, 1) := by decide +kernel
theorem dX4_wish_19 : decode cX4_wish 19 = .ok (.if_icmp .eq 13, 3) := by decide +kernel
theorem dX4_wish_22 : decode cX4_wish 22 = .ok (.new 60, 3) := by decide +kernel
theorem dX4_wish_25 : decode cX4_wish 25 = .ok (.dup, 1) := by decide +kernel
theorem dX4_wish_26 : decode cX4_wish 26 = .ok (.ldc 192, 2) := by decide +kernel
theorem dX4_wish_28 : decode cX4_wish 28 = .ok (.invokespecial 64, 3) := by decide +kernel
theorem dX4_wish_31 : decode cX4_wish 31 = .ok (.athrow, 1) := by decide +kernel
theorem dX4_wish_32 : decode cX4_wish 32 = .ok (.aload_n 0, 1) := by decide +kernel
theorem dX4_wish_33 : decode cX4_wish 33 = .ok (.getfield 19, 3) := by decide +kernel
theorem dX4_wish_36 : decode cX4_wish 36 = .ok (.iload_n 1, 1) := by decide +kernel
theorem dX4_wish_37 : decode cX4_wish 37 = .ok (.invokevirtual 194, 3) := by decide +kernel
theorem dX4_wish_40 : decode cX4_wish 40 = .ok (.istore_n 3, 1) := by decide +kernel
theorem dX4_wish_41 : decode cX4_wish 41 = .ok (.iload_n 3, 1) := by decide +kernel
theorem dX4_wish_42 : decode cX4_wish 42 = .ok (.iconst (-1), 1) := by decide +kernel
theorem dX4_wish_43 : decode cX4_wish 43 = .ok (.if_icmp .eq 8, 3) := by decide +kernel
theorem dX4_wish_46 : decode cX4_wish 46 = .ok (.iload_n 3, 1) := by decide +kernel
theorem dX4_wish_47 : decode cX4_wish 47 = .ok (.iload_n 2, 1) := by decide +kernel
theorem dX4_wish_48 : decode cX4_wish 48 = .ok (.if_icmp .ne 13, 3) := by decide +kernel
theorem dX4_wish_51 : decode cX4_wish 51 = .ok (.new 60, 3) := by decide +kernel
theorem dX4_wish_54 : decode cX4_wish 54 = .ok (.dup, 1) := by decide +kernel
theorem dX4_wish_55 : decode cX4_wish 55 = .ok (.ldc 197, 2) := by decide +kernel
theorem dX4_wish_57 : decode cX4_wish 57 = .ok (.invokespecial 64, 3) := by decide +kernel
theorem dX4_wish_60 : decode cX4_wish 60 = .ok (.athrow, 1) := by decide +kernel
theorem dX4_wish_61 : decode cX4_wish 61 = .ok (.aload_n 0, 1) := by decide +kernel
theorem dX4_wish_62 : decode cX4_wish 62 = .ok (.getfield 19, 3) := by decide +kernel
theorem dX4_wish_65 : decode cX4_wish 65 = .ok (.iload_n 1, 1) := by decide +kernel
theorem dX4_wish_66 : decode cX4_wish 66 = .ok (.invokevirtual 199, 3) := by decide +kernel
theorem dX4_wish_69 : decode cX4_wish 69 = .ok (.istore 4, 2) := by decide +kernel
theorem dX4_wish_71 : decode cX4_wish 71 = .ok (.aload_n 0, 1) := by decide +kernel
theorem dX4_wish_72 : decode cX4_wish 72 = .ok (.getfield 19, 3) := by decide +kernel
theorem dX4_wish_75 : decode cX4_wish 75 = .ok (.iload_n 1, 1) := by decide +kernel
theorem dX4_wish_76 : decode cX4_wish 76 = .ok (.iload_n 2, 1) := by decide +kernel
theorem dX4_wish_77 : decode cX4_wish 77 = .ok (.invokevirtual 202, 3) := by decide +kernel
theorem dX4_wish_80 : decode cX4_wish 80 = .ok (.iload 4, 2) := by decide +kernel
theorem dX4_wish_82 : decode cX4_wish 82 = .ok (.ireturn, 1) := by decide +kernel
theorem dX4_exchange_0 : decode cX4_exchange 0 = .ok (.aload_n 0, 1) := by decide +kernel
theorem dX4_exchange_1 : decode cX4_exchange 1 = .ok (.iload_n 1, 1) := by decide +kernel
theorem dX4_exchange_2 : decode cX4_exchange 2 = .ok (.invokevirtual 149, 3) := by decide +kernel
theorem dX4_exchange_5 : decode cX4_exchange 5 = .ok (.aload_n 0, 1) := by decide +kernel
theorem dX4_exchange_6 : decode cX4_exchange 6 = .ok (.getfield 19, 3) := by decide +kernel
theorem dX4_exchange_9 : decode cX4_exchange 9 = .ok (.iload_n 1, 1) := by decide +kernel
theorem dX4_exchange_10 : decode cX4_exchange 10 = .ok (.invokevirtual 199, 3) := by decide +kernel
theorem dX4_exchange_13 : decode cX4_exchange 13 = .ok (.iconst (-1), 1) := by decide +kernel
theorem dX4_exchange_14 : decode cX4_exchange 14 = .ok (.if_icmp .ne 13, 3) := by decide +kernel
theorem dX4_exchange_17 : decode cX4_exchange 17 = .ok (.new 60, 3) := by decide +kernel
theorem dX4_exchange_20 : decode cX4_exchange 20 = .ok (.dup, 1) := by decide +kernel
theorem dX4_exchange_21 : decode cX4_exchange 21 = .ok (.ldc 205, 2) := by decide +kernel
theorem dX4_exchange_23 : decode cX4_exchange 23 = .ok (.invokespecial 64, 3) := by decide +kernel
theorem dX4_exchange_26 : decode cX4_exchange 26 = .ok (.athrow, 1) := by decide +kernel
theorem dX4_exchange_27 : decode cX4_exchange 27 = .ok (.aload_n 0, 1) := by decide +kernel
theorem dX4_exchange_28 : decode cX4_exchange 28 = .ok (.getfield 37, 3) := by decide +kernel
theorem dX4_exchange_31 : decode cX4_exchange 31 = .ok (.iload_n 1, 1) := by decide +kernel
theorem dX4_exchange_32 : decode cX4_exchange 32 = .ok (.invokevirtual 207, 3) := by decide +kernel
theorem dX4_exchange_35 : decode cX4_exchange 35 = .ok (.ifCond .ne 13, 3) := by decide +kernel
theorem dX4_exchange_38 : decode cX4_exchange 38 = .ok (.new 60, 3) := by decide +kernel
theorem dX4_exchange_41 : decode cX4_exchange 41 = .ok (.dup, 1) := by decide +kernel
theorem dX4_exchange_42 : decode cX4_exchange 42 = .ok (.ldc 210, 2) := by decide +kernel
theorem dX4_exchange_44 : decode cX4_exchange 44 = .ok (.invokespecial 64, 3) := by decide +kernel
theorem dX4_exchange_47 : decode cX4_exchange 47 = .ok (.athrow, 1) := by decide +kernel
theorem dX4_exchange_48 : decode cX4_exchange 48 = .ok (.aload_n 0, 1) := by decide +kernel
theorem dX4_exchange_49 : decode cX4_exchange 49 = .ok (.getfield 37, 3) := by decide +kernel
theorem dX4_exchange_52 : decode cX4_exchange 52 = .ok (.invokevirtual 212, 3) := by decide +kernel
theorem dX4_exchange_55 : decode cX4_exchange 55 = .ok (.ireturn, 1) := by decide +kernel
theorem dX4_needRow_0 : decode cX4_needRow 0 = .ok (.aload_n 0, 1) := by decide +kernel
theorem dX4_needRow_1 : decode cX4_needRow 1 = .ok (.getfield 10, 3) := by decide +kernel
theorem dX4_needRow_4 : decode cX4_needRow 4 = .ok (.iload_n 1, 1) := by decide +kernel
theorem dX4_needRow_5 : decode cX4_needRow 5 = .ok (.invokevirtual 215, 3) := by decide +kernel
theorem dX4_needRow_8 : decode cX4_needRow 8 = .ok (.ifCond .ne 13, 3) := by decide +kernel
theorem dX4_needRow_11 : decode cX4_needRow 11 = .ok (.new 218, 3) := by decide +kernel
theorem dX4_needRow_14 : decode cX4_needRow 14 = .ok (.dup, 1) := by decide +kernel
theorem dX4_needRow_15 : decode cX4_needRow 15 = .ok (.ldc 220, 2) := by decide +kernel
theorem dX4_needRow_17 : decode cX4_needRow 17 = .ok (.invokespecial 222, 3) := by decide +kernel
theorem dX4_needRow_20 : decode cX4_needRow 20 = .ok (.athrow, 1) := by decide +kernel
theorem dX4_needRow_21 : decode cX4_needRow 21 = .ok (.return_, 1) := by decide +kernel
theorem dX4_needSeat_0 : decode cX4_needSeat 0 = .ok (.aload_n 0, 1) := by decide +kernel
theorem dX4_needSeat_1 : decode cX4_needSeat 1 = .ok (.getfield 10, 3) := by decide +kernel
theorem dX4_needSeat_4 : decode cX4_needSeat 4 = .ok (.iload_n 1, 1) := by decide +kernel
theorem dX4_needSeat_5 : decode cX4_needSeat 5 = .ok (.iload_n 2, 1) := by decide +kernel
theorem dX4_needSeat_6 : decode cX4_needSeat 6 = .ok (.invokevirtual 223, 3) := by decide +kernel
theorem dX4_needSeat_9 : decode cX4_needSeat 9 = .ok (.ifCond .ne 13, 3) := by decide +kernel
theorem dX4_needSeat_12 : decode cX4_needSeat 12 = .ok (.new 218, 3) := by decide +kernel
theorem dX4_needSeat_15 : decode cX4_needSeat 15 = .ok (.dup, 1) := by decide +kernel
theorem dX4_needSeat_16 : decode cX4_needSeat 16 = .ok (.ldc 227, 2) := by decide +kernel
theorem dX4_needSeat_18 : decode cX4_needSeat 18 = .ok (.invokespecial 222, 3) := by decide +kernel
theorem dX4_needSeat_21 : decode cX4_needSeat 21 = .ok (.athrow, 1) := by decide +kernel
theorem dX4_needSeat_22 : decode cX4_needSeat 22 = .ok (.return_, 1) := by decide +kernel
theorem dX4_needTicket_0 : decode cX4_needTicket 0 = .ok (.aload_n 0, 1) := by decide +kernel
theorem dX4_needTicket_1 : decode cX4_needTicket 1 = .ok (.getfield 19, 3) := by decide +kernel
theorem dX4_needTicket_4 : decode cX4_needTicket 4 = .ok (.iload_n 1, 1) := by decide +kernel
theorem dX4_needTicket_5 : decode cX4_needTicket 5 = .ok (.invokevirtual 229, 3) := by decide +kernel
theorem dX4_needTicket_8 : decode cX4_needTicket 8 = .ok (.ifCond .ne 13, 3) := by decide +kernel
theorem dX4_needTicket_11 : decode cX4_needTicket 11 = .ok (.new 218, 3) := by decide +kernel
theorem dX4_needTicket_14 : decode cX4_needTicket 14 = .ok (.dup, 1) := by decide +kernel
theorem dX4_needTicket_15 : decode cX4_needTicket 15 = .ok (.ldc 232, 2) := by decide +kernel
theorem dX4_needTicket_17 : decode cX4_needTicket 17 = .ok (.invokespecial 222, 3) := by decide +kernel
theorem dX4_needTicket_20 : decode cX4_needTicket 20 = .ok (.athrow, 1) := by decide +kernel
theorem dX4_needTicket_21 : decode cX4_needTicket 21 = .ok (.return_, 1) := by decide +kernel
theorem dX4_needRange_0 : decode cX4_needRange 0 = .ok (.iload_n 0, 1) := by decide +kernel
theorem dX4_needRange_1 : decode cX4_needRange 1 = .ok (.iload_n 1, 1) := by decide +kernel
theorem dX4_needRange_2 : decode cX4_needRange 2 = .ok (.if_icmp .lt 8, 3) := by decide +kernel
theorem dX4_needRange_5 : decode cX4_needRange 5 = .ok (.iload_n 0, 1) := by decide +kernel
theorem dX4_needRange_6 : decode cX4_needRange 6 = .ok (.iload_n 2, 1) := by decide +kernel
theorem dX4_needRange_7 : decode cX4_needRange 7 = .ok (.if_icmp .le 13, 3) := by decide +kernel
theorem dX4_needRange_10 : decode cX4_needRange 10 = .ok (.new 234, 3) := by decide +kernel
theorem dX4_needRange_13 : decode cX4_needRange 13 = .ok (.dup, 1) := by decide +kernel
theorem dX4_needRange_14 : decode cX4_needRange 14 = .ok (.ldc 236, 2) := by decide +kernel
theorem dX4_needRange_16 : decode cX4_needRange 16 = .ok (.invokespecial 238, 3) := by decide +kernel
theorem dX4_needRange_19 : decode cX4_needRange 19 = .ok (.athrow, 1) := by decide +kernel
theorem dX4_needRange_20 : decode cX4_needRange 20 = .ok (.return_, 1) := by decide +kernel
theorem dX4_needSeats_0 : decode cX4_needSeats 0 = .ok (.iload_n 0, 1) := by decide +kernel
theorem dX4_needSeats_1 : decode cX4_needSeats 1 = .ok (.iconst 1, 1) := by decide +kernel
theorem dX4_needSeats_2 : decode cX4_needSeats 2 = .ok (.bipush 20, 2) := by decide +kernel
theorem dX4_needSeats_4 : decode cX4_needSeats 4 = .ok (.invokestatic 52, 3) := by decide +kernel
theorem dX4_needSeats_7 : decode cX4_needSeats 7 = .ok (.return_, 1) := by decide +kernel
theorem dX4_needMinutes_0 : decode cX4_needMinutes 0 = .ok (.iload_n 0, 1) := by decide +kernel
theorem dX4_needMinutes_1 : decode cX4_needMinutes 1 = .ok (.iconst 1, 1) := by decide +kernel
theorem dX4_needMinutes_2 : decode cX4_needMinutes 2 = .ok (.sipush 200, 3) := by decide +kernel
theorem dX4_needMinutes_5 : decode cX4_needMinutes 5 = .ok (.invokestatic 52, 3) := by decide +kernel
theorem dX4_needMinutes_8 : decode cX4_needMinutes 8 = .ok (.return_, 1) := by decide +kernel
theorem dX4_needPeople_0 : decode cX4_needPeople 0 = .ok (.iload_n 0, 1) := by decide +kernel
theorem dX4_needPeople_1 : decode cX4_needPeople 1 = .ok (.iconst 2, 1) := by decide +kernel
theorem dX4_needPeople_2 : decode cX4_needPeople 2 = .ok (.bipush 100, 2) := by decide +kernel
theorem dX4_needPeople_4 : decode cX4_needPeople 4 = .ok (.invokestatic 52, 3) := by decide +kernel
theorem dX4_needPeople_7 : decode cX4_needPeople 7 = .ok (.return_, 1) := by decide +kernel
theorem dX4_needHold_0 : decode cX4_needHold 0 = .ok (.aload_n 0, 1) := by decide +kernel
theorem dX4_needHold_1 : decode cX4_needHold 1 = .ok (.getfield 19, 3) := by decide +kernel
theorem dX4_needHold_4 : decode cX4_needHold 4 = .ok (.iload_n 1, 1) := by decide +kernel
theorem dX4_needHold_5 : decode cX4_needHold 5 = .ok (.invokevirtual 85, 3) := by decide +kernel
theorem dX4_needHold_8 : decode cX4_needHold 8 = .ok (.ifCond .eq 13, 3) := by decide +kernel
theorem dX4_needHold_11 : decode cX4_needHold 11 = .ok (.new 60, 3) := by decide +kernel
theorem dX4_needHold_14 : decode cX4_needHold 14 = .ok (.dup, 1) := by decide +kernel
theorem dX4_needHold_15 : decode cX4_needHold 15 = .ok (.ldc 239, 2) := by decide +kernel
theorem dX4_needHold_17 : decode cX4_needHold 17 = .ok (.invokespecial 64, 3) := by decide +kernel
theorem dX4_needHold_20 : decode cX4_needHold 20 = .ok (.athrow, 1) := by decide +kernel
theorem dX4_needHold_21 : decode cX4_needHold 21 = .ok (.return_, 1) := by decide +kernel
theorem dX4_needTicketLeft_0 : decode cX4_needTicketLeft 0 = .ok (.aload_n 0, 1) := by decide +kernel
theorem dX4_needTicketLeft_1 : decode cX4_needTicketLeft 1 = .ok (.getfield 19, 3) := by decide +kernel
theorem dX4_needTicketLeft_4 : decode cX4_needTicketLeft 4 = .ok (.invokevirtual 146, 3) := by decide +kernel
theorem dX4_needTicketLeft_7 : decode cX4_needTicketLeft 7 = .ok (.bipush 100, 2) := by decide +kernel
theorem dX4_needTicketLeft_9 : decode cX4_needTicketLeft 9 = .ok (.if_icmp .lt 13, 3) := by decide +kernel
theorem dX4_needTicketLeft_12 : decode cX4_needTicketLeft 12 = .ok (.new 60, 3) := by decide +kernel
theorem dX4_needTicketLeft_15 : decode cX4_needTicketLeft 15 = .ok (.dup, 1) := by decide +kernel
theorem dX4_needTicketLeft_16 : decode cX4_needTicketLeft 16 = .ok (.ldc 241, 2) := by decide +kernel
theorem dX4_needTicketLeft_18 : decode cX4_needTicketLeft 18 = .ok (.invokespecial 64, 3) := by decide +kernel
theorem dX4_needTicketLeft_21 : decode cX4_needTicketLeft 21 = .ok (.athrow, 1) := by decide +kernel
theorem dX4_needTicketLeft_22 : decode cX4_needTicketLeft 22 = .ok (.return_, 1) := by decide +kernel
theorem dX4_needBest_0 : decode cX4_needBest 0 = .ok (.aload_n 0, 1) := by decide +kernel
theorem dX4_needBest_1 : decode cX4_needBest 1 = .ok (.getfield 10, 3) := by decide +kernel
theorem dX4_needBest_4 : decode cX4_needBest 4 = .ok (.iload_n 1, 1) := by decide +kernel
theorem dX4_needBest_5 : decode cX4_needBest 5 = .ok (.iconst 0, 1) := by decide +kernel
theorem dX4_needBest_6 : decode cX4_needBest 6 = .ok (.invokevirtual 243, 3) := by decide +kernel
theorem dX4_needBest_9 : decode cX4_needBest 9 = .ok (.istore_n 2, 1) := by decide +kernel
theorem dX4_needBest_10 : decode cX4_needBest 10 = .ok (.iload_n 2, 1) := by decide +kernel
theorem dX4_needBest_11 : decode cX4_needBest 11 = .ok (.iconst (-1), 1) := by decide +kernel
theorem dX4_needBest_12 : decode cX4_needBest 12 = .ok (.if_icmp .ne 13, 3) := by decide +kernel
theorem dX4_needBest_15 : decode cX4_needBest 15 = .ok (.aload_n 0, 1) := by decide +kernel
theorem dX4_needBest_16 : decode cX4_needBest 16 = .ok (.getfield 10, 3) := by decide +kernel
theorem dX4_needBest_19 : decode cX4_needBest 19 = .ok (.iload_n 1, 1) := by decide +kernel
theorem dX4_needBest_20 : decode cX4_needBest 20 = .ok (.iconst 1, 1) := by decide +kernel
theorem dX4_needBest_21 : decode cX4_needBest 21 = .ok (.invokevirtual 243, 3) := by decide +kernel
theorem dX4_needBest_24 : decode cX4_needBest 24 = .ok (.istore_n 2, 1) := by decide +kernel
theorem dX4_needBest_25 : decode cX4_needBest 25 = .ok (.iload_n 2, 1) := by decide +kernel
theorem dX4_needBest_26 : decode cX4_needBest 26 = .ok (.iconst (-1), 1) := by decide +kernel
theorem dX4_needBest_27 : decode cX4_needBest 27 = .ok (.if_icmp .ne 13, 3) := by decide +kernel
theorem dX4_needBest_30 : decode cX4_needBest 30 = .ok (.new 60, 3) := by decide +kernel
theorem dX4_needBest_33 : decode cX4_needBest 33 = .ok (.dup, 1) := by decide +kernel
theorem dX4_needBest_34 : decode cX4_needBest 34 = .ok (.ldc 247, 2) := by decide +kernel
theorem dX4_needBest_36 : decode cX4_needBest 36 = .ok (.invokespecial 64, 3) := by decide +kernel
theorem dX4_needBest_39 : decode cX4_needBest 39 = .ok (.athrow, 1) := by decide +kernel
theorem dX4_needBest_40 : decode cX4_needBest 40 = .ok (.iload_n 2, 1) := by decide +kernel
theorem dX4_needBest_41 : decode cX4_needBest 41 = .ok (.ireturn, 1) := by decide +kernel
theorem dX4_needSplit_0 : decode cX4_needSplit 0 = .ok (.aload_n 0, 1) := by decide +kernel
theorem dX4_needSplit_1 : decode cX4_needSplit 1 = .ok (.getfield 28, 3) := by decide +kernel
theorem dX4_needSplit_4 : decode cX4_needSplit 4 = .ok (.iload_n 1, 1) := by decide +kernel
theorem dX4_needSplit_5 : decode cX4_needSplit 5 = .ok (.invokevirtual 249, 3) := by decide +kernel
theorem dX4_needSplit_8 : decode cX4_needSplit 8 = .ok (.ifCond .ne 13, 3) := by decide +kernel
theorem dX4_needSplit_11 : decode cX4_needSplit 11 = .ok (.new 60, 3) := by decide +kernel
theorem dX4_needSplit_14 : decode cX4_needSplit 14 = .ok (.dup, 1) := by decide +kernel
theorem dX4_needSplit_15 : decode cX4_needSplit 15 = .ok (.ldc 250, 2) := by decide +kernel
theorem dX4_needSplit_17 : decode cX4_needSplit 17 = .ok (.invokespecial 64, 3) := by decide +kernel
theorem dX4_needSplit_20 : decode cX4_needSplit 20 = .ok (.athrow, 1) := by decide +kernel
theorem dX4_needSplit_21 : decode cX4_needSplit 21 = .ok (.return_, 1) := by decide +kernel
theorem dX4_grantBlock_0 : decode cX4_grantBlock 0 = .ok (.aload_n 0, 1) := by decide +kernel
theorem dX4_grantBlock_1 : decode cX4_grantBlock 1 = .ok (.getfield 19, 3) := by decide +kernel
theorem dX4_grantBlock_4 : decode cX4_grantBlock 4 = .ok (.iload_n 3, 1) := by decide +kernel
theorem dX4_grantBlock_5 : decode cX4_grantBlock 5 = .ok (.aload_n 0, 1) := by decide +kernel
theorem dX4_grantBlock_6 : decode cX4_grantBlock 6 = .ok (.getfield 41, 3) := by decide +kernel
theorem dX4_grantBlock_9 : decode cX4_grantBlock 9 = .ok (.iload 4, 2) := by decide +kernel
theorem dX4_grantBlock_11 : decode cX4_grantBlock 11 = .ok (.iadd, 1) := by decide +kernel
theorem dX4_grantBlock_12 : decode cX4_grantBlock 12 = .ok (.invokevirtual 252, 3) := by decide +kernel
theorem dX4_grantBlock_15 : decode cX4_grantBlock 15 = .ok (.istore 5, 2) := by decide +kernel
theorem dX4_grantBlock_17 : decode cX4_grantBlock 17 = .ok (.aload_n 0, 1) := by decide +kernel
theorem dX4_grantBlock_18 : decode cX4_grantBlock 18 = .ok (.getfield 19, 3) := by decide +kernel
theorem dX4_grantBlock_21 : decode cX4_grantBlock 21 = .ok (.iload 5, 2) := by decide +kernel
theorem dX4_grantBlock_23 : decode cX4_grantBlock 23 = .ok (.iload_n 1, 1) := by decide +kernel
theorem dX4_grantBlock_24 : decode cX4_grantBlock 24 = .ok (.iload_n 2, 1) := by decide +kernel
theorem dX4_grantBlock_25 : decode cX4_grantBlock 25 = .ok (.invokevirtual 255, 3) := by decide +kernel
theorem dX4_grantBlock_28 : decode cX4_grantBlock 28 = .ok (.aload_n 0, 1) := by decide +kernel
theorem dX4_grantBlock_29 : decode cX4_grantBlock 29 = .ok (.getfield 10, 3) := by decide +kernel
theorem dX4_grantBlock_32 : decode cX4_grantBlock 32 = .ok (.iload_n 1, 1) := by decide +kernel
theorem dX4_grantBlock_33 : decode cX4_grantBlock 33 = .ok (.iload_n 2, 1) := by decide +kernel
theorem dX4_grantBlock_34 : decode cX4_grantBlock 34 = .ok (.iload_n 3, 1) := by decide +kernel
theorem dX4_grantBlock_35 : decode cX4_grantBlock 35 = .ok (.iload 5, 2) := by decide +kernel
theorem dX4_grantBlock_37 : decode cX4_grantBlock 37 = .ok (.invokevirtual 81, 3) := by decide +kernel
theorem dX4_grantBlock_40 : decode cX4_grantBlock 40 = .ok (.iload 5, 2) := by decide +kernel
theorem dX4_grantBlock_42 : decode cX4_grantBlock 42 = .ok (.ireturn, 1) := by decide +kernel
theorem dX4_grantSplit_0 : decode cX4_grantSplit 0 = .ok (.aload_n 0, 1) := by decide +kernel
theorem dX4_grantSplit_1 : decode cX4_grantSplit 1 = .ok (.getfield 19, 3) := by decide +kernel
theorem dX4_grantSplit_4 : decode cX4_grantSplit 4 = .ok (.iload_n 1, 1) := by decide +kernel
theorem dX4_grantSplit_5 : decode cX4_grantSplit 5 = .ok (.aload_n 0, 1) := by decide +kernel
theorem dX4_grantSplit_6 : decode cX4_grantSplit 6 = .ok (.getfield 41, 3) := by decide +kernel
theorem dX4_grantSplit_9 : decode cX4_grantSplit 9 = .ok (.iload_n 2, 1) := by decide +kernel
theorem dX4_grantSplit_10 : decode cX4_grantSplit 10 = .ok (.iadd, 1) := by decide +kernel
theorem dX4_grantSplit_11 : decode cX4_grantSplit 11 = .ok (.invokevirtual 252, 3) := by decide +kernel
theorem dX4_grantSplit_14 : decode cX4_grantSplit 14 = .ok (.istore_n 3, 1) := by decide +kernel
theorem dX4_grantSplit_15 : decode cX4_grantSplit 15 = .ok (.aload_n 0, 1) := by decide +kernel
theorem dX4_grantSplit_16 : decode cX4_grantSplit 16 = .ok (.getfield 28, 3) := by decide +kernel
theorem dX4_grantSplit_19 : decode cX4_grantSplit 19 = .ok (.invokevirtual 137, 3) := by decide +kernel
theorem dX4_grantSplit_22 : decode cX4_grantSplit 22 = .ok (.iconst 1, 1) := by decide +kernel
theorem dX4_grantSplit_23 : decode cX4_grantSplit 23 = .ok (.if_icmp .ne 7, 3) := by decide +kernel
theorem dX4_grantSplit_26 : decode cX4_grantSplit 26 = .ok (.iconst 1, 1) := by decide +kernel
theorem dX4_grantSplit_27 : decode cX4_grantSplit 27 = .ok (.goto 4, 3) := by decide +kernel
theorem dX4_grantSplit_30 : decode cX4_grantSplit 30 = .ok (.iconst 0, 1) := by decide +kernel
theorem dX4_grantSplit_31 : decode cX4_grantSplit 31 = .ok (.istore 4, 2) := by decide +kernel
theorem dX4_grantSplit_33 : decode cX4_grantSplit 33 = .ok (.iconst 0, 1) := by decide +kernel
theorem dX4_grantSplit_34 : decode cX4_grantSplit 34 = .ok (.istore 5, 2) := by decide +kernel
theorem dX4_grantSplit_36 : decode cX4_grantSplit 36 = .ok (.iload 5, 2) := by decide +kernel
theorem dX4_grantSplit_38 : decode cX4_grantSplit 38 = .ok (.aload_n 0, 1) := by decide +kernel
theorem dX4_grantSplit_39 : decode cX4_grantSplit 39 = .ok (.getfield 10, 3) := by decide +kernel
theorem dX4_grantSplit_42 : decode cX4_grantSplit 42 = .ok (.invokevirtual 56, 3) := by decide +kernel
theorem dX4_grantSplit_45 : decode cX4_grantSplit 45 = .ok (.if_icmp .ge 67, 3) := by decide +kernel
theorem dX4_grantSplit_48 : decode cX4_grantSplit 48 = .ok (.aload_n 0, 1) := by decide +kernel
theorem dX4_grantSplit_49 : decode cX4_grantSplit 49 = .ok (.getfield 28, 3) := by decide +kernel
theorem dX4_grantSplit_52 : decode cX4_grantSplit 52 = .ok (.iload 5, 2) := by decide +kernel
theorem dX4_grantSplit_54 : decode cX4_grantSplit 54 = .ok (.invokevirtual 140, 3) := by decide +kernel
theorem dX4_grantSplit_57 : decode cX4_grantSplit 57 = .ok (.istore 6, 2) := by decide +kernel
theorem dX4_grantSplit_59 : decode cX4_grantSplit 59 = .ok (.iload 6, 2) := by decide +kernel
theorem dX4_grantSplit_61 : decode cX4_grantSplit 61 = .ok (.ifCond .le 45, 3) := by decide +kernel
theorem dX4_grantSplit_64 : decode cX4_grantSplit 64 = .ok (.aload_n 0, 1) := by decide +kernel
theorem dX4_grantSplit_65 : decode cX4_grantSplit 65 = .ok (.getfield 28, 3) := by decide +kernel
theorem dX4_grantSplit_68 : decode cX4_grantSplit 68 = .ok (.iload 5, 2) := by decide +kernel
theorem dX4_grantSplit_70 : decode cX4_grantSplit 70 = .ok (.invokevirtual 258, 3) := by decide +kernel
theorem dX4_grantSplit_73 : decode cX4_grantSplit 73 = .ok (.istore 7, 2) := by decide +kernel
theorem dX4_grantSplit_75 : decode cX4_grantSplit 75 = .ok (.aload_n 0, 1) := by decide +kernel
theorem dX4_grantSplit_76 : decode cX4_grantSplit 76 = .ok (.getfield 10, 3) := by decide +kernel
theorem dX4_grantSplit_79 : decode cX4_grantSplit 79 = .ok (.iload 5, 2) := by decide +kernel
theorem dX4_grantSplit_81 : decode cX4_grantSplit 81 = .ok (.iload 7, 2) := by decide +kernel
theorem dX4_grantSplit_83 : decode cX4_grantSplit 83 = .ok (.iload 6, 2) := by decide +kernel
theorem dX4_grantSplit_85 : decode cX4_grantSplit 85 = .ok (.iload_n 3, 1) := by decide +kernel
theorem dX4_grantSplit_86 : decode cX4_grantSplit 86 = .ok (.invokevirtual 81, 3) := by decide +kernel
theorem dX4_grantSplit_89 : decode cX4_grantSplit 89 = .ok (.iload 4, 2) := by decide +kernel
theorem dX4_grantSplit_91 : decode cX4_grantSplit 91 = .ok (.ifCond .eq 15, 3) := by decide +kernel
theorem dX4_grantSplit_94 : decode cX4_grantSplit 94 = .ok (.aload_n 0, 1) := by decide +kernel
theorem dX4_grantSplit_95 : decode cX4_grantSplit 95 = .ok (.getfield 19, 3) := by decide +kernel
theorem dX4_grantSplit_98 : decode cX4_grantSplit 98 = .ok (.iload_n 3, 1) := by decide +kernel
theorem dX4_grantSplit_99 : decode cX4_grantSplit 99 = .ok (.iload 5, 2) := by decide +kernel
theorem dX4_grantSplit_101 : decode cX4_grantSplit 101 = .ok (.iload 7, 2) := by decide +kernel
theorem dX4_grantSplit_103 : decode cX4_grantSplit 103 = .ok (.invokevirtual 255, 3) := by decide +kernel
theorem dX4_grantSplit_106 : decode cX4_grantSplit 106 = .ok (.iinc 5 1, 3) := by decide +kernel
theorem dX4_grantSplit_109 : decode cX4_grantSplit 109 = .ok (.goto (-73), 3) := by decide +kernel
theorem dX4_grantSplit_112 : decode cX4_grantSplit 112 = .ok (.iload_n 3, 1) := by decide +kernel
theorem dX4_grantSplit_113 : decode cX4_grantSplit 113 = .ok (.ireturn, 1) := by decide +kernel
theorem dX4_closeTicket_0 : decode cX4_closeTicket 0 = .ok (.aload_n 0, 1) := by decide +kernel
theorem dX4_closeTicket_1 : decode cX4_closeTicket 1 = .ok (.getfield 10, 3) := by decide +kernel
theorem dX4_closeTicket_4 : decode cX4_closeTicket 4 = .ok (.iload_n 1, 1) := by decide +kernel
theorem dX4_closeTicket_5 : decode cX4_closeTicket 5 = .ok (.invokevirtual 261, 3) := by decide +kernel
theorem dX4_closeTicket_8 : decode cX4_closeTicket 8 = .ok (.aload_n 0, 1) := by decide +kernel
theorem dX4_closeTicket_9 : decode cX4_closeTicket 9 = .ok (.getfield 19, 3) := by decide +kernel
theorem dX4_closeTicket_12 : decode cX4_closeTicket 12 = .ok (.iload_n 1, 1) := by decide +kernel
theorem dX4_closeTicket_13 : decode cX4_closeTicket 13 = .ok (.iload_n 2, 1) := by decide +kernel
theorem dX4_closeTicket_14 : decode cX4_closeTicket 14 = .ok (.invokevirtual 264, 3) := by decide +kernel
theorem dX4_closeTicket_17 : decode cX4_closeTicket 17 = .ok (.return_, 1) := by decide +kernel
