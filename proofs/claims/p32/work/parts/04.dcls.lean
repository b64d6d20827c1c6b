theorem dX2_init_0 : decode cX2_init 0 = .ok (.aload_n 0, 1) := by decide +kernel
theorem dX2_init_1 : decode cX2_init 1 = .ok (.invokespecial 3, 3) := by decide +kernel
theorem dX2_init_4 : decode cX2_init 4 = .ok (.aload_n 0, 1) := by decide +kernel
theorem dX2_init_5 : decode cX2_init 5 = .ok (.bipush 12, 2) := by decide +kernel
theorem dX2_init_7 : decode cX2_init 7 = .ok (.newarray .int, 2) := by decide +kernel
theorem dX2_init_9 : decode cX2_init 9 = .ok (.putfield 9, 3) := by decide +kernel
theorem dX2_init_12 : decode cX2_init 12 = .ok (.aload_n 0, 1) := by decide +kernel
theorem dX2_init_13 : decode cX2_init 13 = .ok (.bipush 12, 2) := by decide +kernel
theorem dX2_init_15 : decode cX2_init 15 = .ok (.newarray .int, 2) := by decide +kernel
theorem dX2_init_17 : decode cX2_init 17 = .ok (.putfield 15, 3) := by decide +kernel
theorem dX2_init_20 : decode cX2_init 20 = .ok (.aload_n 0, 1) := by decide +kernel
theorem dX2_init_21 : decode cX2_init 21 = .ok (.bipush 12, 2) := by decide +kernel
theorem dX2_init_23 : decode cX2_init 23 = .ok (.newarray .int, 2) := by decide +kernel
theorem dX2_init_25 : decode cX2_init 25 = .ok (.putfield 18, 3) := by decide +kernel
theorem dX2_init_28 : decode cX2_init 28 = .ok (.aload_n 0, 1) := by decide +kernel
theorem dX2_init_29 : decode cX2_init 29 = .ok (.bipush 12, 2) := by decide +kernel
theorem dX2_init_31 : decode cX2_init 31 = .ok (.bipush 20, 2) := by decide +kernel
theorem dX2_init_33 : decode cX2_init 33 = .ok (.multianewarray 21 2, 4) := by decide +kernel
theorem dX2_init_37 : decode cX2_init 37 = .ok (.putfield 23, 3) := by decide +kernel
theorem dX2_init_40 : decode cX2_init 40 = .ok (.aload_n 0, 1) := by decide +kernel
theorem dX2_init_41 : decode cX2_init 41 = .ok (.iconst 0, 1) := by decide +kernel
theorem dX2_init_42 : decode cX2_init 42 = .ok (.putfield 26, 3) := by decide +kernel
theorem dX2_init_45 : decode cX2_init 45 = .ok (.return_, 1) := by decide +kernel
theorem dX2_rowCount_0 : decode cX2_rowCount 0 = .ok (.aload_n 0, 1) := by decide +kernel
theorem dX2_rowCount_1 : decode cX2_rowCount 1 = .ok (.getfield 26, 3) := by decide +kernel
theorem dX2_rowCount_4 : decode cX2_rowCount 4 = .ok (.ireturn, 1) := by decide +kernel
theorem dX2_hasRow_0 : decode cX2_hasRow 0 = .ok (.iload_n 1, 1) := by decide +kernel
theorem dX2_hasRow_1 : decode cX2_hasRow 1 = .ok (.ifCond .lt 15, 3) := by decide +kernel
theorem dX2_hasRow_4 : decode cX2_hasRow 4 = .ok (.iload_n 1, 1) := by decide +kernel
theorem dX2_hasRow_5 : decode cX2_hasRow 5 = .ok (.aload_n 0, 1) := by decide +kernel
theorem dX2_hasRow_6 : decode cX2_hasRow 6 = .ok (.getfield 26, 3) := by decide +kernel
theorem dX2_hasRow_9 : decode cX2_hasRow 9 = .ok (.if_icmp .ge 7, 3) := by decide +kernel
theorem dX2_hasRow_12 : decode cX2_hasRow 12 = .ok (.iconst 1, 1) := by decide +kernel
theorem dX2_hasRow_13 : decode cX2_hasRow 13 = .ok (.goto 4, 3) := by decide +kernel
theorem dX2_hasRow_16 : decode cX2_hasRow 16 = .ok (.iconst 0, 1) := by decide +kernel
theorem dX2_hasRow_17 : decode cX2_hasRow 17 = .ok (.ireturn, 1) := by decide +kernel
theorem dX2_seatsIn_0 : decode cX2_seatsIn 0 = .ok (.iload_n 1, 1) := by decide +kernel
theorem dX2_seatsIn_1 : decode cX2_seatsIn 1 = .ok (.ifCond .lt 20, 3) := by decide +kernel
theorem dX2_seatsIn_4 : decode cX2_seatsIn 4 = .ok (.iload_n 1, 1) := by decide +kernel
theorem dX2_seatsIn_5 : decode cX2_seatsIn 5 = .ok (.aload_n 0, 1) := by decide +kernel
theorem dX2_seatsIn_6 : decode cX2_seatsIn 6 = .ok (.getfield 26, 3) := by decide +kernel
theorem dX2_seatsIn_9 : decode cX2_seatsIn 9 = .ok (.if_icmp .ge 12, 3) := by decide +kernel
theorem dX2_seatsIn_12 : decode cX2_seatsIn 12 = .ok (.aload_n 0, 1) := by decide +kernel
theorem dX2_seatsIn_13 : decode cX2_seatsIn 13 = .ok (.getfield 9, 3) := by decide +kernel
theorem dX2_seatsIn_16 : decode cX2_seatsIn 16 = .ok (.iload_n 1, 1) := by decide +kernel
theorem dX2_seatsIn_17 : decode cX2_seatsIn 17 = .ok (.iaload, 1) := by decide +kernel
theorem dX2_seatsIn_18 : decode cX2_seatsIn 18 = .ok (.goto 4, 3) := by decide +kernel
theorem dX2_seatsIn_21 : decode cX2_seatsIn 21 = .ok (.iconst 0, 1) := by decide +kernel
theorem dX2_seatsIn_22 : decode cX2_seatsIn 22 = .ok (.ireturn, 1) := by decide +kernel
theorem dX2_hasSeat_0 : decode cX2_hasSeat 0 = .ok (.iload_n 1, 1) := by decide +kernel
theorem dX2_hasSeat_1 : decode cX2_hasSeat 1 = .ok (.ifCond .lt 29, 3) := by decide +kernel
theorem dX2_hasSeat_4 : decode cX2_hasSeat 4 = .ok (.iload_n 1, 1) := by decide +kernel
theorem dX2_hasSeat_5 : decode cX2_hasSeat 5 = .ok (.aload_n 0, 1) := by decide +kernel
theorem dX2_hasSeat_6 : decode cX2_hasSeat 6 = .ok (.getfield 26, 3) := by decide +kernel
theorem dX2_hasSeat_9 : decode cX2_hasSeat 9 = .ok (.if_icmp .ge 21, 3) := by decide +kernel
theorem dX2_hasSeat_12 : decode cX2_hasSeat 12 = .ok (.iload_n 2, 1) := by decide +kernel
theorem dX2_hasSeat_13 : decode cX2_hasSeat 13 = .ok (.ifCond .lt 17, 3) := by decide +kernel
theorem dX2_hasSeat_16 : decode cX2_hasSeat 16 = .ok (.iload_n 2, 1) := by decide +kernel
theorem dX2_hasSeat_17 : decode cX2_hasSeat 17 = .ok (.aload_n 0, 1) := by decide +kernel
theorem dX2_hasSeat_18 : decode cX2_hasSeat 18 = .ok (.getfield 9, 3) := by decide +kernel
theorem dX2_hasSeat_21 : decode cX2_hasSeat 21 = .ok (.iload_n 1, 1) := by decide +kernel
theorem dX2_hasSeat_22 : decode cX2_hasSeat 22 = .ok (.iaload, 1) := by decide +kernel
theorem dX2_hasSeat_23 : decode cX2_hasSeat 23 = .ok (.if_icmp .ge 7, 3) := by decide +kernel
theorem dX2_hasSeat_26 : decode cX2_hasSeat 26 = .ok (.iconst 1, 1) := by decide +kernel
theorem dX2_hasSeat_27 : decode cX2_hasSeat 27 = .ok (.goto 4, 3) := by decide +kernel
theorem dX2_hasSeat_30 : decode cX2_hasSeat 30 = .ok (.iconst 0, 1) := by decide +kernel
theorem dX2_hasSeat_31 : decode cX2_hasSeat 31 = .ok (.ireturn, 1) := by decide +kernel
theorem dX2_append_0 : decode cX2_append 0 = .ok (.aload_n 0, 1) := by decide +kernel
theorem dX2_append_1 : decode cX2_append 1 = .ok (.getfield 26, 3) := by decide +kernel
theorem dX2_append_4 : decode cX2_append 4 = .ok (.bipush 12, 2) := by decide +kernel
theorem dX2_append_6 : decode cX2_append 6 = .ok (.if_icmp .ge 14, 3) := by decide +kernel
theorem dX2_append_9 : decode cX2_append 9 = .ok (.iload_n 1, 1) := by decide +kernel
theorem dX2_append_10 : decode cX2_append 10 = .ok (.iconst 1, 1) := by decide +kernel
theorem dX2_append_11 : decode cX2_append 11 = .ok (.if_icmp .lt 9, 3) := by decide +kernel
theorem dX2_append_14 : decode cX2_append 14 = .ok (.iload_n 1, 1) := by decide +kernel
theorem dX2_append_15 : decode cX2_append 15 = .ok (.bipush 20, 2) := by decide +kernel
theorem dX2_append_17 : decode cX2_append 17 = .ok (.if_icmp .le 5, 3) := by decide +kernel
theorem dX2_append_20 : decode cX2_append 20 = .ok (.iconst (-1), 1) := by decide +kernel
theorem dX2_append_21 : decode cX2_append 21 = .ok (.ireturn, 1) := by decide +kernel
theorem dX2_append_22 : decode cX2_append 22 = .ok (.aload_n 0, 1) := by decide +kernel
theorem dX2_append_23 : decode cX2_append 23 = .ok (.getfield 9, 3) := by decide +kernel
theorem dX2_append_26 : decode cX2_append 26 = .ok (.aload_n 0, 1) := by decide +kernel
theorem dX2_append_27 : decode cX2_append 27 = .ok (.getfield 26, 3) := by decide +kernel
theorem dX2_append_30 : decode cX2_append 30 = .ok (.iload_n 1, 1) := by decide +kernel
theorem dX2_append_31 : decode cX2_append 31 = .ok (.iastore, 1) := by decide +kernel
theorem dX2_append_32 : decode cX2_append 32 = .ok (.aload_n 0, 1) := by decide +kernel
theorem dX2_append_33 : decode cX2_append 33 = .ok (.getfield 15, 3) := by decide +kernel
theorem dX2_append_36 : decode cX2_append 36 = .ok (.aload_n 0, 1) := by decide +kernel
theorem dX2_append_37 : decode cX2_append 37 = .ok (.getfield 26, 3) := by decide +kernel
theorem dX2_append_40 : decode cX2_append 40 = .ok (.iload_n 2, 1) := by decide +kernel
theorem dX2_append_41 : decode cX2_append 41 = .ok (.iastore, 1) := by decide +kernel
theorem dX2_append_42 : decode cX2_append 42 = .ok (.aload_n 0, 1) := by decide +kernel
theorem dX2_append_43 : decode cX2_append 43 = .ok (.getfield 18, 3) := by decide +kernel
theorem dX2_append_46 : decode cX2_append 46 = .ok (.aload_n 0, 1) := by decide +kernel
theorem dX2_append_47 : decode cX2_append 47 = .ok (.getfield 26, 3) := by decide +kernel
theorem dX2_append_50 : decode cX2_append 50 = .ok (.iload_n 3, 1) := by decide +kernel
theorem dX2_append_51 : decode cX2_append 51 = .ok (.iastore, 1) := by decide +kernel
theorem dX2_append_52 : decode cX2_append 52 = .ok (.aload_n 0, 1) := by decide +kernel
theorem dX2_append_53 : decode cX2_append 53 = .ok (.dup, 1) := by decide +kernel
theorem dX2_append_54 : decode cX2_append 54 = .ok (.getfield 26, 3) := by decide +kernel
theorem dX2_append_57 : decode cX2_append 57 = .ok (.iconst 1, 1) := by decide +kernel
theorem dX2_append_58 : decode cX2_append 58 = .ok (.iadd, 1) := by decide +kernel
theorem dX2_append_59 : decode cX2_append 59 = .ok (.putfield 26, 3) := by decide +kernel
theorem dX2_append_62 : decode cX2_append 62 = .ok (.aload_n 0, 1) := by decide +kernel
theorem dX2_append_63 : decode cX2_append 63 = .ok (.getfield 26, 3) := by decide +kernel
theorem dX2_append_66 : decode cX2_append 66 = .ok (.iconst 1, 1) := by decide +kernel
theorem dX2_append_67 : decode cX2_append 67 = .ok (.isub, 1) := by decide +kernel
theorem dX2_append_68 : decode cX2_append 68 = .ok (.ireturn, 1) := by decide +kernel
theorem dX2_ownerOf_0 : decode cX2_ownerOf 0 = .ok (.aload_n 0, 1) := by decide +kernel
theorem dX2_ownerOf_1 : decode cX2_ownerOf 1 = .ok (.iload_n 1, 1) := by decide +kernel
theorem dX2_ownerOf_2 : decode cX2_ownerOf 2 = .ok (.iload_n 2, 1) := by decide +kernel
theorem dX2_ownerOf_3 : decode cX2_ownerOf 3 = .ok (.invokevirtual 30, 3) := by decide +kernel
theorem dX2_ownerOf_6 : decode cX2_ownerOf 6 = .ok (.ifCond .eq 14, 3) := by decide +kernel
theorem dX2_ownerOf_9 : decode cX2_ownerOf 9 = .ok (.aload_n 0, 1) := by decide +kernel
theorem dX2_ownerOf_10 : decode cX2_ownerOf 10 = .ok (.getfield 23, 3) := by decide +kernel
theorem dX2_ownerOf_13 : decode cX2_ownerOf 13 = .ok (.iload_n 1, 1) := by decide +kernel
theorem dX2_ownerOf_14 : decode cX2_ownerOf 14 = .ok (.aaload, 1) := by decide +kernel
theorem dX2_ownerOf_15 : decode cX2_ownerOf 15 = .ok (.iload_n 2, 1) := by decide +kernel
theorem dX2_ownerOf_16 : decode cX2_ownerOf 16 = .ok (.iaload, 1) := by decide +kernel
theorem dX2_ownerOf_17 : decode cX2_ownerOf 17 = .ok (.goto 4, 3) := by decide +kernel
theorem dX2_ownerOf_20 : decode cX2_ownerOf 20 = .ok (.iconst (-1), 1) := by decide +kernel
theorem dX2_ownerOf_21 : decode cX2_ownerOf 21 = .ok (.ireturn, 1) := by decide +kernel
theorem dX2_isFree_0 : decode cX2_isFree 0 = .ok (.aload_n 0, 1) := by decide +kernel
theorem dX2_isFree_1 : decode cX2_isFree 1 = .ok (.iload_n 1, 1) := by decide +kernel
theorem dX2_isFree_2 : decode cX2_isFree 2 = .ok (.iload_n 2, 1) := by decide +kernel
theorem dX2_isFree_3 : decode cX2_isFree 3 = .ok (.invokevirtual 30, 3) := by decide +kernel
theorem dX2_isFree_6 : decode cX2_isFree 6 = .ok (.ifCond .eq 18, 3) := by decide +kernel
theorem dX2_isFree_9 : decode cX2_isFree 9 = .ok (.aload_n 0, 1) := by decide +kernel
theorem dX2_isFree_10 : decode cX2_isFree 10 = .ok (.getfield 23, 3) := by decide +kernel
theorem dX2_isFree_13 : decode cX2_isFree 13 = .ok (.iload_n 1, 1) := by decide +kernel
theorem dX2_isFree_14 : decode cX2_isFree 14 = .ok (.aaload, 1) := by decide +kernel
theorem dX2_isFree_15 : decode cX2_isFree 15 = .ok (.iload_n 2, 1) := by decide +kernel
theorem dX2_isFree_16 : decode cX2_isFree 16 = .ok (.iaload, 1) := by decide +kernel
theorem dX2_isFree_17 : decode cX2_isFree 17 = .ok (.ifCond .ne 7, 3) := by decide +kernel
theorem dX2_isFree_20 : decode cX2_isFree 20 = .ok (.iconst 1, 1) := by decide +kernel
theorem dX2_isFree_21 : decode cX2_isFree 21 = .ok (.goto 4, 3) := by decide +kernel
theorem dX2_isFree_24 : decode cX2_isFree 24 = .ok (.iconst 0, 1) := by decide +kernel
theorem dX2_isFree_25 : decode cX2_isFree 25 = .ok (.ireturn, 1) := by decide +kernel
theorem dX2_seatValue_0 : decode cX2_seatValue 0 = .ok (.aload_n 0, 1) := by decide +kernel
theorem dX2_seatValue_1 : decode cX2_seatValue 1 = .ok (.iload_n 1, 1) := by decide +kernel
theorem dX2_seatValue_2 : decode cX2_seatValue 2 = .ok (.iload_n 2, 1) := by decide +kernel
theorem dX2_seatValue_3 : decode cX2_seatValue 3 = .ok (.invokevirtual 30, 3) := by decide +kernel
theorem dX2_seatValue_6 : decode cX2_seatValue 6 = .ok (.ifCond .eq 28, 3) := by decide +kernel
theorem dX2_seatValue_9 : decode cX2_seatValue 9 = .ok (.aload_n 0, 1) := by decide +kernel
theorem dX2_seatValue_10 : decode cX2_seatValue 10 = .ok (.getfield 15, 3) := by decide +kernel
theorem dX2_seatValue_13 : decode cX2_seatValue 13 = .ok (.iload_n 1, 1) := by decide +kernel
theorem dX2_seatValue_14 : decode cX2_seatValue 14 = .ok (.iaload, 1) := by decide +kernel
theorem dX2_seatValue_15 : decode cX2_seatValue 15 = .ok (.iconst 2, 1) := by decide +kernel
theorem dX2_seatValue_16 : decode cX2_seatValue 16 = .ok (.iload_n 2, 1) := by decide +kernel
theorem dX2_seatValue_17 : decode cX2_seatValue 17 = .ok (.imul, 1) := by decide +kernel
theorem dX2_seatValue_18 : decode cX2_seatValue 18 = .ok (.aload_n 0, 1) := by decide +kernel
theorem dX2_seatValue_19 : decode cX2_seatValue 19 = .ok (.getfield 9, 3) := by decide +kernel
theorem dX2_seatValue_22 : decode cX2_seatValue 22 = .ok (.iload_n 1, 1) := by decide +kernel
theorem dX2_seatValue_23 : decode cX2_seatValue 23 = .ok (.iaload, 1) := by decide +kernel
theorem dX2_seatValue_24 : decode cX2_seatValue 24 = .ok (.iconst 1, 1) := by decide +kernel
theorem dX2_seatValue_25 : decode cX2_seatValue 25 = .ok (.isub, 1) := by decide +kernel
theorem dX2_seatValue_26 : decode cX2_seatValue 26 = .ok (.isub, 1) := by decide +kernel
theorem dX2_seatValue_27 : decode cX2_seatValue 27 = .ok (.invokestatic 34, 3) := by decide +kernel
theorem dX2_seatValue_30 : decode cX2_seatValue 30 = .ok (.isub, 1) := by decide +kernel
theorem dX2_seatValue_31 : decode cX2_seatValue 31 = .ok (.goto 4, 3) := by decide +kernel
theorem dX2_seatValue_34 : decode cX2_seatValue 34 = .ok (.iconst 0, 1) := by decide +kernel
theorem dX2_seatValue_35 : decode cX2_seatValue 35 = .ok (.ireturn, 1) := by decide +kernel
theorem dX2_countFree_0 : decode cX2_countFree 0 = .ok (.iconst 0, 1) := by decide +kernel
theorem dX2_countFree_1 : decode cX2_countFree 1 = .ok (.istore_n 2, 1) := by decide +kernel
theorem dX2_countFree_2 : decode cX2_countFree 2 = .ok (.iconst 0, 1) := by decide +kernel
theorem dX2_countFree_3 : decode cX2_countFree 3 = .ok (.istore_n 3, 1) := by decide +kernel
theorem dX2_countFree_4 : decode cX2_countFree 4 = .ok (.iload_n 3, 1) := by decide +kernel
theorem dX2_countFree_5 : decode cX2_countFree 5 = .ok (.aload_n 0, 1) := by decide +kernel
theorem dX2_countFree_6 : decode cX2_countFree 6 = .ok (.iload_n 1, 1) := by decide +kernel
theorem dX2_countFree_7 : decode cX2_countFree 7 = .ok (.invokevirtual 40, 3) := by decide +kernel
theorem dX2_countFree_10 : decode cX2_countFree 10 = .ok (.if_icmp .ge 21, 3) := by decide +kernel
theorem dX2_countFree_13 : decode cX2_countFree 13 = .ok (.aload_n 0, 1) := by decide +kernel
theorem dX2_countFree_14 : decode cX2_countFree 14 = .ok (.iload_n 1, 1) := by decide +kernel
theorem dX2_countFree_15 : decode cX2_countFree 15 = .ok (.iload_n 3, 1) := by decide +kernel
theorem dX2_countFree_16 : decode cX2_countFree 16 = .ok (.invokevirtual 43, 3) := by decide +kernel
theorem dX2_countFree_19 : decode cX2_countFree 19 = .ok (.ifCond .eq 6, 3) := by decide +kernel
theorem dX2_countFree_22 : decode cX2_countFree 22 = .ok (.iinc 2 1, 3) := by decide +kernel
theorem dX2_countFree_25 : decode cX2_countFree 25 = .ok (.iinc 3 1, 3) := by decide +kernel
theorem dX2_countFree_28 : decode cX2_countFree 28 = .ok (.goto (-24), 3) := by decide +kernel
theorem dX2_countFree_31 : decode cX2_countFree 31 = .ok (.iload_n 2, 1) := by decide +kernel
theorem dX2_countFree_32 : decode cX2_countFree 32 = .ok (.ireturn, 1) := by decide +kernel
theorem dX2_countOrphans_0 : decode cX2_countOrphans 0 = .ok (.iconst 0, 1) := by decide +kernel
theorem dX2_countOrphans_1 : decode cX2_countOrphans 1 = .ok (.istore_n 1, 1) := by decide +kernel
theorem dX2_countOrphans_2 : decode cX2_countOrphans 2 = .ok (.iconst 0, 1) := by decide +kernel
theorem dX2_countOrphans_3 : decode cX2_countOrphans 3 = .ok (.istore_n 2, 1) := by decide +kernel
theorem dX2_countOrphans_4 : decode cX2_countOrphans 4 = .ok (.iload_n 2, 1) := by decide +kernel
theorem dX2_countOrphans_5 : decode cX2_countOrphans 5 = .ok (.aload_n 0, 1) := by decide +kernel
theorem dX2_countOrphans_6 : decode cX2_countOrphans 6 = .ok (.getfield 26, 3) := by decide +kernel
theorem dX2_countOrphans_9 : decode cX2_countOrphans 9 = .ok (.if_icmp .ge 60, 3) := by decide +kernel
theorem dX2_countOrphans_12 : decode cX2_countOrphans 12 = .ok (.iconst 0, 1) := by decide +kernel
theorem dX2_countOrphans_13 : decode cX2_countOrphans 13 = .ok (.istore_n 3, 1) := by decide +kernel
theorem dX2_countOrphans_14 : decode cX2_countOrphans 14 = .ok (.iload_n 3, 1) := by decide +kernel
theorem dX2_countOrphans_15 : decode cX2_countOrphans 15 = .ok (.aload_n 0, 1) := by decide +kernel
theorem dX2_countOrphans_16 : decode cX2_countOrphans 16 = .ok (.iload_n 2, 1) := by decide +kernel
theorem dX2_countOrphans_17 : decode cX2_countOrphans 17 = .ok (.invokevirtual 40, 3) := by decide +kernel
theorem dX2_countOrphans_20 : decode cX2_countOrphans 20 = .ok (.if_icmp .ge 43, 3) := by decide +kernel
theorem dX2_countOrphans_23 : decode cX2_countOrphans 23 = .ok (.aload_n 0, 1) := by decide +kernel
theorem dX2_countOrphans_24 : decode cX2_countOrphans 24 = .ok (.iload_n 2, 1) := by decide +kernel
theorem dX2_countOrphans_25 : decode cX2_countOrphans 25 = .ok (.iload_n 3, 1) := by decide +kernel
theorem dX2_countOrphans_26 : decode cX2_countOrphans 26 = .ok (.invokevirtual 43, 3) := by decide +kernel
theorem dX2_countOrphans_29 : decode cX2_countOrphans 29 = .ok (.ifCond .eq 28, 3) := by decide +kernel
theorem dX2_countOrphans_32 : decode cX2_countOrphans 32 = .ok (.aload_n 0, 1) := by decide +kernel
theorem dX2_countOrphans_33 : decode cX2_countOrphans 33 = .ok (.iload_n 2, 1) := by decide +kernel
theorem dX2_countOrphans_34 : decode cX2_countOrphans 34 = .ok (.iload_n 3, 1) := by decide +kernel
theorem dX2_countOrphans_35 : decode cX2_countOrphans 35 = .ok (.iconst 1, 1) := by decide +kernel
theorem dX2_countOrphans_36 : decode cX2_countOrphans 36 = .ok (.isub, 1) := by decide +kernel
theorem dX2_countOrphans_37 : decode cX2_countOrphans 37 = .ok (.invokevirtual 43, 3) := by decide +kernel
theorem dX2_countOrphans_40 : decode cX2_countOrphans 40 = .ok (.ifCond .ne 17, 3) := by decide +kernel
theorem dX2_countOrphans_43 : decode cX2_countOrphans 43 = .ok (.aload_n 0, 1) := by decide +kernel
theorem dX2_countOrphans_44 : decode cX2_countOrphans 44 = .ok (.iload_n 2, 1) := by decide +kernel
theorem dX2_countOrphans_45 : decode cX2_countOrphans 45 = .ok (.iload_n 3, 1) := by decide +kernel
theorem dX2_countOrphans_46 : decode cX2_countOrphans 46 = .ok (.iconst 1, 1) := by decide +kernel
theorem dX2_countOrphans_47 : decode cX2_countOrphans 47 = .ok (.iadd, 1) := by decide +kernel
theorem dX2_countOrphans_48 : decode cX2_countOrphans 48 = .ok (.invokevirtual 43, 3) := by decide +kernel
theorem dX2_countOrphans_51 : decode cX2_countOrphans 51 = .ok (.ifCond .ne 6, 3) := by decide +kernel
theorem dX2_countOrphans_54 : decode cX2_countOrphans 54 = .ok (.iinc 1 1, 3) := by decide +kernel
theorem dX2_countOrphans_57 : decode cX2_countOrphans 57 = .ok (.iinc 3 1, 3) := by decide +kernel
theorem dX2_countOrphans_60 : decode cX2_countOrphans 60 = .ok (.goto (-46), 3) := by decide +kernel
theorem dX2_countOrphans_63 : decode cX2_countOrphans 63 = .ok (.iinc 2 1, 3) := by decide +kernel
theorem dX2_countOrphans_66 : decode cX2_countOrphans 66 = .ok (.goto (-62), 3) := by decide +kernel
theorem dX2_countOrphans_69 : decode cX2_countOrphans 69 = .ok (.iload_n 1, 1) := by decide +kernel
theorem dX2_countOrphans_70 : decode cX2_countOrphans 70 = .ok (.ireturn, 1) := by decide +kernel
theorem dX2_longestFree_0 : decode cX2_longestFree 0 = .ok (.iconst 0, 1) := by decide +kernel
theorem dX2_longestFree_1 : decode cX2_longestFree 1 = .ok (.istore_n 1, 1) := by decide +kernel
theorem dX2_longestFree_2 : decode cX2_longestFree 2 = .ok (.iconst 0, 1) := by decide +kernel
theorem dX2_longestFree_3 : decode cX2_longestFree 3 = .ok (.istore_n 2, 1) := by decide +kernel
theorem dX2_longestFree_4 : decode cX2_longestFree 4 = .ok (.iload_n 2, 1) := by decide +kernel
theorem dX2_longestFree_5 : decode cX2_longestFree 5 = .ok (.aload_n 0, 1) := by decide +kernel
theorem dX2_longestFree_6 : decode cX2_longestFree 6 = .ok (.getfield 26, 3) := by decide +kernel
theorem dX2_longestFree_9 : decode cX2_longestFree 9 = .ok (.if_icmp .ge 19, 3) := by decide +kernel
theorem dX2_longestFree_12 : decode cX2_longestFree 12 = .ok (.iload_n 1, 1) := by decide +kernel
theorem dX2_longestFree_13 : decode cX2_longestFree 13 = .ok (.aload_n 0, 1) := by decide +kernel
theorem dX2_longestFree_14 : decode cX2_longestFree 14 = .ok (.iload_n 2, 1) := by decide +kernel
theorem dX2_longestFree_15 : decode cX2_longestFree 15 = .ok (.invokevirtual 46, 3) := by decide +kernel
theorem dX2_longestFree_18 : decode cX2_longestFree 18 = .ok (.invokestatic 49, 3) := by decide +kernel
theorem dX2_longestFree_21 : decode cX2_longestFree 21 = .ok (.istore_n 1, 1) := by decide +kernel
theorem dX2_longestFree_22 : decode cX2_longestFree 22 = .ok (.iinc 2 1, 3) := by decide +kernel
theorem dX2_longestFree_25 : decode cX2_longestFree 25 = .ok (.goto (-21), 3) := by decide +kernel
theorem dX2_longestFree_28 : decode cX2_longestFree 28 = .ok (.iload_n 1, 1) := by decide +kernel
theorem dX2_longestFree_29 : decode cX2_longestFree 29 = .ok (.ireturn, 1) := by decide +kernel
theorem dX2_longestFreeIn_0 : decode cX2_longestFreeIn 0 = .ok (.iconst 0, 1) := by decide +kernel
theorem dX2_longestFreeIn_1 : decode cX2_longestFreeIn 1 = .ok (.istore_n 2, 1) := by decide +kernel
theorem dX2_longestFreeIn_2 : decode cX2_longestFreeIn 2 = .ok (.iconst 0, 1) := by decide +kernel
theorem dX2_longestFreeIn_3 : decode cX2_longestFreeIn 3 = .ok (.istore_n 3, 1) := by decide +kernel
theorem dX2_longestFreeIn_4 : decode cX2_longestFreeIn 4 = .ok (.iconst 0, 1) := by decide +kernel
theorem dX2_longestFreeIn_5 : decode cX2_longestFreeIn 5 = .ok (.istore 4, 2) := by decide +kernel
theorem dX2_longestFreeIn_7 : decode cX2_longestFreeIn 7 = .ok (.iload 4, 2) := by decide +kernel
theorem dX2_longestFreeIn_9 : decode cX2_longestFreeIn 9 = .ok (.aload_n 0, 1) := by decide +kernel
theorem dX2_longestFreeIn_10 : decode cX2_longestFreeIn 10 = .ok (.iload_n 1, 1) := by decide +kernel
theorem dX2_longestFreeIn_11 : decode cX2_longestFreeIn 11 = .ok (.invokevirtual 40, 3) := by decide +kernel
theorem dX2_longestFreeIn_14 : decode cX2_longestFreeIn 14 = .ok (.if_icmp .ge 33, 3) := by decide +kernel
theorem dX2_longestFreeIn_17 : decode cX2_longestFreeIn 17 = .ok (.aload_n 0, 1) := by decide +kernel
theorem dX2_longestFreeIn_18 : decode cX2_longestFreeIn 18 = .ok (.iload_n 1, 1) := by decide +kernel
theorem dX2_longestFreeIn_19 : decode cX2_longestFreeIn 19 = .ok (.iload 4, 2) := by decide +kernel
theorem dX2_longestFreeIn_21 : decode cX2_longestFreeIn 21 = .ok (.invokevirtual 43, 3) := by decide +kernel
theorem dX2_longestFreeIn_24 : decode cX2_longestFreeIn 24 = .ok (.ifCond .eq 9, 3) := by decide +kernel
theorem dX2_longestFreeIn_27 : decode cX2_longestFreeIn 27 = .ok (.iload_n 3, 1) := by decide +kernel
theorem dX2_longestFreeIn_28 : decode cX2_longestFreeIn 28 = .ok (.iconst 1, 1) := by decide +kernel
theorem dX2_longestFreeIn_29 : decode cX2_longestFreeIn 29 = .ok (.iadd, 1) := by decide +kernel
theorem dX2_longestFreeIn_30 : decode cX2_longestFreeIn 30 = .ok (.goto 4, 3) := by decide +kernel
theorem dX2_longestFreeIn_33 : decode cX2_longestFreeIn 33 = .ok (.iconst 0, 1) := by decide +kernel
theorem dX2_longestFreeIn_34 : decode cX2_longestFreeIn 34 = .ok (.istore_n 3, 1) := by decide +kernel
theorem dX2_longestFreeIn_35 : decode cX2_longestFreeIn 35 = .ok (.iload_n 2, 1) := by decide +kernel
theorem dX2_longestFreeIn_36 : decode cX2_longestFreeIn 36 = .ok (.iload_n 3, 1) := by decide +kernel
theorem dX2_longestFreeIn_37 : decode cX2_longestFreeIn 37 = .ok (.invokestatic 49, 3) := by decide +kernel
theorem dX2_longestFreeIn_40 : decode cX2_longestFreeIn 40 = .ok (.istore_n 2, 1) := by decide +kernel
theorem dX2_longestFreeIn_41 : decode cX2_longestFreeIn 41 = .ok (.iinc 4 1, 3) := by decide +kernel
theorem dX2_longestFreeIn_44 : decode cX2_longestFreeIn 44 = .ok (.goto (-37), 3) := by decide +kernel
theorem dX2_longestFreeIn_47 : decode cX2_longestFreeIn 47 = .ok (.iload_n 2, 1) := by decide +kernel
theorem dX2_longestFreeIn_48 : decode cX2_longestFreeIn 48 = .ok (.ireturn, 1) := by decide +kernel
theorem dX2_isPossible_0 : decode cX2_isPossible 0 = .ok (.iload_n 3, 1) := by decide +kernel
theorem dX2_isPossible_1 : decode cX2_isPossible 1 = .ok (.iconst 1, 1) := by decide +kernel
theorem dX2_isPossible_2 : decode cX2_isPossible 2 = .ok (.if_icmp .lt 18, 3) := by decide +kernel
theorem dX2_isPossible_5 : decode cX2_isPossible 5 = .ok (.iload_n 2, 1) := by decide +kernel
theorem dX2_isPossible_6 : decode cX2_isPossible 6 = .ok (.ifCond .lt 14, 3) := by decide +kernel
theorem dX2_isPossible_9 : decode cX2_isPossible 9 = .ok (.iload_n 2, 1) := by decide +kernel
theorem dX2_isPossible_10 : decode cX2_isPossible 10 = .ok (.aload_n 0, 1) := by decide +kernel
theorem dX2_isPossible_11 : decode cX2_isPossible 11 = .ok (.iload_n 1, 1) := by decide +kernel
theorem dX2_isPossible_12 : decode cX2_isPossible 12 = .ok (.invokevirtual 40, 3) := by decide +kernel
theorem dX2_isPossible_15 : decode cX2_isPossible 15 = .ok (.iload_n 3, 1) := by decide +kernel
theorem dX2_isPossible_16 : decode cX2_isPossible 16 = .ok (.isub, 1) := by decide +kernel
theorem dX2_isPossible_17 : decode cX2_isPossible 17 = .ok (.if_icmp .le 5, 3) := by decide +kernel
theorem dX2_isPossible_20 : decode cX2_isPossible 20 = .ok (.iconst 0, 1) := by decide +kernel
theorem dX2_isPossible_21 : decode cX2_isPossible 21 = .ok (.ireturn, 1) := by decide +kernel
theorem dX2_isPossible_22 : decode cX2_isPossible 22 = .ok (.iload_n 2, 1) := by decide +kernel
theorem dX2_isPossible_23 : decode cX2_isPossible 23 = .ok (.istore 4, 2) := by decide +kernel
theorem dX2_isPossible_25 : decode cX2_isPossible 25 = .ok (.iload 4, 2) := by decide +kernel
theorem dX2_isPossible_27 : decode cX2_isPossible 27 = .ok (.iload_n 2, 1) := by decide +kernel
theorem dX2_isPossible_28 : decode cX2_isPossible 28 = .ok (.iload_n 3, 1) := by decide +kernel
theorem dX2_isPossible_29 : decode cX2_isPossible 29 = .ok (.iadd, 1) := by decide +kernel
theorem dX2_isPossible_30 : decode cX2_isPossible 30 = .ok (.if_icmp .ge 23, 3) := by decide +kernel
theorem dX2_isPossible_33 : decode cX2_isPossible 33 = .ok (.aload_n 0, 1) := by decide +kernel
theorem dX2_isPossible_34 : decode cX2_isPossible 34 = .ok (.getfield 23, 3) := by decide +kernel
theorem dX2_isPossible_37 : decode cX2_isPossible 37 = .ok (.iload_n 1, 1) := by decide +kernel
theorem dX2_isPossible_38 : decode cX2_isPossible 38 = .ok (.aaload, 1) := by decide +kernel
theorem dX2_isPossible_39 : decode cX2_isPossible 39 = .ok (.iload 4, 2) := by decide +kernel
theorem dX2_isPossible_41 : decode cX2_isPossible 41 = .ok (.iaload, 1) := by decide +kernel
theorem dX2_isPossible_42 : decode cX2_isPossible 42 = .ok (.ifCond .eq 5, 3) := by decide +kernel
theorem dX2_isPossible_45 : decode cX2_isPossible 45 = .ok (.iconst 0, 1) := by decide +kernel
theorem dX2_isPossible_46 : decode cX2_isPossible 46 = .ok (.ireturn, 1) := by decide +kernel
theorem dX2_isPossible_47 : decode cX2_isPossible 47 = .ok (.iinc 4 1, 3) := by decide +kernel
theorem dX2_isPossible_50 : decode cX2_isPossible 50 = .ok (.goto (-25), 3) := by decide +kernel
theorem dX2_isPossible_53 : decode cX2_isPossible 53 = .ok (.iconst 1, 1) := by decide +kernel
theorem dX2_isPossible_54 : decode cX2_isPossible 54 = .ok (.ireturn, 1) := by decide +kernel
theorem dX2_blockValue_0 : decode cX2_blockValue 0 = .ok (.iconst 0, 1) := by decide +kernel
theorem dX2_blockValue_1 : decode cX2_blockValue 1 = .ok (.istore 4, 2) := by decide +kernel
theorem dX2_blockValue_3 : decode cX2_blockValue 3 = .ok (.iload_n 2, 1) := by decide +kernel
theorem dX2_blockValue_4 : decode cX2_blockValue 4 = .ok (.istore 5, 2) := by decide +kernel
theorem dX2_blockValue_6 : decode cX2_blockValue 6 = .ok (.iload 5, 2) := by decide +kernel
theorem dX2_blockValue_8 : decode cX2_blockValue 8 = .ok (.iload_n 2, 1) := by decide +kernel
theorem dX2_blockValue_9 : decode cX2_blockValue 9 = .ok (.iload_n 3, 1) := by decide +kernel
theorem dX2_blockValue_10 : decode cX2_blockValue 10 = .ok (.iadd, 1) := by decide +kernel
theorem dX2_blockValue_11 : decode cX2_blockValue 11 = .ok (.if_icmp .ge 21, 3) := by decide +kernel
theorem dX2_blockValue_14 : decode cX2_blockValue 14 = .ok (.iload 4, 2) := by decide +kernel
theorem dX2_blockValue_16 : decode cX2_blockValue 16 = .ok (.aload_n 0, 1) := by decide +kernel
theorem dX2_blockValue_17 : decode cX2_blockValue 17 = .ok (.iload_n 1, 1) := by decide +kernel
theorem dX2_blockValue_18 : decode cX2_blockValue 18 = .ok (.iload 5, 2) := by decide +kernel
theorem dX2_blockValue_20 : decode cX2_blockValue 20 = .ok (.invokevirtual 53, 3) := by decide +kernel
theorem dX2_blockValue_23 : decode cX2_blockValue 23 = .ok (.iadd, 1) := by decide +kernel
theorem dX2_blockValue_24 : decode cX2_blockValue 24 = .ok (.istore 4, 2) := by decide +kernel
theorem dX2_blockValue_26 : decode cX2_blockValue 26 = .ok (.iinc 5 1, 3) := by decide +kernel
theorem dX2_blockValue_29 : decode cX2_blockValue 29 = .ok (.goto (-23), 3) := by decide +kernel
theorem dX2_blockValue_32 : decode cX2_blockValue 32 = .ok (.iload 4, 2) := by decide +kernel
theorem dX2_blockValue_34 : decode cX2_blockValue 34 = .ok (.ireturn, 1) := by decide +kernel
theorem dX2_orphanBeside_0 : decode cX2_orphanBeside 0 = .ok (.iload_n 2, 1) := by decide +kernel
theorem dX2_orphanBeside_1 : decode cX2_orphanBeside 1 = .ok (.iconst 1, 1) := by decide +kernel
theorem dX2_orphanBeside_2 : decode cX2_orphanBeside 2 = .ok (.isub, 1) := by decide +kernel
theorem dX2_orphanBeside_3 : decode cX2_orphanBeside 3 = .ok (.istore 4, 2) := by decide +kernel
theorem dX2_orphanBeside_5 : decode cX2_orphanBeside 5 = .ok (.iload_n 2, 1) := by decide +kernel
theorem dX2_orphanBeside_6 : decode cX2_orphanBeside 6 = .ok (.iload_n 3, 1) := by decide +kernel
theorem dX2_orphanBeside_7 : decode cX2_orphanBeside 7 = .ok (.iadd, 1) := by decide +kernel
theorem dX2_orphanBeside_8 : decode cX2_orphanBeside 8 = .ok (.istore 5, 2) := by decide +kernel
theorem dX2_orphanBeside_10 : decode cX2_orphanBeside 10 = .ok (.aload_n 0, 1) := by decide +kernel
theorem dX2_orphanBeside_11 : decode cX2_orphanBeside 11 = .ok (.iload_n 1, 1) := by decide +kernel
theorem dX2_orphanBeside_12 : decode cX2_orphanBeside 12 = .ok (.iload 4, 2) := by decide +kernel
theorem dX2_orphanBeside_14 : decode cX2_orphanBeside 14 = .ok (.invokevirtual 43, 3) := by decide +kernel
theorem dX2_orphanBeside_17 : decode cX2_orphanBeside 17 = .ok (.ifCond .eq 15, 3) := by decide +kernel
theorem dX2_orphanBeside_20 : decode cX2_orphanBeside 20 = .ok (.aload_n 0, 1) := by decide +kernel
theorem dX2_orphanBeside_21 : decode cX2_orphanBeside 21 = .ok (.iload_n 1, 1) := by decide +kernel
theorem dX2_orphanBeside_22 : decode cX2_orphanBeside 22 = .ok (.iload 4, 2) := by decide +kernel
theorem dX2_orphanBeside_24 : decode cX2_orphanBeside 24 = .ok (.iconst 1, 1) := by decide +kernel
theorem dX2_orphanBeside_25 : decode cX2_orphanBeside 25 = .ok (.isub, 1) := by decide +kernel
theorem dX2_orphanBeside_26 : decode cX2_orphanBeside 26 = .ok (.invokevirtual 43, 3) := by decide +kernel
theorem dX2_orphanBeside_29 : decode cX2_orphanBeside 29 = .ok (.ifCond .eq 25, 3) := by decide +kernel
theorem dX2_orphanBeside_32 : decode cX2_orphanBeside 32 = .ok (.aload_n 0, 1) := by decide +kernel
theorem dX2_orphanBeside_33 : decode cX2_orphanBeside 33 = .ok (.iload_n 1, 1) := by decide +kernel
theorem dX2_orphanBeside_34 : decode cX2_orphanBeside 34 = .ok (.iload 5, 2) := by decide +kernel
theorem dX2_orphanBeside_36 : decode cX2_orphanBeside 36 = .ok (.invokevirtual 43, 3) := by decide +kernel
theorem dX2_orphanBeside_39 : decode cX2_orphanBeside 39 = .ok (.ifCond .eq 19, 3) := by decide +kernel
theorem dX2_orphanBeside_42 : decode cX2_orphanBeside 42 = .ok (.aload_n 0, 1) := by decide +kernel
theorem dX2_orphanBeside_43 : decode cX2_orphanBeside 43 = .ok (.iload_n 1, 1) := by decide +kernel
theorem dX2_orphanBeside_44 : decode cX2_orphanBeside 44 = .ok (.iload 5, 2) := by decide +kernel
theorem dX2_orphanBeside_46 : decode cX2_orphanBeside 46 = .ok (.iconst 1, 1) := by decide +kernel
theorem dX2_orphanBeside_47 : decode cX2_orphanBeside 47 = .ok (.iadd, 1) := by decide +kernel
theorem dX2_orphanBeside_48 : decode cX2_orphanBeside 48 = .ok (.invokevirtual 43, 3) := by decide +kernel
theorem dX2_orphanBeside_51 : decode cX2_orphanBeside 51 = .ok (.ifCond .ne 7, 3) := by decide +kernel
theorem dX2_orphanBeside_54 : decode cX2_orphanBeside 54 = .ok (.iconst 1, 1) := by decide +kernel
theorem dX2_orphanBeside_55 : decode cX2_orphanBeside 55 = .ok (.goto 4, 3) := by decide +kernel
theorem dX2_orphanBeside_58 : decode cX2_orphanBeside 58 = .ok (.iconst 0, 1) := by decide +kernel
theorem dX2_orphanBeside_59 : decode cX2_orphanBeside 59 = .ok (.ireturn, 1) := by decide +kernel
theorem dX2_greatestIn_0 : decode cX2_greatestIn 0 = .ok (.iconst (-1), 1) := by decide +kernel
theorem dX2_greatestIn_1 : decode cX2_greatestIn 1 = .ok (.istore 4, 2) := by decide +kernel
theorem dX2_greatestIn_3 : decode cX2_greatestIn 3 = .ok (.iconst 0, 1) := by decide +kernel
theorem dX2_greatestIn_4 : decode cX2_greatestIn 4 = .ok (.istore 5, 2) := by decide +kernel
theorem dX2_greatestIn_6 : decode cX2_greatestIn 6 = .ok (.aload_n 0, 1) := by decide +kernel
theorem dX2_greatestIn_7 : decode cX2_greatestIn 7 = .ok (.iload_n 1, 1) := by decide +kernel
theorem dX2_greatestIn_8 : decode cX2_greatestIn 8 = .ok (.invokevirtual 40, 3) := by decide +kernel
theorem dX2_greatestIn_11 : decode cX2_greatestIn 11 = .ok (.iload_n 2, 1) := by decide +kernel
theorem dX2_greatestIn_12 : decode cX2_greatestIn 12 = .ok (.isub, 1) := by decide +kernel
theorem dX2_greatestIn_13 : decode cX2_greatestIn 13 = .ok (.istore 6, 2) := by decide +kernel
theorem dX2_greatestIn_15 : decode cX2_greatestIn 15 = .ok (.iconst 0, 1) := by decide +kernel
theorem dX2_greatestIn_16 : decode cX2_greatestIn 16 = .ok (.istore 7, 2) := by decide +kernel
theorem dX2_greatestIn_18 : decode cX2_greatestIn 18 = .ok (.iload 7, 2) := by decide +kernel
theorem dX2_greatestIn_20 : decode cX2_greatestIn 20 = .ok (.iload 6, 2) := by decide +kernel
theorem dX2_greatestIn_22 : decode cX2_greatestIn 22 = .ok (.if_icmp .gt 66, 3) := by decide +kernel
theorem dX2_greatestIn_25 : decode cX2_greatestIn 25 = .ok (.aload_n 0, 1) := by decide +kernel
theorem dX2_greatestIn_26 : decode cX2_greatestIn 26 = .ok (.iload_n 1, 1) := by decide +kernel
theorem dX2_greatestIn_27 : decode cX2_greatestIn 27 = .ok (.iload 7, 2) := by decide +kernel
theorem dX2_greatestIn_29 : decode cX2_greatestIn 29 = .ok (.iload_n 2, 1) := by decide +kernel
theorem dX2_greatestIn_30 : decode cX2_greatestIn 30 = .ok (.invokevirtual 56, 3) := by decide +kernel
theorem dX2_greatestIn_33 : decode cX2_greatestIn 33 = .ok (.ifCond .eq 49, 3) := by decide +kernel
theorem dX2_greatestIn_36 : decode cX2_greatestIn 36 = .ok (.iload_n 3, 1) := by decide +kernel
theorem dX2_greatestIn_37 : decode cX2_greatestIn 37 = .ok (.ifCond .ne 14, 3) := by decide +kernel
theorem dX2_greatestIn_40 : decode cX2_greatestIn 40 = .ok (.aload_n 0, 1) := by decide +kernel
theorem dX2_greatestIn_41 : decode cX2_greatestIn 41 = .ok (.iload_n 1, 1) := by decide +kernel
theorem dX2_greatestIn_42 : decode cX2_greatestIn 42 = .ok (.iload 7, 2) := by decide +kernel
theorem dX2_greatestIn_44 : decode cX2_greatestIn 44 = .ok (.iload_n 2, 1) := by decide +kernel
theorem dX2_greatestIn_45 : decode cX2_greatestIn 45 = .ok (.invokevirtual 60, 3) := by decide +kernel
theorem dX2_greatestIn_48 : decode cX2_greatestIn 48 = .ok (.ifCond .ne 34, 3) := by decide +kernel
theorem dX2_greatestIn_51 : decode cX2_greatestIn 51 = .ok (.aload_n 0, 1) := by decide +kernel
theorem dX2_greatestIn_52 : decode cX2_greatestIn 52 = .ok (.iload_n 1, 1) := by decide +kernel
theorem dX2_greatestIn_53 : decode cX2_greatestIn 53 = .ok (.iload 7, 2) := by decide +kernel
theorem dX2_greatestIn_55 : decode cX2_greatestIn 55 = .ok (.iload_n 2, 1) := by decide +kernel
theorem dX2_greatestIn_56 : decode cX2_greatestIn 56 = .ok (.invokevirtual 63, 3) := by decide +kernel
theorem dX2_greatestIn_59 : decode cX2_greatestIn 59 = .ok (.istore 8, 2) := by decide +kernel
theorem dX2_greatestIn_61 : decode cX2_greatestIn 61 = .ok (.iload 4, 2) := by decide +kernel
theorem dX2_greatestIn_63 : decode cX2_greatestIn 63 = .ok (.iconst (-1), 1) := by decide +kernel
theorem dX2_greatestIn_64 : decode cX2_greatestIn 64 = .ok (.if_icmp .eq 10, 3) := by decide +kernel
theorem dX2_greatestIn_67 : decode cX2_greatestIn 67 = .ok (.iload 8, 2) := by decide +kernel
theorem dX2_greatestIn_69 : decode cX2_greatestIn 69 = .ok (.iload 5, 2) := by decide +kernel
theorem dX2_greatestIn_71 : decode cX2_greatestIn 71 = .ok (.if_icmp .le 11, 3) := by decide +kernel
theorem dX2_greatestIn_74 : decode cX2_greatestIn 74 = .ok (.iload 7, 2) := by decide +kernel
theorem dX2_greatestIn_76 : decode cX2_greatestIn 76 = .ok (.istore 4, 2) := by decide +kernel
theorem dX2_greatestIn_78 : decode cX2_greatestIn 78 = .ok (.iload 8, 2) := by decide +kernel
theorem dX2_greatestIn_80 : decode cX2_greatestIn 80 = .ok (.istore 5, 2) := by decide +kernel
theorem dX2_greatestIn_82 : decode cX2_greatestIn 82 = .ok (.iinc 7 1, 3) := by decide +kernel
theorem dX2_greatestIn_85 : decode cX2_greatestIn 85 = .ok (.goto (-67), 3) := by decide +kernel
theorem dX2_greatestIn_88 : decode cX2_greatestIn 88 = .ok (.iload 4, 2) := by decide +kernel
theorem dX2_greatestIn_90 : decode cX2_greatestIn 90 = .ok (.ireturn, 1) := by decide +kernel
theorem dX2_greatestOfAll_0 : decode cX2_greatestOfAll 0 = .ok (.iconst (-1), 1) := by decide +kernel
theorem dX2_greatestOfAll_1 : decode cX2_greatestOfAll 1 = .ok (.istore_n 3, 1) := by decide +kernel
theorem dX2_greatestOfAll_2 : decode cX2_greatestOfAll 2 = .ok (.iconst 0, 1) := by decide +kernel
theorem dX2_greatestOfAll_3 : decode cX2_greatestOfAll 3 = .ok (.istore 4, 2) := by decide +kernel
theorem dX2_greatestOfAll_5 : decode cX2_greatestOfAll 5 = .ok (.iconst 0, 1) := by decide +kernel
theorem dX2_greatestOfAll_6 : decode cX2_greatestOfAll 6 = .ok (.istore 5, 2) := by decide +kernel
theorem dX2_greatestOfAll_8 : decode cX2_greatestOfAll 8 = .ok (.iload 5, 2) := by decide +kernel
theorem dX2_greatestOfAll_10 : decode cX2_greatestOfAll 10 = .ok (.aload_n 0, 1) := by decide +kernel
theorem dX2_greatestOfAll_11 : decode cX2_greatestOfAll 11 = .ok (.getfield 26, 3) := by decide +kernel
theorem dX2_greatestOfAll_14 : decode cX2_greatestOfAll 14 = .ok (.if_icmp .ge 61, 3) := by decide +kernel
theorem dX2_greatestOfAll_17 : decode cX2_greatestOfAll 17 = .ok (.aload_n 0, 1) := by decide +kernel
theorem dX2_greatestOfAll_18 : decode cX2_greatestOfAll 18 = .ok (.iload 5, 2) := by decide +kernel
theorem dX2_greatestOfAll_20 : decode cX2_greatestOfAll 20 = .ok (.iload_n 1, 1) := by decide +kernel
theorem dX2_greatestOfAll_21 : decode cX2_greatestOfAll 21 = .ok (.iload_n 2, 1) := by decide +kernel
theorem dX2_greatestOfAll_22 : decode cX2_greatestOfAll 22 = .ok (.invokevirtual 67, 3) := by decide +kernel
theorem dX2_greatestOfAll_25 : decode cX2_greatestOfAll 25 = .ok (.istore 6, 2) := by decide +kernel
theorem dX2_greatestOfAll_27 : decode cX2_greatestOfAll 27 = .ok (.iload 6, 2) := by decide +kernel
theorem dX2_greatestOfAll_29 : decode cX2_greatestOfAll 29 = .ok (.iconst (-1), 1) := by decide +kernel
theorem dX2_greatestOfAll_30 : decode cX2_greatestOfAll 30 = .ok (.if_icmp .eq 39, 3) := by decide +kernel
theorem dX2_greatestOfAll_33 : decode cX2_greatestOfAll 33 = .ok (.aload_n 0, 1) := by decide +kernel
theorem dX2_greatestOfAll_34 : decode cX2_greatestOfAll 34 = .ok (.iload 5, 2) := by decide +kernel
theorem dX2_greatestOfAll_36 : decode cX2_greatestOfAll 36 = .ok (.iload 6, 2) := by decide +kernel
theorem dX2_greatestOfAll_38 : decode cX2_greatestOfAll 38 = .ok (.iload_n 1, 1) := by decide +kernel
theorem dX2_greatestOfAll_39 : decode cX2_greatestOfAll 39 = .ok (.invokevirtual 63, 3) := by decide +kernel
theorem dX2_greatestOfAll_42 : decode cX2_greatestOfAll 42 = .ok (.istore 7, 2) := by decide +kernel
theorem dX2_greatestOfAll_44 : decode cX2_greatestOfAll 44 = .ok (.iload_n 3, 1) := by decide +kernel
theorem dX2_greatestOfAll_45 : decode cX2_greatestOfAll 45 = .ok (.iconst (-1), 1) := by decide +kernel
theorem dX2_greatestOfAll_46 : decode cX2_greatestOfAll 46 = .ok (.if_icmp .eq 10, 3) := by decide +kernel
theorem dX2_greatestOfAll_49 : decode cX2_greatestOfAll 49 = .ok (.iload 7, 2) := by decide +kernel
theorem dX2_greatestOfAll_51 : decode cX2_greatestOfAll 51 = .ok (.iload 4, 2) := by decide +kernel
theorem dX2_greatestOfAll_53 : decode cX2_greatestOfAll 53 = .ok (.if_icmp .le 16, 3) := by decide +kernel
theorem dX2_greatestOfAll_56 : decode cX2_greatestOfAll 56 = .ok (.bipush 100, 2) := by decide +kernel
theorem dX2_greatestOfAll_58 : decode cX2_greatestOfAll 58 = .ok (.iload 5, 2) := by decide +kernel
theorem dX2_greatestOfAll_60 : decode cX2_greatestOfAll 60 = .ok (.imul, 1) := by decide +kernel
theorem dX2_greatestOfAll_61 : decode cX2_greatestOfAll 61 = .ok (.iload 6, 2) := by decide +kernel
theorem dX2_greatestOfAll_63 : decode cX2_greatestOfAll 63 = .ok (.iadd, 1) := by decide +kernel
theorem dX2_greatestOfAll_64 : decode cX2_greatestOfAll 64 = .ok (.istore_n 3, 1) := by decide +kernel
theorem dX2_greatestOfAll_65 : decode cX2_greatestOfAll 65 = .ok (.iload 7, 2) := by decide +kernel
theorem dX2_greatestOfAll_67 : decode cX2_greatestOfAll 67 = .ok (.istore 4, 2) := by decide +kernel
theorem dX2_greatestOfAll_69 : decode cX2_greatestOfAll 69 = .ok (.iinc 5 1, 3) := by decide +kernel
theorem dX2_greatestOfAll_72 : decode cX2_greatestOfAll 72 = .ok (.goto (-64), 3) := by decide +kernel
theorem dX2_greatestOfAll_75 : decode cX2_greatestOfAll 75 = .ok (.iload_n 3, 1) := by decide +kernel
theorem dX2_greatestOfAll_76 : decode cX2_greatestOfAll 76 = .ok (.ireturn, 1) := by decide +kernel
theorem dX2_give_0 : decode cX2_give 0 = .ok (.iload_n 2, 1) := by decide +kernel
theorem dX2_give_1 : decode cX2_give 1 = .ok (.istore 5, 2) := by decide +kernel
theorem dX2_give_3 : decode cX2_give 3 = .ok (.iload 5, 2) := by decide +kernel
theorem dX2_give_5 : decode cX2_give 5 = .ok (.iload_n 2, 1) := by decide +kernel
theorem dX2_give_6 : decode cX2_give 6 = .ok (.iload_n 3, 1) := by decide +kernel
theorem dX2_give_7 : decode cX2_give 7 = .ok (.iadd, 1) := by decide +kernel
theorem dX2_give_8 : decode cX2_give 8 = .ok (.if_icmp .ge 30, 3) := by decide +kernel
theorem dX2_give_11 : decode cX2_give 11 = .ok (.aload_n 0, 1) := by decide +kernel
theorem dX2_give_12 : decode cX2_give 12 = .ok (.iload_n 1, 1) := by decide +kernel
theorem dX2_give_13 : decode cX2_give 13 = .ok (.iload 5, 2) := by decide +kernel
theorem dX2_give_15 : decode cX2_give 15 = .ok (.invokevirtual 30, 3) := by decide +kernel
theorem dX2_give_18 : decode cX2_give 18 = .ok (.ifCond .eq 14, 3) := by decide +kernel
theorem dX2_give_21 : decode cX2_give 21 = .ok (.aload_n 0, 1) := by decide +kernel
theorem dX2_give_22 : decode cX2_give 22 = .ok (.getfield 23, 3) := by decide +kernel
theorem dX2_give_25 : decode cX2_give 25 = .ok (.iload_n 1, 1) := by decide +kernel
theorem dX2_give_26 : decode cX2_give 26 = .ok (.aaload, 1) := by decide +kernel
theorem dX2_give_27 : decode cX2_give 27 = .ok (.iload 5, 2) := by decide +kernel
theorem dX2_give_29 : decode cX2_give 29 = .ok (.iload 4, 2) := by decide +kernel
theorem dX2_give_31 : decode cX2_give 31 = .ok (.iastore, 1) := by decide +kernel
theorem dX2_give_32 : decode cX2_give 32 = .ok (.iinc 5 1, 3) := by decide +kernel
theorem dX2_give_35 : decode cX2_give 35 = .ok (.goto (-32), 3) := by decide +kernel
theorem dX2_give_38 : decode cX2_give 38 = .ok (.return_, 1) := by decide +kernel
theorem dX2_freeOwnedBy_0 : decode cX2_freeOwnedBy 0 = .ok (.iconst 0, 1) := by decide +kernel
theorem dX2_freeOwnedBy_1 : decode cX2_freeOwnedBy 1 = .ok (.istore_n 2, 1) := by decide +kernel
theorem dX2_freeOwnedBy_2 : decode cX2_freeOwnedBy 2 = .ok (.iload_n 2, 1) := by decide +kernel
theorem dX2_freeOwnedBy_3 : decode cX2_freeOwnedBy 3 = .ok (.aload_n 0, 1) := by decide +kernel
theorem dX2_freeOwnedBy_4 : decode cX2_freeOwnedBy 4 = .ok (.getfield 26, 3) := by decide +kernel
theorem dX2_freeOwnedBy_7 : decode cX2_freeOwnedBy 7 = .ok (.if_icmp .ge 47, 3) := by decide +kernel
theorem dX2_freeOwnedBy_10 : decode cX2_freeOwnedBy 10 = .ok (.iconst 0, 1) := by decide +kernel
theorem dX2_freeOwnedBy_11 : decode cX2_freeOwnedBy 11 = .ok (.istore_n 3, 1) := by decide +kernel
theorem dX2_freeOwnedBy_12 : decode cX2_freeOwnedBy 12 = .ok (.iload_n 3, 1) := by decide +kernel
theorem dX2_freeOwnedBy_13 : decode cX2_freeOwnedBy 13 = .ok (.aload_n 0, 1) := by decide +kernel
theorem dX2_freeOwnedBy_14 : decode cX2_freeOwnedBy 14 = .ok (.iload_n 2, 1) := by decide +kernel
theorem dX2_freeOwnedBy_15 : decode cX2_freeOwnedBy 15 = .ok (.invokevirtual 40, 3) := by decide +kernel
theorem dX2_freeOwnedBy_18 : decode cX2_freeOwnedBy 18 = .ok (.if_icmp .ge 30, 3) := by decide +kernel
theorem dX2_freeOwnedBy_21 : decode cX2_freeOwnedBy 21 = .ok (.aload_n 0, 1) := by decide +kernel
theorem dX2_freeOwnedBy_22 : decode cX2_freeOwnedBy 22 = .ok (.getfield 23, 3) := by decide +kernel
theorem dX2_freeOwnedBy_25 : decode cX2_freeOwnedBy 25 = .ok (.iload_n 2, 1) := by decide +kernel
theorem dX2_freeOwnedBy_26 : decode cX2_freeOwnedBy 26 = .ok (.aaload, 1) := by decide +kernel
theorem dX2_freeOwnedBy_27 : decode cX2_freeOwnedBy 27 = .ok (.iload_n 3, 1) := by decide +kernel
theorem dX2_freeOwnedBy_28 : decode cX2_freeOwnedBy 28 = .ok (.iaload, 1) := by decide +kernel
theorem dX2_freeOwnedBy_29 : decode cX2_freeOwnedBy 29 = .ok (.iload_n 1, 1) := by decide +kernel
theorem dX2_freeOwnedBy_30 : decode cX2_freeOwnedBy 30 = .ok (.if_icmp .ne 12, 3) := by decide +kernel
theorem dX2_freeOwnedBy_33 : decode cX2_freeOwnedBy 33 = .ok (.aload_n 0, 1) := by decide +kernel
theorem dX2_freeOwnedBy_34 : decode cX2_freeOwnedBy 34 = .ok (.getfield 23, 3) := by decide +kernel
theorem dX2_freeOwnedBy_37 : decode cX2_freeOwnedBy 37 = .ok (.iload_n 2, 1) := by decide +kernel
theorem dX2_freeOwnedBy_38 : decode cX2_freeOwnedBy 38 = .ok (.aaload, 1) := by decide +kernel
theorem dX2_freeOwnedBy_39 : decode cX2_freeOwnedBy 39 = .ok (.iload_n 3, 1) := by decide +kernel
theorem dX2_freeOwnedBy_40 : decode cX2_freeOwnedBy 40 = .ok (.iconst 0, 1) := by decide +kernel
theorem dX2_freeOwnedBy_41 : decode cX2_freeOwnedBy 41 = .ok (.iastore, 1) := by decide +kernel
theorem dX2_freeOwnedBy_42 : decode cX2_freeOwnedBy 42 = .ok (.iinc 3 1, 3) := by decide +kernel
theorem dX2_freeOwnedBy_45 : decode cX2_freeOwnedBy 45 = .ok (.goto (-33), 3) := by decide +kernel
theorem dX2_freeOwnedBy_48 : decode cX2_freeOwnedBy 48 = .ok (.iinc 2 1, 3) := by decide +kernel
theorem dX2_freeOwnedBy_51 : decode cX2_freeOwnedBy 51 = .ok (.goto (-49), 3) := by decide +kernel
theorem dX2_freeOwnedBy_54 : decode cX2_freeOwnedBy 54 = .ok (.return_, 1) := by decide +kernel
theorem dX2_priceOwnedBy_0 : decode cX2_priceOwnedBy 0 = .ok (.iconst 0, 1) := by decide +kernel
theorem dX2_priceOwnedBy_1 : decode cX2_priceOwnedBy 1 = .ok (.istore_n 2, 1) := by decide +kernel
theorem dX2_priceOwnedBy_2 : decode cX2_priceOwnedBy 2 = .ok (.iconst 0, 1) := by decide +kernel
theorem dX2_priceOwnedBy_3 : decode cX2_priceOwnedBy 3 = .ok (.istore_n 3, 1) := by decide +kernel
theorem dX2_priceOwnedBy_4 : decode cX2_priceOwnedBy 4 = .ok (.iload_n 3, 1) := by decide +kernel
theorem dX2_priceOwnedBy_5 : decode cX2_priceOwnedBy 5 = .ok (.aload_n 0, 1) := by decide +kernel
theorem dX2_priceOwnedBy_6 : decode cX2_priceOwnedBy 6 = .ok (.getfield 26, 3) := by decide +kernel
theorem dX2_priceOwnedBy_9 : decode cX2_priceOwnedBy 9 = .ok (.if_icmp .ge 50, 3) := by decide +kernel
theorem dX2_priceOwnedBy_12 : decode cX2_priceOwnedBy 12 = .ok (.iconst 0, 1) := by decide +kernel
theorem dX2_priceOwnedBy_13 : decode cX2_priceOwnedBy 13 = .ok (.istore 4, 2) := by decide +kernel
theorem dX2_priceOwnedBy_15 : decode cX2_priceOwnedBy 15 = .ok (.iload 4, 2) := by decide +kernel
theorem dX2_priceOwnedBy_17 : decode cX2_priceOwnedBy 17 = .ok (.aload_n 0, 1) := by decide +kernel
theorem dX2_priceOwnedBy_18 : decode cX2_priceOwnedBy 18 = .ok (.iload_n 3, 1) := by decide +kernel
theorem dX2_priceOwnedBy_19 : decode cX2_priceOwnedBy 19 = .ok (.invokevirtual 40, 3) := by decide +kernel
theorem dX2_priceOwnedBy_22 : decode cX2_priceOwnedBy 22 = .ok (.if_icmp .ge 31, 3) := by decide +kernel
theorem dX2_priceOwnedBy_25 : decode cX2_priceOwnedBy 25 = .ok (.aload_n 0, 1) := by decide +kernel
theorem dX2_priceOwnedBy_26 : decode cX2_priceOwnedBy 26 = .ok (.getfield 23, 3) := by decide +kernel
theorem dX2_priceOwnedBy_29 : decode cX2_priceOwnedBy 29 = .ok (.iload_n 3, 1) := by decide +kernel
theorem dX2_priceOwnedBy_30 : decode cX2_priceOwnedBy 30 = .ok (.aaload, 1) := by decide +kernel
theorem dX2_priceOwnedBy_31 : decode cX2_priceOwnedBy 31 = .ok (.iload 4, 2) := by decide +kernel
theorem dX2_priceOwnedBy_33 : decode cX2_priceOwnedBy 33 = .ok (.iaload, 1) := by decide +kernel
theorem dX2_priceOwnedBy_34 : decode cX2_priceOwnedBy 34 = .ok (.iload_n 1, 1) := by decide +kernel
theorem dX2_priceOwnedBy_35 : decode cX2_priceOwnedBy 35 = .ok (.if_icmp .ne 12, 3) := by decide +kernel
theorem dX2_priceOwnedBy_38 : decode cX2_priceOwnedBy 38 = .ok (.iload_n 2, 1) := by decide +kernel
theorem dX2_priceOwnedBy_39 : decode cX2_priceOwnedBy 39 = .ok (.aload_n 0, 1) := by decide +kernel
theorem dX2_priceOwnedBy_40 : decode cX2_priceOwnedBy 40 = .ok (.getfield 18, 3) := by decide +kernel
theorem dX2_priceOwnedBy_43 : decode cX2_priceOwnedBy 43 = .ok (.iload_n 3, 1) := by decide +kernel
theorem dX2_priceOwnedBy_44 : decode cX2_priceOwnedBy 44 = .ok (.iaload, 1) := by decide +kernel
theorem dX2_priceOwnedBy_45 : decode cX2_priceOwnedBy 45 = .ok (.iadd, 1) := by decide +kernel
theorem dX2_priceOwnedBy_46 : decode cX2_priceOwnedBy 46 = .ok (.istore_n 2, 1) := by decide +kernel
theorem dX2_priceOwnedBy_47 : decode cX2_priceOwnedBy 47 = .ok (.iinc 4 1, 3) := by decide +kernel
theorem dX2_priceOwnedBy_50 : decode cX2_priceOwnedBy 50 = .ok (.goto (-35), 3) := by decide +kernel
theorem dX2_priceOwnedBy_53 : decode cX2_priceOwnedBy 53 = .ok (.iinc 3 1, 3) := by decide +kernel
theorem dX2_priceOwnedBy_56 : decode cX2_priceOwnedBy 56 = .ok (.goto (-52), 3) := by decide +kernel
theorem dX2_priceOwnedBy_59 : decode cX2_priceOwnedBy 59 = .ok (.iload_n 2, 1) := by decide +kernel
theorem dX2_priceOwnedBy_60 : decode cX2_priceOwnedBy 60 = .ok (.ireturn, 1) := by decide +kernel
theorem dX3_init_0 : decode cX3_init 0 = .ok (.aload_n 0, 1) := by decide +kernel
theorem dX3_init_1 : decode cX3_init 1 = .ok (.invokespecial 3, 3) := by decide +kernel
theorem dX3_init_4 : decode cX3_init 4 = .ok (.aload_n 0, 1) := by decide +kernel
theorem dX3_init_5 : decode cX3_init 5 = .ok (.bipush 101, 2) := by decide +kernel
theorem dX3_init_7 : decode cX3_init 7 = .ok (.newarray .int, 2) := by decide +kernel
theorem dX3_init_9 : decode cX3_init 9 = .ok (.putfield 9, 3) := by decide +kernel
theorem dX3_init_12 : decode cX3_init 12 = .ok (.aload_n 0, 1) := by decide +kernel
theorem dX3_init_13 : decode cX3_init 13 = .ok (.bipush 101, 2) := by decide +kernel
theorem dX3_init_15 : decode cX3_init 15 = .ok (.newarray .int, 2) := by decide +kernel
theorem dX3_init_17 : decode cX3_init 17 = .ok (.putfield 15, 3) := by decide +kernel
theorem dX3_init_20 : decode cX3_init 20 = .ok (.aload_n 0, 1) := by decide +kernel
theorem dX3_init_21 : decode cX3_init 21 = .ok (.bipush 101, 2) := by decide +kernel
theorem dX3_init_23 : decode cX3_init 23 = .ok (.newarray .int, 2) := by decide +kernel
theorem dX3_init_25 : decode cX3_init 25 = .ok (.putfield 18, 3) := by decide +kernel
theorem dX3_init_28 : decode cX3_init 28 = .ok (.aload_n 0, 1) := by decide +kernel
theorem dX3_init_29 : decode cX3_init 29 = .ok (.bipush 101, 2) := by decide +kernel
theorem dX3_init_31 : decode cX3_init 31 = .ok (.newarray .int, 2) := by decide +kernel
theorem dX3_init_33 : decode cX3_init 33 = .ok (.putfield 21, 3) := by decide +kernel
theorem dX3_init_36 : decode cX3_init 36 = .ok (.aload_n 0, 1) := by decide +kernel
theorem dX3_init_37 : decode cX3_init 37 = .ok (.bipush 101, 2) := by decide +kernel
theorem dX3_init_39 : decode cX3_init 39 = .ok (.newarray .int, 2) := by decide +kernel
theorem dX3_init_41 : decode cX3_init 41 = .ok (.putfield 24, 3) := by decide +kernel
theorem dX3_init_44 : decode cX3_init 44 = .ok (.aload_n 0, 1) := by decide +kernel
theorem dX3_init_45 : decode cX3_init 45 = .ok (.bipush 101, 2) := by decide +kernel
theorem dX3_init_47 : decode cX3_init 47 = .ok (.newarray .int, 2) := by decide +kernel
theorem dX3_init_49 : decode cX3_init 49 = .ok (.putfield 27, 3) := by decide +kernel
theorem dX3_init_52 : decode cX3_init 52 = .ok (.aload_n 0, 1) := by decide +kernel
theorem dX3_init_53 : decode cX3_init 53 = .ok (.bipush 101, 2) := by decide +kernel
theorem dX3_init_55 : decode cX3_init 55 = .ok (.newarray .int, 2) := by decide +kernel
theorem dX3_init_57 : decode cX3_init 57 = .ok (.putfield 30, 3) := by decide +kernel
theorem dX3_init_60 : decode cX3_init 60 = .ok (.aload_n 0, 1) := by decide +kernel
theorem dX3_init_61 : decode cX3_init 61 = .ok (.bipush 101, 2) := by decide +kernel
theorem dX3_init_63 : decode cX3_init 63 = .ok (.newarray .int, 2) := by decide +kernel
theorem dX3_init_65 : decode cX3_init 65 = .ok (.putfield 33, 3) := by decide +kernel
theorem dX3_init_68 : decode cX3_init 68 = .ok (.aload_n 0, 1) := by decide +kernel
theorem dX3_init_69 : decode cX3_init 69 = .ok (.iconst 0, 1) := by decide +kernel
theorem dX3_init_70 : decode cX3_init 70 = .ok (.putfield 36, 3) := by decide +kernel
theorem dX3_init_73 : decode cX3_init 73 = .ok (.return_, 1) := by decide +kernel
theorem dX3_count_0 : decode cX3_count 0 = .ok (.aload_n 0, 1) := by decide +kernel
theorem dX3_count_1 : decode cX3_count 1 = .ok (.getfield 36, 3) := by decide +kernel
theorem dX3_count_4 : decode cX3_count 4 = .ok (.ireturn, 1) := by decide +kernel
theorem dX3_hasTicket_0 : decode cX3_hasTicket 0 = .ok (.iload_n 1, 1) := by decide +kernel
theorem dX3_hasTicket_1 : decode cX3_hasTicket 1 = .ok (.iconst 1, 1) := by decide +kernel
theorem dX3_hasTicket_2 : decode cX3_hasTicket 2 = .ok (.if_icmp .lt 15, 3) := by decide +kernel
theorem dX3_hasTicket_5 : decode cX3_hasTicket 5 = .ok (.iload_n 1, 1) := by decide +kernel
theorem dX3_hasTicket_6 : decode cX3_hasTicket 6 = .ok (.aload_n 0, 1) := by decide +kernel
theorem dX3_hasTicket_7 : decode cX3_hasTicket 7 = .ok (.getfield 36, 3) := by decide +kernel
theorem dX3_hasTicket_10 : decode cX3_hasTicket 10 = .ok (.if_icmp .gt 7, 3) := by decide +kernel
theorem dX3_hasTicket_13 : decode cX3_hasTicket 13 = .ok (.iconst 1, 1) := by decide +kernel
theorem dX3_hasTicket_14 : decode cX3_hasTicket 14 = .ok (.goto 4, 3) := by decide +kernel
theorem dX3_hasTicket_17 : decode cX3_hasTicket 17 = .ok (.iconst 0, 1) := by decide +kernel
theorem dX3_hasTicket_18 : decode cX3_hasTicket 18 = .ok (.ireturn, 1) := by decide +kernel
theorem dX3_open_0 : decode cX3_open 0 = .ok (.aload_n 0, 1) := by decide +kernel
theorem dX3_open_1 : decode cX3_open 1 = .ok (.getfield 36, 3) := by decide +kernel
theorem dX3_open_4 : decode cX3_open 4 = .ok (.bipush 100, 2) := by decide +kernel
theorem dX3_open_6 : decode cX3_open 6 = .ok (.if_icmp .lt 5, 3) := by decide +kernel
theorem dX3_open_9 : decode cX3_open 9 = .ok (.iconst (-1), 1) := by decide +kernel
theorem dX3_open_10 : decode cX3_open 10 = .ok (.ireturn, 1) := by decide +kernel
theorem dX3_open_11 : decode cX3_open 11 = .ok (.aload_n 0, 1) := by decide +kernel
theorem dX3_open_12 : decode cX3_open 12 = .ok (.dup, 1) := by decide +kernel
theorem dX3_open_13 : decode cX3_open 13 = .ok (.getfield 36, 3) := by decide +kernel
theorem dX3_open_16 : decode cX3_open 16 = .ok (.iconst 1, 1) := by decide +kernel
theorem dX3_open_17 : decode cX3_open 17 = .ok (.iadd, 1) := by decide +kernel
theorem dX3_open_18 : decode cX3_open 18 = .ok (.putfield 36, 3) := by decide +kernel
theorem dX3_open_21 : decode cX3_open 21 = .ok (.aload_n 0, 1) := by decide +kernel
theorem dX3_open_22 : decode cX3_open 22 = .ok (.getfield 9, 3) := by decide +kernel
theorem dX3_open_25 : decode cX3_open 25 = .ok (.aload_n 0, 1) := by decide +kernel
theorem dX3_open_26 : decode cX3_open 26 = .ok (.getfield 36, 3) := by decide +kernel
theorem dX3_open_29 : decode cX3_open 29 = .ok (.iconst 0, 1) := by decide +kernel
theorem dX3_open_30 : decode cX3_open 30 = .ok (.iastore, 1) := by decide +kernel
theorem dX3_open_31 : decode cX3_open 31 = .ok (.aload_n 0, 1) := by decide +kernel
theorem dX3_open_32 : decode cX3_open 32 = .ok (.getfield 15, 3) := by decide +kernel
theorem dX3_open_35 : decode cX3_open 35 = .ok (.aload_n 0, 1) := by decide +kernel
theorem dX3_open_36 : decode cX3_open 36 = .ok (.getfield 36, 3) := by decide +kernel
theorem dX3_open_39 : decode cX3_open 39 = .ok (.iload_n 1, 1) := by decide +kernel
theorem dX3_open_40 : decode cX3_open 40 = .ok (.iastore, 1) := by decide +kernel
theorem dX3_open_41 : decode cX3_open 41 = .ok (.aload_n 0, 1) := by decide +kernel
theorem dX3_open_42 : decode cX3_open 42 = .ok (.getfield 18, 3) := by decide +kernel
theorem dX3_open_45 : decode cX3_open 45 = .ok (.aload_n 0, 1) := by decide +kernel
theorem dX3_open_46 : decode cX3_open 46 = .ok (.getfield 36, 3) := by decide +kernel
theorem dX3_open_49 : decode cX3_open 49 = .ok (.iload_n 2, 1) := by decide +kernel
theorem dX3_open_50 : decode cX3_open 50 = .ok (.iastore, 1) := by decide +kernel
theorem dX3_open_51 : decode cX3_open 51 = .ok (.aload_n 0, 1) := by decide +kernel
theorem dX3_open_52 : decode cX3_open 52 = .ok (.getfield 21, 3) := by decide +kernel
theorem dX3_open_55 : decode cX3_open 55 = .ok (.aload_n 0, 1) := by decide +kernel
theorem dX3_open_56 : decode cX3_open 56 = .ok (.getfield 36, 3) := by decide +kernel
theorem dX3_open_59 : decode cX3_open 59 = .ok (.iconst 0, 1) := by decide +kernel
theorem dX3_open_60 : decode cX3_open 60 = .ok (.iastore, 1) := by decide +kernel
theorem dX3_open_61 : decode cX3_open 61 = .ok (.aload_n 0, 1) := by decide +kernel
theorem dX3_open_62 : decode cX3_open 62 = .ok (.getfield 24, 3) := by decide +kernel
theorem dX3_open_65 : decode cX3_open 65 = .ok (.aload_n 0, 1) := by decide +kernel
theorem dX3_open_66 : decode cX3_open 66 = .ok (.getfield 36, 3) := by decide +kernel
theorem dX3_open_69 : decode cX3_open 69 = .ok (.iconst 0, 1) := by decide +kernel
theorem dX3_open_70 : decode cX3_open 70 = .ok (.iastore, 1) := by decide +kernel
theorem dX3_open_71 : decode cX3_open 71 = .ok (.aload_n 0, 1) := by decide +kernel
theorem dX3_open_72 : decode cX3_open 72 = .ok (.getfield 27, 3) := by decide +kernel
theorem dX3_open_75 : decode cX3_open 75 = .ok (.aload_n 0, 1) := by decide +kernel
theorem dX3_open_76 : decode cX3_open 76 = .ok (.getfield 36, 3) := by decide +kernel
theorem dX3_open_79 : decode cX3_open 79 = .ok (.iconst (-1), 1) := by decide +kernel
theorem dX3_open_80 : decode cX3_open 80 = .ok (.iastore, 1) := by decide +kernel
theorem dX3_open_81 : decode cX3_open 81 = .ok (.aload_n 0, 1) := by decide +kernel
theorem dX3_open_82 : decode cX3_open 82 = .ok (.getfield 30, 3) := by decide +kernel
theorem dX3_open_85 : decode cX3_open 85 = .ok (.aload_n 0, 1) := by decide +kernel
theorem dX3_open_86 : decode cX3_open 86 = .ok (.getfield 36, 3) := by decide +kernel
theorem dX3_open_89 : decode cX3_open 89 = .ok (.iconst (-1), 1) := by decide +kernel
theorem dX3_open_90 : decode cX3_open 90 = .ok (.iastore, 1) := by decide +kernel
theorem dX3_open_91 : decode cX3_open 91 = .ok (.aload_n 0, 1) := by decide +kernel
theorem dX3_open_92 : decode cX3_open 92 = .ok (.getfield 33, 3) := by decide +kernel
theorem dX3_open_95 : decode cX3_open 95 = .ok (.aload_n 0, 1) := by decide +kernel
theorem dX3_open_96 : decode cX3_open 96 = .ok (.getfield 36, 3) := by decide +kernel
theorem dX3_open_99 : decode cX3_open 99 = .ok (.iconst (-1), 1) := by decide +kernel
theorem dX3_open_100 : decode cX3_open 100 = .ok (.iastore, 1) := by decide +kernel
theorem dX3_open_101 : decode cX3_open 101 = .ok (.aload_n 0, 1) := by decide +kernel
theorem dX3_open_102 : decode cX3_open 102 = .ok (.getfield 36, 3) := by decide +kernel
theorem dX3_open_105 : decode cX3_open 105 = .ok (.ireturn, 1) := by decide +kernel
theorem dX3_stateOf_0 : decode cX3_stateOf 0 = .ok (.aload_n 0, 1) := by decide +kernel
theorem dX3_stateOf_1 : decode cX3_stateOf 1 = .ok (.iload_n 1, 1) := by decide +kernel
theorem dX3_stateOf_2 : decode cX3_stateOf 2 = .ok (.invokevirtual 40, 3) := by decide +kernel
theorem dX3_stateOf_5 : decode cX3_stateOf 5 = .ok (.ifCond .eq 12, 3) := by decide +kernel
theorem dX3_stateOf_8 : decode cX3_stateOf 8 = .ok (.aload_n 0, 1) := by decide +kernel
theorem dX3_stateOf_9 : decode cX3_stateOf 9 = .ok (.getfield 9, 3) := by decide +kernel
theorem dX3_stateOf_12 : decode cX3_stateOf 12 = .ok (.iload_n 1, 1) := by decide +kernel
theorem dX3_stateOf_13 : decode cX3_stateOf 13 = .ok (.iaload, 1) := by decide +kernel
theorem dX3_stateOf_14 : decode cX3_stateOf 14 = .ok (.goto 4, 3) := by decide +kernel
theorem dX3_stateOf_17 : decode cX3_stateOf 17 = .ok (.iconst 3, 1) := by decide +kernel
theorem dX3_stateOf_18 : decode cX3_stateOf 18 = .ok (.ireturn, 1) := by decide +kernel
theorem dX3_isOpen_0 : decode cX3_isOpen 0 = .ok (.aload_n 0, 1) := by decide +kernel
theorem dX3_isOpen_1 : decode cX3_isOpen 1 = .ok (.iload_n 1, 1) := by decide +kernel
theorem dX3_isOpen_2 : decode cX3_isOpen 2 = .ok (.invokevirtual 44, 3) := by decide +kernel
theorem dX3_isOpen_5 : decode cX3_isOpen 5 = .ok (.istore_n 2, 1) := by decide +kernel
theorem dX3_isOpen_6 : decode cX3_isOpen 6 = .ok (.iload_n 2, 1) := by decide +kernel
theorem dX3_isOpen_7 : decode cX3_isOpen 7 = .ok (.ifCond .eq 8, 3) := by decide +kernel
theorem dX3_isOpen_10 : decode cX3_isOpen 10 = .ok (.iload_n 2, 1) := by decide +kernel
theorem dX3_isOpen_11 : decode cX3_isOpen 11 = .ok (.iconst 1, 1) := by decide +kernel
theorem dX3_isOpen_12 : decode cX3_isOpen 12 = .ok (.if_icmp .ne 7, 3) := by decide +kernel
theorem dX3_isOpen_15 : decode cX3_isOpen 15 = .ok (.iconst 1, 1) := by decide +kernel
theorem dX3_isOpen_16 : decode cX3_isOpen 16 = .ok (.goto 4, 3) := by decide +kernel
theorem dX3_isOpen_19 : decode cX3_isOpen 19 = .ok (.iconst 0, 1) := by decide +kernel
theorem dX3_isOpen_20 : decode cX3_isOpen 20 = .ok (.ireturn, 1) := by decide +kernel
theorem dX3_sizeOf_0 : decode cX3_sizeOf 0 = .ok (.aload_n 0, 1) := by decide +kernel
theorem dX3_sizeOf_1 : decode cX3_sizeOf 1 = .ok (.iload_n 1, 1) := by decide +kernel
theorem dX3_sizeOf_2 : decode cX3_sizeOf 2 = .ok (.invokevirtual 40, 3) := by decide +kernel
theorem dX3_sizeOf_5 : decode cX3_sizeOf 5 = .ok (.ifCond .eq 12, 3) := by decide +kernel
theorem dX3_sizeOf_8 : decode cX3_sizeOf 8 = .ok (.aload_n 0, 1) := by decide +kernel
theorem dX3_sizeOf_9 : decode cX3_sizeOf 9 = .ok (.getfield 15, 3) := by decide +kernel
theorem dX3_sizeOf_12 : decode cX3_sizeOf 12 = .ok (.iload_n 1, 1) := by decide +kernel
theorem dX3_sizeOf_13 : decode cX3_sizeOf 13 = .ok (.iaload, 1) := by decide +kernel
theorem dX3_sizeOf_14 : decode cX3_sizeOf 14 = .ok (.goto 4, 3) := by decide +kernel
theorem dX3_sizeOf_17 : decode cX3_sizeOf 17 = .ok (.iconst 0, 1) := by decide +kernel
theorem dX3_sizeOf_18 : decode cX3_sizeOf 18 = .ok (.ireturn, 1) := by decide +kernel
theorem dX3_endOf_0 : decode cX3_endOf 0 = .ok (.aload_n 0, 1) := by decide +kernel
theorem dX3_endOf_1 : decode cX3_endOf 1 = .ok (.iload_n 1, 1) := by decide +kernel
theorem dX3_endOf_2 : decode cX3_endOf 2 = .ok (.invokevirtual 40, 3) := by decide +kernel
theorem dX3_endOf_5 : decode cX3_endOf 5 = .ok (.ifCond .eq 12, 3) := by decide +kernel
theorem dX3_endOf_8 : decode cX3_endOf 8 = .ok (.aload_n 0, 1) := by decide +kernel
theorem dX3_endOf_9 : decode cX3_endOf 9 = .ok (.getfield 18, 3) := by decide +kernel
theorem dX3_endOf_12 : decode cX3_endOf 12 = .ok (.iload_n 1, 1) := by decide +kernel
theorem dX3_endOf_13 : decode cX3_endOf 13 = .ok (.iaload, 1) := by decide +kernel
theorem dX3_endOf_14 : decode cX3_endOf 14 = .ok (.goto 4, 3) := by decide +kernel
theorem dX3_endOf_17 : decode cX3_endOf 17 = .ok (.iconst (-1), 1) := by decide +kernel
theorem dX3_endOf_18 : decode cX3_endOf 18 = .ok (.ireturn, 1) := by decide +kernel
theorem dX3_extensionsOf_0 : decode cX3_extensionsOf 0 = .ok (.aload_n 0, 1) := by decide +kernel
theorem dX3_extensionsOf_1 : decode cX3_extensionsOf 1 = .ok (.iload_n 1, 1) := by decide +kernel
theorem dX3_extensionsOf_2 : decode cX3_extensionsOf 2 = .ok (.invokevirtual 40, 3) := by decide +kernel
theorem dX3_extensionsOf_5 : decode cX3_extensionsOf 5 = .ok (.ifCond .eq 12, 3) := by decide +kernel
theorem dX3_extensionsOf_8 : decode cX3_extensionsOf 8 = .ok (.aload_n 0, 1) := by decide +kernel
theorem dX3_extensionsOf_9 : decode cX3_extensionsOf 9 = .ok (.getfield 21, 3) := by decide +kernel
theorem dX3_extensionsOf_12 : decode cX3_extensionsOf 12 = .ok (.iload_n 1, 1) := by decide +kernel
theorem dX3_extensionsOf_13 : decode cX3_extensionsOf 13 = .ok (.iaload, 1) := by decide +kernel
theorem dX3_extensionsOf_14 : decode cX3_extensionsOf 14 = .ok (.goto 4, 3) := by decide +kernel
theorem dX3_extensionsOf_17 : decode cX3_extensionsOf 17 = .ok (.iconst 2, 1) := by decide +kernel
theorem dX3_extensionsOf_18 : decode cX3_extensionsOf 18 = .ok (.ireturn, 1) := by decide +kernel
theorem dX3_paidFor_0 : decode cX3_paidFor 0 = .ok (.aload_n 0, 1) := by decide +kernel
theorem dX3_paidFor_1 : decode cX3_paidFor 1 = .ok (.iload_n 1, 1) := by decide +kernel
theorem dX3_paidFor_2 : decode cX3_paidFor 2 = .ok (.invokevirtual 40, 3) := by decide +kernel
theorem dX3_paidFor_5 : decode cX3_paidFor 5 = .ok (.ifCond .eq 12, 3) := by decide +kernel
theorem dX3_paidFor_8 : decode cX3_paidFor 8 = .ok (.aload_n 0, 1) := by decide +kernel
theorem dX3_paidFor_9 : decode cX3_paidFor 9 = .ok (.getfield 24, 3) := by decide +kernel
theorem dX3_paidFor_12 : decode cX3_paidFor 12 = .ok (.iload_n 1, 1) := by decide +kernel
theorem dX3_paidFor_13 : decode cX3_paidFor 13 = .ok (.iaload, 1) := by decide +kernel
theorem dX3_paidFor_14 : decode cX3_paidFor 14 = .ok (.goto 4, 3) := by decide +kernel
theorem dX3_paidFor_17 : decode cX3_paidFor 17 = .ok (.iconst 0, 1) := by decide +kernel
theorem dX3_paidFor_18 : decode cX3_paidFor 18 = .ok (.ireturn, 1) := by decide +kernel
theorem dX3_rowOf_0 : decode cX3_rowOf 0 = .ok (.aload_n 0, 1) := by decide +kernel
theorem dX3_rowOf_1 : decode cX3_rowOf 1 = .ok (.iload_n 1, 1) := by decide +kernel
theorem dX3_rowOf_2 : decode cX3_rowOf 2 = .ok (.invokevirtual 40, 3) := by decide +kernel
theorem dX3_rowOf_5 : decode cX3_rowOf 5 = .ok (.ifCond .eq 12, 3) := by decide +kernel
theorem dX3_rowOf_8 : decode cX3_rowOf 8 = .ok (.aload_n 0, 1) := by decide +kernel
theorem dX3_rowOf_9 : decode cX3_rowOf 9 = .ok (.getfield 27, 3) := by decide +kernel
theorem dX3_rowOf_12 : decode cX3_rowOf 12 = .ok (.iload_n 1, 1) := by decide +kernel
theorem dX3_rowOf_13 : decode cX3_rowOf 13 = .ok (.iaload, 1) := by decide +kernel
theorem dX3_rowOf_14 : decode cX3_rowOf 14 = .ok (.goto 4, 3) := by decide +kernel
theorem dX3_rowOf_17 : decode cX3_rowOf 17 = .ok (.iconst (-1), 1) := by decide +kernel
theorem dX3_rowOf_18 : decode cX3_rowOf 18 = .ok (.ireturn, 1) := by decide +kernel
theorem dX3_firstOf_0 : decode cX3_firstOf 0 = .ok (.aload_n 0, 1) := by decide +kernel
theorem dX3_firstOf_1 : decode cX3_firstOf 1 = .ok (.iload_n 1, 1) := by decide +kernel
theorem dX3_firstOf_2 : decode cX3_firstOf 2 = .ok (.invokevirtual 40, 3) := by decide +kernel
theorem dX3_firstOf_5 : decode cX3_firstOf 5 = .ok (.ifCond .eq 12, 3) := by decide +kernel
theorem dX3_firstOf_8 : decode cX3_firstOf 8 = .ok (.aload_n 0, 1) := by decide +kernel
theorem dX3_firstOf_9 : decode cX3_firstOf 9 = .ok (.getfield 30, 3) := by decide +kernel
theorem dX3_firstOf_12 : decode cX3_firstOf 12 = .ok (.iload_n 1, 1) := by decide +kernel
theorem dX3_firstOf_13 : decode cX3_firstOf 13 = .ok (.iaload, 1) := by decide +kernel
theorem dX3_firstOf_14 : decode cX3_firstOf 14 = .ok (.goto 4, 3) := by decide +kernel
theorem dX3_firstOf_17 : decode cX3_firstOf 17 = .ok (.iconst (-1), 1) := by decide +kernel
theorem dX3_firstOf_18 : decode cX3_firstOf 18 = .ok (.ireturn, 1) := by decide +kernel
theorem dX3_wishOf_0 : decode cX3_wishOf 0 = .ok (.aload_n 0, 1) := by decide +kernel
theorem dX3_wishOf_1 : decode cX3_wishOf 1 = .ok (.iload_n 1, 1) := by decide +kernel
theorem dX3_wishOf_2 : decode cX3_wishOf 2 = .ok (.invokevirtual 40, 3) := by decide +kernel
theorem dX3_wishOf_5 : decode cX3_wishOf 5 = .ok (.ifCond .eq 12, 3) := by decide +kernel
theorem dX3_wishOf_8 : decode cX3_wishOf 8 = .ok (.aload_n 0, 1) := by decide +kernel
theorem dX3_wishOf_9 : decode cX3_wishOf 9 = .ok (.getfield 33, 3) := by decide +kernel
theorem dX3_wishOf_12 : decode cX3_wishOf 12 = .ok (.iload_n 1, 1) := by decide +kernel
theorem dX3_wishOf_13 : decode cX3_wishOf 13 = .ok (.iaload, 1) := by decide +kernel
theorem dX3_wishOf_14 : decode cX3_wishOf 14 = .ok (.goto 4, 3) := by decide +kernel
theorem dX3_wishOf_17 : decode cX3_wishOf 17 = .ok (.iconst (-1), 1) := by decide +kernel
theorem dX3_wishOf_18 : decode cX3_wishOf 18 = .ok (.ireturn, 1) := by decide +kernel
theorem dX3_prolong_0 : decode cX3_prolong 0 = .ok (.aload_n 0, 1) := by decide +kernel
theorem dX3_prolong_1 : decode cX3_prolong 1 = .ok (.iload_n 1, 1) := by decide +kernel
theorem dX3_prolong_2 : decode cX3_prolong 2 = .ok (.invokevirtual 40, 3) := by decide +kernel
theorem dX3_prolong_5 : decode cX3_prolong 5 = .ok (.ifCond .eq 20, 3) := by decide +kernel
theorem dX3_prolong_8 : decode cX3_prolong 8 = .ok (.aload_n 0, 1) := by decide +kernel
theorem dX3_prolong_9 : decode cX3_prolong 9 = .ok (.getfield 18, 3) := by decide +kernel
theorem dX3_prolong_12 : decode cX3_prolong 12 = .ok (.iload_n 1, 1) := by decide +kernel
theorem dX3_prolong_13 : decode cX3_prolong 13 = .ok (.iload_n 2, 1) := by decide +kernel
theorem dX3_prolong_14 : decode cX3_prolong 14 = .ok (.iastore, 1) := by decide +kernel
theorem dX3_prolong_15 : decode cX3_prolong 15 = .ok (.aload_n 0, 1) := by decide +kernel
theorem dX3_prolong_16 : decode cX3_prolong 16 = .ok (.getfield 21, 3) := by decide +kernel
theorem dX3_prolong_19 : decode cX3_prolong 19 = .ok (.iload_n 1, 1) := by decide +kernel
theorem dX3_prolong_20 : decode cX3_prolong 20 = .ok (.dup2, 1) := by decide +kernel
theorem dX3_prolong_21 : decode cX3_prolong 21 = .ok (.iaload, 1) := by decide +kernel
theorem dX3_prolong_22 : decode cX3_prolong 22 = .ok (.iconst 1, 1) := by decide +kernel
theorem dX3_prolong_23 : decode cX3_prolong 23 = .ok (.iadd, 1) := by decide +kernel
theorem dX3_prolong_24 : decode cX3_prolong 24 = .ok (.iastore, 1) := by decide +kernel
theorem dX3_prolong_25 : decode cX3_prolong 25 = .ok (.return_, 1) := by decide +kernel
theorem dX3_turnIntoBooking_0 : decode cX3_turnIntoBooking 0 = .ok (.aload_n 0, 1) := by decide +kernel
theorem dX3_turnIntoBooking_1 : decode cX3_turnIntoBooking 1 = .ok (.iload_n 1, 1) := by decide +kernel
theorem dX3_turnIntoBooking_2 : decode cX3_turnIntoBooking 2 = .ok (.invokevirtual 40, 3) := by decide +kernel
theorem dX3_turnIntoBooking_5 : decode cX3_turnIntoBooking 5 = .ok (.ifCond .eq 17, 3) := by decide +kernel
theorem dX3_turnIntoBooking_8 : decode cX3_turnIntoBooking 8 = .ok (.aload_n 0, 1) := by decide +kernel
theorem dX3_turnIntoBooking_9 : decode cX3_turnIntoBooking 9 = .ok (.getfield 9, 3) := by decide +kernel
theorem dX3_turnIntoBooking_12 : decode cX3_turnIntoBooking 12 = .ok (.iload_n 1, 1) := by decide +kernel
theorem dX3_turnIntoBooking_13 : decode cX3_turnIntoBooking 13 = .ok (.iconst 1, 1) := by decide +kernel
theorem dX3_turnIntoBooking_14 : decode cX3_turnIntoBooking 14 = .ok (.iastore, 1) := by decide +kernel
theorem dX3_turnIntoBooking_15 : decode cX3_turnIntoBooking 15 = .ok (.aload_n 0, 1) := by decide +kernel
theorem dX3_turnIntoBooking_16 : decode cX3_turnIntoBooking 16 = .ok (.getfield 24, 3) := by decide +kernel
theorem dX3_turnIntoBooking_19 : decode cX3_turnIntoBooking 19 = .ok (.iload_n 1, 1) := by decide +kernel
theorem dX3_turnIntoBooking_20 : decode cX3_turnIntoBooking 20 = .ok (.iload_n 2, 1) := by decide +kernel
theorem dX3_turnIntoBooking_21 : decode cX3_turnIntoBooking 21 = .ok (.iastore, 1) := by decide +kernel
theorem dX3_turnIntoBooking_22 : decode cX3_turnIntoBooking 22 = .ok (.return_, 1) := by decide +kernel
theorem dX3_close_0 : decode cX3_close 0 = .ok (.aload_n 0, 1) := by decide +kernel
theorem dX3_close_1 : decode cX3_close 1 = .ok (.iload_n 1, 1) := by decide +kernel
theorem dX3_close_2 : decode cX3_close 2 = .ok (.invokevirtual 40, 3) := by decide +kernel
theorem dX3_close_5 : decode cX3_close 5 = .ok (.ifCond .eq 17, 3) := by decide +kernel
theorem dX3_close_8 : decode cX3_close 8 = .ok (.aload_n 0, 1) := by decide +kernel
theorem dX3_close_9 : decode cX3_close 9 = .ok (.getfield 9, 3) := by decide +kernel
theorem dX3_close_12 : decode cX3_close 12 = .ok (.iload_n 1, 1) := by decide +kernel
theorem dX3_close_13 : decode cX3_close 13 = .ok (.iload_n 2, 1) := by decide +kernel
theorem dX3_close_14 : decode cX3_close 14 = .ok (.iastore, 1) := by decide +kernel
theorem dX3_close_15 : decode cX3_close 15 = .ok (.aload_n 0, 1) := by decide +kernel
theorem dX3_close_16 : decode cX3_close 16 = .ok (.getfield 33, 3) := by decide +kernel
theorem dX3_close_19 : decode cX3_close 19 = .ok (.iload_n 1, 1) := by decide +kernel
theorem dX3_close_20 : decode cX3_close 20 = .ok (.iconst (-1), 1) := by decide +kernel
theorem dX3_close_21 : decode cX3_close 21 = .ok (.iastore, 1) := by decide +kernel
theorem dX3_close_22 : decode cX3_close 22 = .ok (.return_, 1) := by decide +kernel
theorem dX3_putAt_0 : decode cX3_putAt 0 = .ok (.aload_n 0, 1) := by decide +kernel
theorem dX3_putAt_1 : decode cX3_putAt 1 = .ok (.iload_n 1, 1) := by decide +kernel
theorem dX3_putAt_2 : decode cX3_putAt 2 = .ok (.invokevirtual 40, 3) := by decide +kernel
theorem dX3_putAt_5 : decode cX3_putAt 5 = .ok (.ifCond .eq 17, 3) := by decide +kernel
theorem dX3_putAt_8 : decode cX3_putAt 8 = .ok (.aload_n 0, 1) := by decide +kernel
theorem dX3_putAt_9 : decode cX3_putAt 9 = .ok (.getfield 27, 3) := by decide +kernel
theorem dX3_putAt_12 : decode cX3_putAt 12 = .ok (.iload_n 1, 1) := by decide +kernel
theorem dX3_putAt_13 : decode cX3_putAt 13 = .ok (.iload_n 2, 1) := by decide +kernel
theorem dX3_putAt_14 : decode cX3_putAt 14 = .ok (.iastore, 1) := by decide +kernel
theorem dX3_putAt_15 : decode cX3_putAt 15 = .ok (.aload_n 0, 1) := by decide +kernel
theorem dX3_putAt_16 : decode cX3_putAt 16 = .ok (.getfield 30, 3) := by decide +kernel
theorem dX3_putAt_19 : decode cX3_putAt 19 = .ok (.iload_n 1, 1) := by decide +kernel
theorem dX3_putAt_20 : decode cX3_putAt 20 = .ok (.iload_n 3, 1) := by decide +kernel
theorem dX3_putAt_21 : decode cX3_putAt 21 = .ok (.iastore, 1) := by decide +kernel
theorem dX3_putAt_22 : decode cX3_putAt 22 = .ok (.return_, 1) := by decide +kernel
theorem dX3_setWish_0 : decode cX3_setWish 0 = .ok (.aload_n 0, 1) := by decide +kernel
theorem dX3_setWish_1 : decode cX3_setWish 1 = .ok (.iload_n 1, 1) := by decide +kernel
theorem dX3_setWish_2 : decode cX3_setWish 2 = .ok (.invokevirtual 40, 3) := by decide +kernel
theorem dX3_setWish_5 : decode cX3_setWish 5 = .ok (.ifCond .eq 10, 3) := by decide +kernel
theorem dX3_setWish_8 : decode cX3_setWish 8 = .ok (.aload_n 0, 1) := by decide +kernel
theorem dX3_setWish_9 : decode cX3_setWish 9 = .ok (.getfield 33, 3) := by decide +kernel
theorem dX3_setWish_12 : decode cX3_setWish 12 = .ok (.iload_n 1, 1) := by decide +kernel
theorem dX3_setWish_13 : decode cX3_setWish 13 = .ok (.iload_n 2, 1) := by decide +kernel
theorem dX3_setWish_14 : decode cX3_setWish 14 = .ok (.iastore, 1) := by decide +kernel
theorem dX3_setWish_15 : decode cX3_setWish 15 = .ok (.return_, 1) := by decide +kernel
theorem dX3_earliestEnd_0 : decode cX3_earliestEnd 0 = .ok (.iconst (-1), 1) := by decide +kernel
theorem dX3_earliestEnd_1 : decode cX3_earliestEnd 1 = .ok (.istore_n 1, 1) := by decide +kernel
theorem dX3_earliestEnd_2 : decode cX3_earliestEnd 2 = .ok (.iconst 1, 1) := by decide +kernel
theorem dX3_earliestEnd_3 : decode cX3_earliestEnd 3 = .ok (.istore_n 2, 1) := by decide +kernel
theorem dX3_earliestEnd_4 : decode cX3_earliestEnd 4 = .ok (.iload_n 2, 1) := by decide +kernel
theorem dX3_earliestEnd_5 : decode cX3_earliestEnd 5 = .ok (.aload_n 0, 1) := by decide +kernel
theorem dX3_earliestEnd_6 : decode cX3_earliestEnd 6 = .ok (.getfield 36, 3) := by decide +kernel
theorem dX3_earliestEnd_9 : decode cX3_earliestEnd 9 = .ok (.if_icmp .gt 40, 3) := by decide +kernel
theorem dX3_earliestEnd_12 : decode cX3_earliestEnd 12 = .ok (.aload_n 0, 1) := by decide +kernel
theorem dX3_earliestEnd_13 : decode cX3_earliestEnd 13 = .ok (.getfield 9, 3) := by decide +kernel
theorem dX3_earliestEnd_16 : decode cX3_earliestEnd 16 = .ok (.iload_n 2, 1) := by decide +kernel
theorem dX3_earliestEnd_17 : decode cX3_earliestEnd 17 = .ok (.iaload, 1) := by decide +kernel
theorem dX3_earliestEnd_18 : decode cX3_earliestEnd 18 = .ok (.ifCond .ne 25, 3) := by decide +kernel
theorem dX3_earliestEnd_21 : decode cX3_earliestEnd 21 = .ok (.iload_n 1, 1) := by decide +kernel
theorem dX3_earliestEnd_22 : decode cX3_earliestEnd 22 = .ok (.iconst (-1), 1) := by decide +kernel
theorem dX3_earliestEnd_23 : decode cX3_earliestEnd 23 = .ok (.if_icmp .eq 13, 3) := by decide +kernel
theorem dX3_earliestEnd_26 : decode cX3_earliestEnd 26 = .ok (.aload_n 0, 1) := by decide +kernel
theorem dX3_earliestEnd_27 : decode cX3_earliestEnd 27 = .ok (.getfield 18, 3) := by decide +kernel
theorem dX3_earliestEnd_30 : decode cX3_earliestEnd 30 = .ok (.iload_n 2, 1) := by decide +kernel
theorem dX3_earliestEnd_31 : decode cX3_earliestEnd 31 = .ok (.iaload, 1) := by decide +kernel
theorem dX3_earliestEnd_32 : decode cX3_earliestEnd 32 = .ok (.iload_n 1, 1) := by decide +kernel
theorem dX3_earliestEnd_33 : decode cX3_earliestEnd 33 = .ok (.if_icmp .ge 10, 3) := by decide +kernel
theorem dX3_earliestEnd_36 : decode cX3_earliestEnd 36 = .ok (.aload_n 0, 1) := by decide +kernel
theorem dX3_earliestEnd_37 : decode cX3_earliestEnd 37 = .ok (.getfield 18, 3) := by decide +kernel
theorem dX3_earliestEnd_40 : decode cX3_earliestEnd 40 = .ok (.iload_n 2, 1) := by decide +kernel
theorem dX3_earliestEnd_41 : decode cX3_earliestEnd 41 = .ok (.iaload, 1) := by decide +kernel
theorem dX3_earliestEnd_42 : decode cX3_earliestEnd 42 = .ok (.istore_n 1, 1) := by decide +kernel
theorem dX3_earliestEnd_43 : decode cX3_earliestEnd 43 = .ok (.iinc 2 1, 3) := by decide +kernel
theorem dX3_earliestEnd_46 : decode cX3_earliestEnd 46 = .ok (.goto (-42), 3) := by decide +kernel
theorem dX3_earliestEnd_49 : decode cX3_earliestEnd 49 = .ok (.iload_n 1, 1) := by decide +kernel
theorem dX3_earliestEnd_50 : decode cX3_earliestEnd 50 = .ok (.ireturn, 1) := by decide +kernel
theorem dJ9_abs_0f7a4_0 : decode cJ9_abs_0f7a4 0 = .ok (.iload_n 0, 1) := by decide +kernel
theorem dJ9_abs_0f7a4_1 : decode cJ9_abs_0f7a4 1 = .ok (.ifCond .ge 8, 3) := by decide +kernel
theorem dJ9_abs_0f7a4_4 : decode cJ9_abs_0f7a4 4 = .ok (.iload_n 0, 1) := by decide +kernel
theorem dJ9_abs_0f7a4_5 : decode cJ9_abs_0f7a4 5 = .ok (.ineg, 1) := by decide +kernel
theorem dJ9_abs_0f7a4_6 : decode cJ9_abs_0f7a4 6 = .ok (.goto 4, 3) := by decide +kernel
theorem dJ9_abs_0f7a4_9 : decode cJ9_abs_0f7a4 9 = .ok (.iload_n 0, 1) := by decide +kernel
theorem dJ9_abs_0f7a4_10 : decode cJ9_abs_0f7a4 10 = .ok (.ireturn, 1) := by decide +kernel
theorem dJ9_max_7cf53_0 : decode cJ9_max_7cf53 0 = .ok (.iload_n 0, 1) := by decide +kernel
theorem dJ9_max_7cf53_1 : decode cJ9_max_7cf53 1 = .ok (.iload_n 1, 1) := by decide +kernel
theorem dJ9_max_7cf53_2 : decode cJ9_max_7cf53 2 = .ok (.if_icmp .lt 7, 3) := by decide +kernel
theorem dJ9_max_7cf53_5 : decode cJ9_max_7cf53 5 = .ok (.iload_n 0, 1) := by decide +kernel
theorem dJ9_max_7cf53_6 : decode cJ9_max_7cf53 6 = .ok (.goto 4, 3) := by decide +kernel
theorem dJ9_max_7cf53_9 : decode cJ9_max_7cf53 9 = .ok (.iload_n 1, 1) := by decide +kernel
theorem dJ9_max_7cf53_10 : decode cJ9_max_7cf53 10 = .ok (.ireturn, 1) := by decide +kernel
theorem dJ9_min_7cf53_0 : decode cJ9_min_7cf53 0 = .ok (.iload_n 0, 1) := by decide +kernel
theorem dJ9_min_7cf53_1 : decode cJ9_min_7cf53 1 = .ok (.iload_n 1, 1) := by decide +kernel
theorem dJ9_min_7cf53_2 : decode cJ9_min_7cf53 2 = .ok (.if_icmp .gt 7, 3) := by decide +kernel
theorem dJ9_min_7cf53_5 : decode cJ9_min_7cf53 5 = .ok (.iload_n 0, 1) := by decide +kernel
theorem dJ9_min_7cf53_6 : decode cJ9_min_7cf53 6 = .ok (.goto 4, 3) := by decide +kernel
theorem dJ9_min_7cf53_9 : decode cJ9_min_7cf53 9 = .ok (.iload_n 1, 1) := by decide +kernel
theorem dJ9_min_7cf53_10 : decode cJ9_min_7cf53 10 = .ok (.ireturn, 1) := by decide +kernel
theorem dX0_init_0 : decode cX0_init 0 = .ok (.aload_n 0, 1) := by decide +kernel
theorem dX0_init_1 : decode cX0_init 1 = .ok (.invokespecial 3, 3) := by decide +kernel
theorem dX0_init_4 : decode cX0_init 4 = .ok (.aload_n 0, 1) := by decide +kernel
theorem dX0_init_5 : decode cX0_init 5 = .ok (.aload_n 1, 1) := by decide +kernel
theorem dX0_init_6 : decode cX0_init 6 = .ok (.putfield 9, 3) := by decide +kernel
theorem dX0_init_9 : decode cX0_init 9 = .ok (.aload_n 0, 1) := by decide +kernel
theorem dX0_init_10 : decode cX0_init 10 = .ok (.aload_n 2, 1) := by decide +kernel
theorem dX0_init_11 : decode cX0_init 11 = .ok (.putfield 15, 3) := by decide +kernel
theorem dX0_init_14 : decode cX0_init 14 = .ok (.aload_n 0, 1) := by decide +kernel
theorem dX0_init_15 : decode cX0_init 15 = .ok (.bipush 12, 2) := by decide +kernel
theorem dX0_init_17 : decode cX0_init 17 = .ok (.newarray .int, 2) := by decide +kernel
theorem dX0_init_19 : decode cX0_init 19 = .ok (.putfield 19, 3) := by decide +kernel
theorem dX0_init_22 : decode cX0_init 22 = .ok (.aload_n 0, 1) := by decide +kernel
theorem dX0_init_23 : decode cX0_init 23 = .ok (.bipush 13, 2) := by decide +kernel
theorem dX0_init_25 : decode cX0_init 25 = .ok (.newarray .int, 2) := by decide +kernel
theorem dX0_init_27 : decode cX0_init 27 = .ok (.putfield 23, 3) := by decide +kernel
theorem dX0_init_30 : decode cX0_init 30 = .ok (.aload_n 0, 1) := by decide +kernel
theorem dX0_init_31 : decode cX0_init 31 = .ok (.iconst 0, 1) := by decide +kernel
theorem dX0_init_32 : decode cX0_init 32 = .ok (.putfield 26, 3) := by decide +kernel
theorem dX0_init_35 : decode cX0_init 35 = .ok (.aload_n 0, 1) := by decide +kernel
theorem dX0_init_36 : decode cX0_init 36 = .ok (.iconst 0, 1) := by decide +kernel
theorem dX0_init_37 : decode cX0_init 37 = .ok (.putfield 30, 3) := by decide +kernel
theorem dX0_init_40 : decode cX0_init 40 = .ok (.return_, 1) := by decide +kernel
theorem dX0_find_0 : decode cX0_find 0 = .ok (.aload_n 0, 1) := by decide +kernel
theorem dX0_find_1 : decode cX0_find 1 = .ok (.iconst 0, 1) := by decide +kernel
theorem dX0_find_2 : decode cX0_find 2 = .ok (.putfield 26, 3) := by decide +kernel
theorem dX0_find_5 : decode cX0_find 5 = .ok (.aload_n 0, 1) := by decide +kernel
theorem dX0_find_6 : decode cX0_find 6 = .ok (.aload_n 0, 1) := by decide +kernel
theorem dX0_find_7 : decode cX0_find 7 = .ok (.getfield 15, 3) := by decide +kernel
theorem dX0_find_10 : decode cX0_find 10 = .ok (.iload_n 1, 1) := by decide +kernel
theorem dX0_find_11 : decode cX0_find 11 = .ok (.invokevirtual 33, 3) := by decide +kernel
theorem dX0_find_14 : decode cX0_find 14 = .ok (.putfield 30, 3) := by decide +kernel
theorem dX0_find_17 : decode cX0_find 17 = .ok (.aload_n 0, 1) := by decide +kernel
theorem dX0_find_18 : decode cX0_find 18 = .ok (.aload_n 0, 1) := by decide +kernel
theorem dX0_find_19 : decode cX0_find 19 = .ok (.getfield 15, 3) := by decide +kernel
theorem dX0_find_22 : decode cX0_find 22 = .ok (.iload_n 1, 1) := by decide +kernel
theorem dX0_find_23 : decode cX0_find 23 = .ok (.invokevirtual 39, 3) := by decide +kernel
theorem dX0_find_26 : decode cX0_find 26 = .ok (.invokevirtual 42, 3) := by decide +kernel
theorem dX0_find_29 : decode cX0_find 29 = .ok (.iconst 0, 1) := by decide +kernel
theorem dX0_find_30 : decode cX0_find 30 = .ok (.istore_n 2, 1) := by decide +kernel
theorem dX0_find_31 : decode cX0_find 31 = .ok (.iload_n 2, 1) := by decide +kernel
theorem dX0_find_32 : decode cX0_find 32 = .ok (.aload_n 0, 1) := by decide +kernel
theorem dX0_find_33 : decode cX0_find 33 = .ok (.getfield 9, 3) := by decide +kernel
theorem dX0_find_36 : decode cX0_find 36 = .ok (.invokevirtual 46, 3) := by decide +kernel
theorem dX0_find_39 : decode cX0_find 39 = .ok (.if_icmp .ge 13, 3) := by decide +kernel
theorem dX0_find_42 : decode cX0_find 42 = .ok (.aload_n 0, 1) := by decide +kernel
theorem dX0_find_43 : decode cX0_find 43 = .ok (.invokevirtual 52, 3) := by decide +kernel
theorem dX0_find_46 : decode cX0_find 46 = .ok (.iinc 2 1, 3) := by decide +kernel
theorem dX0_find_49 : decode cX0_find 49 = .ok (.goto (-18), 3) := by decide +kernel
theorem dX0_find_52 : decode cX0_find 52 = .ok (.aload_n 0, 1) := by decide +kernel
theorem dX0_find_53 : decode cX0_find 53 = .ok (.aload_n 0, 1) := by decide +kernel
theorem dX0_find_54 : decode cX0_find 54 = .ok (.getfield 15, 3) := by decide +kernel
theorem dX0_find_57 : decode cX0_find 57 = .ok (.iload_n 1, 1) := by decide +kernel
theorem dX0_find_58 : decode cX0_find 58 = .ok (.invokevirtual 55, 3) := by decide +kernel
theorem dX0_find_61 : decode cX0_find 61 = .ok (.invokevirtual 58, 3) := by decide +kernel
theorem dX0_find_64 : decode cX0_find 64 = .ok (.istore_n 2, 1) := by decide +kernel
theorem dX0_find_65 : decode cX0_find 65 = .ok (.iload_n 2, 1) := by decide +kernel
theorem dX0_find_66 : decode cX0_find 66 = .ok (.bipush 13, 2) := by decide +kernel
theorem dX0_find_68 : decode cX0_find 68 = .ok (.if_icmp .lt 5, 3) := by decide +kernel
theorem dX0_find_71 : decode cX0_find 71 = .ok (.iconst 0, 1) := by decide +kernel
theorem dX0_find_72 : decode cX0_find 72 = .ok (.ireturn, 1) := by decide +kernel
theorem dX0_find_73 : decode cX0_find 73 = .ok (.aload_n 0, 1) := by decide +kernel
theorem dX0_find_74 : decode cX0_find 74 = .ok (.iload_n 1, 1) := by decide +kernel
theorem dX0_find_75 : decode cX0_find 75 = .ok (.iload_n 2, 1) := by decide +kernel
theorem dX0_find_76 : decode cX0_find 76 = .ok (.invokevirtual 61, 3) := by decide +kernel
theorem dX0_find_79 : decode cX0_find 79 = .ok (.iconst 1, 1) := by decide +kernel
theorem dX0_find_80 : decode cX0_find 80 = .ok (.ireturn, 1) := by decide +kernel
theorem dX0_stepsOf_0 : decode cX0_stepsOf 0 = .ok (.aload_n 0, 1) := by decide +kernel
theorem dX0_stepsOf_1 : decode cX0_stepsOf 1 = .ok (.getfield 9, 3) := by decide +kernel
theorem dX0_stepsOf_4 : decode cX0_stepsOf 4 = .ok (.iload_n 1, 1) := by decide +kernel
theorem dX0_stepsOf_5 : decode cX0_stepsOf 5 = .ok (.invokevirtual 65, 3) := by decide +kernel
theorem dX0_stepsOf_8 : decode cX0_stepsOf 8 = .ok (.ifCond .eq 12, 3) := by decide +kernel
theorem dX0_stepsOf_11 : decode cX0_stepsOf 11 = .ok (.aload_n 0, 1) := by decide +kernel
theorem dX0_stepsOf_12 : decode cX0_stepsOf 12 = .ok (.getfield 19, 3) := by decide +kernel
theorem dX0_stepsOf_15 : decode cX0_stepsOf 15 = .ok (.iload_n 1, 1) := by decide +kernel
theorem dX0_stepsOf_16 : decode cX0_stepsOf 16 = .ok (.iaload, 1) := by decide +kernel
theorem dX0_stepsOf_17 : decode cX0_stepsOf 17 = .ok (.goto 5, 3) := by decide +kernel
theorem dX0_stepsOf_20 : decode cX0_stepsOf 20 = .ok (.bipush 13, 2) := by decide +kernel
theorem dX0_stepsOf_22 : decode cX0_stepsOf 22 = .ok (.ireturn, 1) := by decide +kernel
theorem dX0_markEnds_0 : decode cX0_markEnds 0 = .ok (.iconst 0, 1) := by decide +kernel
theorem dX0_markEnds_1 : decode cX0_markEnds 1 = .ok (.istore_n 2, 1) := by decide +kernel
theorem dX0_markEnds_2 : decode cX0_markEnds 2 = .ok (.iload_n 2, 1) := by decide +kernel
theorem dX0_markEnds_3 : decode cX0_markEnds 3 = .ok (.aload_n 0, 1) := by decide +kernel
theorem dX0_markEnds_4 : decode cX0_markEnds 4 = .ok (.getfield 9, 3) := by decide +kernel
theorem dX0_markEnds_7 : decode cX0_markEnds 7 = .ok (.invokevirtual 46, 3) := by decide +kernel
theorem dX0_markEnds_10 : decode cX0_markEnds 10 = .ok (.if_icmp .ge 53, 3) := by decide +kernel
theorem dX0_markEnds_13 : decode cX0_markEnds 13 = .ok (.iload_n 2, 1) := by decide +kernel
theorem dX0_markEnds_14 : decode cX0_markEnds 14 = .ok (.iload_n 1, 1) := by decide +kernel
theorem dX0_markEnds_15 : decode cX0_markEnds 15 = .ok (.if_icmp .eq 20, 3) := by decide +kernel
theorem dX0_markEnds_18 : decode cX0_markEnds 18 = .ok (.aload_n 0, 1) := by decide +kernel
theorem dX0_markEnds_19 : decode cX0_markEnds 19 = .ok (.getfield 9, 3) := by decide +kernel
theorem dX0_markEnds_22 : decode cX0_markEnds 22 = .ok (.iload_n 2, 1) := by decide +kernel
theorem dX0_markEnds_23 : decode cX0_markEnds 23 = .ok (.aload_n 0, 1) := by decide +kernel
theorem dX0_markEnds_24 : decode cX0_markEnds 24 = .ok (.getfield 30, 3) := by decide +kernel
theorem dX0_markEnds_27 : decode cX0_markEnds 27 = .ok (.iconst 1, 1) := by decide +kernel
theorem dX0_markEnds_28 : decode cX0_markEnds 28 = .ok (.invokevirtual 69, 3) := by decide +kernel
theorem dX0_markEnds_31 : decode cX0_markEnds 31 = .ok (.iconst (-1), 1) := by decide +kernel
theorem dX0_markEnds_32 : decode cX0_markEnds 32 = .ok (.if_icmp .eq 7, 3) := by decide +kernel
theorem dX0_markEnds_35 : decode cX0_markEnds 35 = .ok (.iconst 1, 1) := by decide +kernel
theorem dX0_markEnds_36 : decode cX0_markEnds 36 = .ok (.goto 4, 3) := by decide +kernel
theorem dX0_markEnds_39 : decode cX0_markEnds 39 = .ok (.iconst 0, 1) := by decide +kernel
theorem dX0_markEnds_40 : decode cX0_markEnds 40 = .ok (.istore_n 3, 1) := by decide +kernel
theorem dX0_markEnds_41 : decode cX0_markEnds 41 = .ok (.aload_n 0, 1) := by decide +kernel
theorem dX0_markEnds_42 : decode cX0_markEnds 42 = .ok (.getfield 19, 3) := by decide +kernel
theorem dX0_markEnds_45 : decode cX0_markEnds 45 = .ok (.iload_n 2, 1) := by decide +kernel
theorem dX0_markEnds_46 : decode cX0_markEnds 46 = .ok (.iload_n 3, 1) := by decide +kernel
theorem dX0_markEnds_47 : decode cX0_markEnds 47 = .ok (.ifCond .eq 7, 3) := by decide +kernel
theorem dX0_markEnds_50 : decode cX0_markEnds 50 = .ok (.iconst 0, 1) := by decide +kernel
theorem dX0_markEnds_51 : decode cX0_markEnds 51 = .ok (.goto 5, 3) := by decide +kernel
theorem dX0_markEnds_54 : decode cX0_markEnds 54 = .ok (.bipush 13, 2) := by decide +kernel
theorem dX0_markEnds_56 : decode cX0_markEnds 56 = .ok (.iastore, 1) := by decide +kernel
theorem dX0_markEnds_57 : decode cX0_markEnds 57 = .ok (.iinc 2 1, 3) := by decide +kernel
theorem dX0_markEnds_60 : decode cX0_markEnds 60 = .ok (.goto (-58), 3) := by decide +kernel
theorem dX0_markEnds_63 : decode cX0_markEnds 63 = .ok (.return_, 1) := by decide +kernel
theorem dX0_shortenSteps_0 : decode cX0_shortenSteps 0 = .ok (.iconst 1, 1) := by decide +kernel
theorem dX0_shortenSteps_1 : decode cX0_shortenSteps 1 = .ok (.istore_n 1, 1) := by decide +kernel
theorem dX0_shortenSteps_2 : decode cX0_shortenSteps 2 = .ok (.iload_n 1, 1) := by decide +kernel
theorem dX0_shortenSteps_3 : decode cX0_shortenSteps 3 = .ok (.aload_n 0, 1) := by decide +kernel
theorem dX0_shortenSteps_4 : decode cX0_shortenSteps 4 = .ok (.getfield 15, 3) := by decide +kernel
theorem dX0_shortenSteps_7 : decode cX0_shortenSteps 7 = .ok (.invokevirtual 73, 3) := by decide +kernel
theorem dX0_shortenSteps_10 : decode cX0_shortenSteps 10 = .ok (.if_icmp .gt 68, 3) := by decide +kernel
theorem dX0_shortenSteps_13 : decode cX0_shortenSteps 13 = .ok (.aload_n 0, 1) := by decide +kernel
theorem dX0_shortenSteps_14 : decode cX0_shortenSteps 14 = .ok (.getfield 15, 3) := by decide +kernel
theorem dX0_shortenSteps_17 : decode cX0_shortenSteps 17 = .ok (.iload_n 1, 1) := by decide +kernel
theorem dX0_shortenSteps_18 : decode cX0_shortenSteps 18 = .ok (.invokevirtual 39, 3) := by decide +kernel
theorem dX0_shortenSteps_21 : decode cX0_shortenSteps 21 = .ok (.istore_n 2, 1) := by decide +kernel
theorem dX0_shortenSteps_22 : decode cX0_shortenSteps 22 = .ok (.aload_n 0, 1) := by decide +kernel
theorem dX0_shortenSteps_23 : decode cX0_shortenSteps 23 = .ok (.iload_n 1, 1) := by decide +kernel
theorem dX0_shortenSteps_24 : decode cX0_shortenSteps 24 = .ok (.invokevirtual 76, 3) := by decide +kernel
theorem dX0_shortenSteps_27 : decode cX0_shortenSteps 27 = .ok (.ifCond .eq 45, 3) := by decide +kernel
theorem dX0_shortenSteps_30 : decode cX0_shortenSteps 30 = .ok (.aload_n 0, 1) := by decide +kernel
theorem dX0_shortenSteps_31 : decode cX0_shortenSteps 31 = .ok (.getfield 9, 3) := by decide +kernel
theorem dX0_shortenSteps_34 : decode cX0_shortenSteps 34 = .ok (.iload_n 2, 1) := by decide +kernel
theorem dX0_shortenSteps_35 : decode cX0_shortenSteps 35 = .ok (.invokevirtual 65, 3) := by decide +kernel
theorem dX0_shortenSteps_38 : decode cX0_shortenSteps 38 = .ok (.ifCond .eq 34, 3) := by decide +kernel
theorem dX0_shortenSteps_41 : decode cX0_shortenSteps 41 = .ok (.aload_n 0, 1) := by decide +kernel
theorem dX0_shortenSteps_42 : decode cX0_shortenSteps 42 = .ok (.aload_n 0, 1) := by decide +kernel
theorem dX0_shortenSteps_43 : decode cX0_shortenSteps 43 = .ok (.getfield 15, 3) := by decide +kernel
theorem dX0_shortenSteps_46 : decode cX0_shortenSteps 46 = .ok (.iload_n 1, 1) := by decide +kernel
theorem dX0_shortenSteps_47 : decode cX0_shortenSteps 47 = .ok (.invokevirtual 55, 3) := by decide +kernel
theorem dX0_shortenSteps_50 : decode cX0_shortenSteps 50 = .ok (.invokevirtual 58, 3) := by decide +kernel
theorem dX0_shortenSteps_53 : decode cX0_shortenSteps 53 = .ok (.iconst 1, 1) := by decide +kernel
theorem dX0_shortenSteps_54 : decode cX0_shortenSteps 54 = .ok (.iadd, 1) := by decide +kernel
theorem dX0_shortenSteps_55 : decode cX0_shortenSteps 55 = .ok (.istore_n 3, 1) := by decide +kernel
theorem dX0_shortenSteps_56 : decode cX0_shortenSteps 56 = .ok (.aload_n 0, 1) := by decide +kernel
theorem dX0_shortenSteps_57 : decode cX0_shortenSteps 57 = .ok (.getfield 19, 3) := by decide +kernel
theorem dX0_shortenSteps_60 : decode cX0_shortenSteps 60 = .ok (.iload_n 2, 1) := by decide +kernel
theorem dX0_shortenSteps_61 : decode cX0_shortenSteps 61 = .ok (.aload_n 0, 1) := by decide +kernel
theorem dX0_shortenSteps_62 : decode cX0_shortenSteps 62 = .ok (.getfield 19, 3) := by decide +kernel
theorem dX0_shortenSteps_65 : decode cX0_shortenSteps 65 = .ok (.iload_n 2, 1) := by decide +kernel
theorem dX0_shortenSteps_66 : decode cX0_shortenSteps 66 = .ok (.iaload, 1) := by decide +kernel
theorem dX0_shortenSteps_67 : decode cX0_shortenSteps 67 = .ok (.iload_n 3, 1) := by decide +kernel
theorem dX0_shortenSteps_68 : decode cX0_shortenSteps 68 = .ok (.invokestatic 79, 3) := by decide +kernel
theorem dX0_shortenSteps_71 : decode cX0_shortenSteps 71 = .ok (.iastore, 1) := by decide +kernel
theorem dX0_shortenSteps_72 : decode cX0_shortenSteps 72 = .ok (.iinc 1 1, 3) := by decide +kernel
theorem dX0_shortenSteps_75 : decode cX0_shortenSteps 75 = .ok (.goto (-73), 3) := by decide +kernel
theorem dX0_shortenSteps_78 : decode cX0_shortenSteps 78 = .ok (.return_, 1) := by decide +kernel
theorem dX0_takesPart_0 : decode cX0_takesPart 0 = .ok (.aload_n 0, 1) := by decide +kernel
theorem dX0_takesPart_1 : decode cX0_takesPart 1 = .ok (.getfield 15, 3) := by decide +kernel
theorem dX0_takesPart_4 : decode cX0_takesPart 4 = .ok (.iload_n 1, 1) := by decide +kernel
theorem dX0_takesPart_5 : decode cX0_takesPart 5 = .ok (.invokevirtual 55, 3) := by decide +kernel
theorem dX0_takesPart_8 : decode cX0_takesPart 8 = .ok (.iconst (-1), 1) := by decide +kernel
theorem dX0_takesPart_9 : decode cX0_takesPart 9 = .ok (.if_icmp .eq 22, 3) := by decide +kernel
theorem dX0_takesPart_12 : decode cX0_takesPart 12 = .ok (.aload_n 0, 1) := by decide +kernel
theorem dX0_takesPart_13 : decode cX0_takesPart 13 = .ok (.getfield 15, 3) := by decide +kernel
theorem dX0_takesPart_16 : decode cX0_takesPart 16 = .ok (.iload_n 1, 1) := by decide +kernel
theorem dX0_takesPart_17 : decode cX0_takesPart 17 = .ok (.invokevirtual 33, 3) := by decide +kernel
theorem dX0_takesPart_20 : decode cX0_takesPart 20 = .ok (.aload_n 0, 1) := by decide +kernel
theorem dX0_takesPart_21 : decode cX0_takesPart 21 = .ok (.getfield 30, 3) := by decide +kernel
theorem dX0_takesPart_24 : decode cX0_takesPart 24 = .ok (.if_icmp .ne 7, 3) := by decide +kernel
theorem dX0_takesPart_27 : decode cX0_takesPart 27 = .ok (.iconst 1, 1) := by decide +kernel
theorem dX0_takesPart_28 : decode cX0_takesPart 28 = .ok (.goto 4, 3) := by decide +kernel
theorem dX0_takesPart_31 : decode cX0_takesPart 31 = .ok (.iconst 0, 1) := by decide +kernel
theorem dX0_takesPart_32 : decode cX0_takesPart 32 = .ok (.ireturn, 1) := by decide +kernel
theorem dX0_collect_0 : decode cX0_collect 0 = .ok (.iload_n 1, 1) := by decide +kernel
theorem dX0_collect_1 : decode cX0_collect 1 = .ok (.istore_n 3, 1) := by decide +kernel
theorem dX0_collect_2 : decode cX0_collect 2 = .ok (.aload_n 0, 1) := by decide +kernel
theorem dX0_collect_3 : decode cX0_collect 3 = .ok (.getfield 23, 3) := by decide +kernel
theorem dX0_collect_6 : decode cX0_collect 6 = .ok (.iconst 0, 1) := by decide +kernel
theorem dX0_collect_7 : decode cX0_collect 7 = .ok (.iload_n 3, 1) := by decide +kernel
theorem dX0_collect_8 : decode cX0_collect 8 = .ok (.iastore, 1) := by decide +kernel
theorem dX0_collect_9 : decode cX0_collect 9 = .ok (.aload_n 0, 1) := by decide +kernel
theorem dX0_collect_10 : decode cX0_collect 10 = .ok (.iconst 1, 1) := by decide +kernel
theorem dX0_collect_11 : decode cX0_collect 11 = .ok (.putfield 26, 3) := by decide +kernel
theorem dX0_collect_14 : decode cX0_collect 14 = .ok (.iload_n 2, 1) := by decide +kernel
theorem dX0_collect_15 : decode cX0_collect 15 = .ok (.istore 4, 2) := by decide +kernel
theorem dX0_collect_17 : decode cX0_collect 17 = .ok (.iload 4, 2) := by decide +kernel
theorem dX0_collect_19 : decode cX0_collect 19 = .ok (.ifCond .le 58, 3) := by decide +kernel
theorem dX0_collect_22 : decode cX0_collect 22 = .ok (.aload_n 0, 1) := by decide +kernel
theorem dX0_collect_23 : decode cX0_collect 23 = .ok (.getfield 26, 3) := by decide +kernel
theorem dX0_collect_26 : decode cX0_collect 26 = .ok (.aload_n 0, 1) := by decide +kernel
theorem dX0_collect_27 : decode cX0_collect 27 = .ok (.getfield 23, 3) := by decide +kernel
theorem dX0_collect_30 : decode cX0_collect 30 = .ok (.arraylength, 1) := by decide +kernel
theorem dX0_collect_31 : decode cX0_collect 31 = .ok (.if_icmp .ge 46, 3) := by decide +kernel
theorem dX0_collect_34 : decode cX0_collect 34 = .ok (.aload_n 0, 1) := by decide +kernel
theorem dX0_collect_35 : decode cX0_collect 35 = .ok (.aload_n 0, 1) := by decide +kernel
theorem dX0_collect_36 : decode cX0_collect 36 = .ok (.getfield 15, 3) := by decide +kernel
theorem dX0_collect_39 : decode cX0_collect 39 = .ok (.iload_n 3, 1) := by decide +kernel
theorem dX0_collect_40 : decode cX0_collect 40 = .ok (.invokevirtual 55, 3) := by decide +kernel
theorem dX0_collect_43 : decode cX0_collect 43 = .ok (.iload 4, 2) := by decide +kernel
theorem dX0_collect_45 : decode cX0_collect 45 = .ok (.iconst 1, 1) := by decide +kernel
theorem dX0_collect_46 : decode cX0_collect 46 = .ok (.isub, 1) := by decide +kernel
theorem dX0_collect_47 : decode cX0_collect 47 = .ok (.invokevirtual 85, 3) := by decide +kernel
theorem dX0_collect_50 : decode cX0_collect 50 = .ok (.istore_n 3, 1) := by decide +kernel
theorem dX0_collect_51 : decode cX0_collect 51 = .ok (.aload_n 0, 1) := by decide +kernel
theorem dX0_collect_52 : decode cX0_collect 52 = .ok (.getfield 23, 3) := by decide +kernel
theorem dX0_collect_55 : decode cX0_collect 55 = .ok (.aload_n 0, 1) := by decide +kernel
theorem dX0_collect_56 : decode cX0_collect 56 = .ok (.getfield 26, 3) := by decide +kernel
theorem dX0_collect_59 : decode cX0_collect 59 = .ok (.iload_n 3, 1) := by decide +kernel
theorem dX0_collect_60 : decode cX0_collect 60 = .ok (.iastore, 1) := by decide +kernel
theorem dX0_collect_61 : decode cX0_collect 61 = .ok (.aload_n 0, 1) := by decide +kernel
theorem dX0_collect_62 : decode cX0_collect 62 = .ok (.dup, 1) := by decide +kernel
theorem dX0_collect_63 : decode cX0_collect 63 = .ok (.getfield 26, 3) := by decide +kernel
theorem dX0_collect_66 : decode cX0_collect 66 = .ok (.iconst 1, 1) := by decide +kernel
theorem dX0_collect_67 : decode cX0_collect 67 = .ok (.iadd, 1) := by decide +kernel
theorem dX0_collect_68 : decode cX0_collect 68 = .ok (.putfield 26, 3) := by decide +kernel
theorem dX0_collect_71 : decode cX0_collect 71 = .ok (.iinc 4 (-1), 3) := by decide +kernel
theorem dX0_collect_74 : decode cX0_collect 74 = .ok (.goto (-57), 3) := by decide +kernel
theorem dX0_collect_77 : decode cX0_collect 77 = .ok (.return_, 1) := by decide +kernel
theorem dX0_lowestIn_0 : decode cX0_lowestIn 0 = .ok (.iconst 1, 1) := by decide +kernel
theorem dX0_lowestIn_1 : decode cX0_lowestIn 1 = .ok (.istore_n 3, 1) := by decide +kernel
theorem dX0_lowestIn_2 : decode cX0_lowestIn 2 = .ok (.iload_n 3, 1) := by decide +kernel
theorem dX0_lowestIn_3 : decode cX0_lowestIn 3 = .ok (.aload_n 0, 1) := by decide +kernel
theorem dX0_lowestIn_4 : decode cX0_lowestIn 4 = .ok (.getfield 15, 3) := by decide +kernel
theorem dX0_lowestIn_7 : decode cX0_lowestIn 7 = .ok (.invokevirtual 73, 3) := by decide +kernel
theorem dX0_lowestIn_10 : decode cX0_lowestIn 10 = .ok (.if_icmp .gt 47, 3) := by decide +kernel
theorem dX0_lowestIn_13 : decode cX0_lowestIn 13 = .ok (.aload_n 0, 1) := by decide +kernel
theorem dX0_lowestIn_14 : decode cX0_lowestIn 14 = .ok (.iload_n 3, 1) := by decide +kernel
theorem dX0_lowestIn_15 : decode cX0_lowestIn 15 = .ok (.invokevirtual 76, 3) := by decide +kernel
theorem dX0_lowestIn_18 : decode cX0_lowestIn 18 = .ok (.ifCond .eq 33, 3) := by decide +kernel
theorem dX0_lowestIn_21 : decode cX0_lowestIn 21 = .ok (.aload_n 0, 1) := by decide +kernel
theorem dX0_lowestIn_22 : decode cX0_lowestIn 22 = .ok (.getfield 15, 3) := by decide +kernel
theorem dX0_lowestIn_25 : decode cX0_lowestIn 25 = .ok (.iload_n 3, 1) := by decide +kernel
theorem dX0_lowestIn_26 : decode cX0_lowestIn 26 = .ok (.invokevirtual 39, 3) := by decide +kernel
theorem dX0_lowestIn_29 : decode cX0_lowestIn 29 = .ok (.iload_n 1, 1) := by decide +kernel
theorem dX0_lowestIn_30 : decode cX0_lowestIn 30 = .ok (.if_icmp .ne 21, 3) := by decide +kernel
theorem dX0_lowestIn_33 : decode cX0_lowestIn 33 = .ok (.aload_n 0, 1) := by decide +kernel
theorem dX0_lowestIn_34 : decode cX0_lowestIn 34 = .ok (.aload_n 0, 1) := by decide +kernel
theorem dX0_lowestIn_35 : decode cX0_lowestIn 35 = .ok (.getfield 15, 3) := by decide +kernel
theorem dX0_lowestIn_38 : decode cX0_lowestIn 38 = .ok (.iload_n 3, 1) := by decide +kernel
theorem dX0_lowestIn_39 : decode cX0_lowestIn 39 = .ok (.invokevirtual 55, 3) := by decide +kernel
theorem dX0_lowestIn_42 : decode cX0_lowestIn 42 = .ok (.invokevirtual 58, 3) := by decide +kernel
theorem dX0_lowestIn_45 : decode cX0_lowestIn 45 = .ok (.iload_n 2, 1) := by decide +kernel
theorem dX0_lowestIn_46 : decode cX0_lowestIn 46 = .ok (.if_icmp .ne 5, 3) := by decide +kernel
theorem dX0_lowestIn_49 : decode cX0_lowestIn 49 = .ok (.iload_n 3, 1) := by decide +kernel
theorem dX0_lowestIn_50 : decode cX0_lowestIn 50 = .ok (.ireturn, 1) := by decide +kernel
theorem dX0_lowestIn_51 : decode cX0_lowestIn 51 = .ok (.iinc 3 1, 3) := by decide +kernel
theorem dX0_lowestIn_54 : decode cX0_lowestIn 54 = .ok (.goto (-52), 3) := by decide +kernel
theorem dX0_lowestIn_57 : decode cX0_lowestIn 57 = .ok (.iconst (-1), 1) := by decide +kernel
theorem dX0_lowestIn_58 : decode cX0_lowestIn 58 = .ok (.ireturn, 1) := by decide +kernel
theorem dX0_carryOut_0 : decode cX0_carryOut 0 = .ok (.aload_n 0, 1) := by decide +kernel
theorem dX0_carryOut_1 : decode cX0_carryOut 1 = .ok (.getfield 26, 3) := by decide +kernel
theorem dX0_carryOut_4 : decode cX0_carryOut 4 = .ok (.iconst 1, 1) := by decide +kernel
theorem dX0_carryOut_5 : decode cX0_carryOut 5 = .ok (.if_icmp .lt 15, 3) := by decide +kernel
theorem dX0_carryOut_8 : decode cX0_carryOut 8 = .ok (.aload_n 0, 1) := by decide +kernel
theorem dX0_carryOut_9 : decode cX0_carryOut 9 = .ok (.getfield 26, 3) := by decide +kernel
theorem dX0_carryOut_12 : decode cX0_carryOut 12 = .ok (.aload_n 0, 1) := by decide +kernel
theorem dX0_carryOut_13 : decode cX0_carryOut 13 = .ok (.getfield 23, 3) := by decide +kernel
theorem dX0_carryOut_16 : decode cX0_carryOut 16 = .ok (.arraylength, 1) := by decide +kernel
theorem dX0_carryOut_17 : decode cX0_carryOut 17 = .ok (.if_icmp .le 5, 3) := by decide +kernel
theorem dX0_carryOut_20 : decode cX0_carryOut 20 = .ok (.iconst 0, 1) := by decide +kernel
theorem dX0_carryOut_21 : decode cX0_carryOut 21 = .ok (.ireturn, 1) := by decide +kernel
theorem dX0_carryOut_22 : decode cX0_carryOut 22 = .ok (.aload_n 0, 1) := by decide +kernel
theorem dX0_carryOut_23 : decode cX0_carryOut 23 = .ok (.getfield 23, 3) := by decide +kernel
theorem dX0_carryOut_26 : decode cX0_carryOut 26 = .ok (.iconst 0, 1) := by decide +kernel
theorem dX0_carryOut_27 : decode cX0_carryOut 27 = .ok (.iaload, 1) := by decide +kernel
theorem dX0_carryOut_28 : decode cX0_carryOut 28 = .ok (.istore_n 1, 1) := by decide +kernel
theorem dX0_carryOut_29 : decode cX0_carryOut 29 = .ok (.aload_n 0, 1) := by decide +kernel
theorem dX0_carryOut_30 : decode cX0_carryOut 30 = .ok (.getfield 15, 3) := by decide +kernel
theorem dX0_carryOut_33 : decode cX0_carryOut 33 = .ok (.iload_n 1, 1) := by decide +kernel
theorem dX0_carryOut_34 : decode cX0_carryOut 34 = .ok (.invokevirtual 39, 3) := by decide +kernel
theorem dX0_carryOut_37 : decode cX0_carryOut 37 = .ok (.istore_n 2, 1) := by decide +kernel
theorem dX0_carryOut_38 : decode cX0_carryOut 38 = .ok (.aload_n 0, 1) := by decide +kernel
theorem dX0_carryOut_39 : decode cX0_carryOut 39 = .ok (.getfield 15, 3) := by decide +kernel
theorem dX0_carryOut_42 : decode cX0_carryOut 42 = .ok (.iload_n 1, 1) := by decide +kernel
theorem dX0_carryOut_43 : decode cX0_carryOut 43 = .ok (.invokevirtual 88, 3) := by decide +kernel
theorem dX0_carryOut_46 : decode cX0_carryOut 46 = .ok (.istore_n 3, 1) := by decide +kernel
theorem dX0_carryOut_47 : decode cX0_carryOut 47 = .ok (.aload_n 0, 1) := by decide +kernel
theorem dX0_carryOut_48 : decode cX0_carryOut 48 = .ok (.getfield 23, 3) := by decide +kernel
theorem dX0_carryOut_51 : decode cX0_carryOut 51 = .ok (.aload_n 0, 1) := by decide +kernel
theorem dX0_carryOut_52 : decode cX0_carryOut 52 = .ok (.getfield 26, 3) := by decide +kernel
theorem dX0_carryOut_55 : decode cX0_carryOut 55 = .ok (.iconst 1, 1) := by decide +kernel
theorem dX0_carryOut_56 : decode cX0_carryOut 56 = .ok (.isub, 1) := by decide +kernel
theorem dX0_carryOut_57 : decode cX0_carryOut 57 = .ok (.iaload, 1) := by decide +kernel
theorem dX0_carryOut_58 : decode cX0_carryOut 58 = .ok (.istore 4, 2) := by decide +kernel
theorem dX0_carryOut_60 : decode cX0_carryOut 60 = .ok (.aload_n 0, 1) := by decide +kernel
theorem dX0_carryOut_61 : decode cX0_carryOut 61 = .ok (.getfield 15, 3) := by decide +kernel
theorem dX0_carryOut_64 : decode cX0_carryOut 64 = .ok (.iload 4, 2) := by decide +kernel
theorem dX0_carryOut_66 : decode cX0_carryOut 66 = .ok (.invokevirtual 55, 3) := by decide +kernel
theorem dX0_carryOut_69 : decode cX0_carryOut 69 = .ok (.istore 5, 2) := by decide +kernel
theorem dX0_carryOut_71 : decode cX0_carryOut 71 = .ok (.aload_n 0, 1) := by decide +kernel
theorem dX0_carryOut_72 : decode cX0_carryOut 72 = .ok (.getfield 9, 3) := by decide +kernel
theorem dX0_carryOut_75 : decode cX0_carryOut 75 = .ok (.iload 5, 2) := by decide +kernel
theorem dX0_carryOut_77 : decode cX0_carryOut 77 = .ok (.aload_n 0, 1) := by decide +kernel
theorem dX0_carryOut_78 : decode cX0_carryOut 78 = .ok (.getfield 30, 3) := by decide +kernel
theorem dX0_carryOut_81 : decode cX0_carryOut 81 = .ok (.iconst 1, 1) := by decide +kernel
theorem dX0_carryOut_82 : decode cX0_carryOut 82 = .ok (.invokevirtual 69, 3) := by decide +kernel
theorem dX0_carryOut_85 : decode cX0_carryOut 85 = .ok (.istore 6, 2) := by decide +kernel
theorem dX0_carryOut_87 : decode cX0_carryOut 87 = .ok (.aload_n 0, 1) := by decide +kernel
theorem dX0_carryOut_88 : decode cX0_carryOut 88 = .ok (.getfield 9, 3) := by decide +kernel
theorem dX0_carryOut_91 : decode cX0_carryOut 91 = .ok (.iload_n 2, 1) := by decide +kernel
theorem dX0_carryOut_92 : decode cX0_carryOut 92 = .ok (.iload_n 3, 1) := by decide +kernel
theorem dX0_carryOut_93 : decode cX0_carryOut 93 = .ok (.aload_n 0, 1) := by decide +kernel
theorem dX0_carryOut_94 : decode cX0_carryOut 94 = .ok (.getfield 30, 3) := by decide +kernel
theorem dX0_carryOut_97 : decode cX0_carryOut 97 = .ok (.iconst 0, 1) := by decide +kernel
theorem dX0_carryOut_98 : decode cX0_carryOut 98 = .ok (.invokevirtual 91, 3) := by decide +kernel
theorem dX0_carryOut_101 : decode cX0_carryOut 101 = .ok (.iconst 0, 1) := by decide +kernel
theorem dX0_carryOut_102 : decode cX0_carryOut 102 = .ok (.istore 7, 2) := by decide +kernel
theorem dX0_carryOut_104 : decode cX0_carryOut 104 = .ok (.iload 7, 2) := by decide +kernel
theorem dX0_carryOut_106 : decode cX0_carryOut 106 = .ok (.iconst 1, 1) := by decide +kernel
theorem dX0_carryOut_107 : decode cX0_carryOut 107 = .ok (.iadd, 1) := by decide +kernel
theorem dX0_carryOut_108 : decode cX0_carryOut 108 = .ok (.aload_n 0, 1) := by decide +kernel
theorem dX0_carryOut_109 : decode cX0_carryOut 109 = .ok (.getfield 26, 3) := by decide +kernel
theorem dX0_carryOut_112 : decode cX0_carryOut 112 = .ok (.if_icmp .ge 49, 3) := by decide +kernel
theorem dX0_carryOut_115 : decode cX0_carryOut 115 = .ok (.aload_n 0, 1) := by decide +kernel
theorem dX0_carryOut_116 : decode cX0_carryOut 116 = .ok (.getfield 23, 3) := by decide +kernel
theorem dX0_carryOut_119 : decode cX0_carryOut 119 = .ok (.iload 7, 2) := by decide +kernel
theorem dX0_carryOut_121 : decode cX0_carryOut 121 = .ok (.iconst 1, 1) := by decide +kernel
theorem dX0_carryOut_122 : decode cX0_carryOut 122 = .ok (.iadd, 1) := by decide +kernel
theorem dX0_carryOut_123 : decode cX0_carryOut 123 = .ok (.iaload, 1) := by decide +kernel
theorem dX0_carryOut_124 : decode cX0_carryOut 124 = .ok (.istore 8, 2) := by decide +kernel
theorem dX0_carryOut_126 : decode cX0_carryOut 126 = .ok (.aload_n 0, 1) := by decide +kernel
theorem dX0_carryOut_127 : decode cX0_carryOut 127 = .ok (.aload_n 0, 1) := by decide +kernel
theorem dX0_carryOut_128 : decode cX0_carryOut 128 = .ok (.getfield 23, 3) := by decide +kernel
theorem dX0_carryOut_131 : decode cX0_carryOut 131 = .ok (.iload 7, 2) := by decide +kernel
theorem dX0_carryOut_133 : decode cX0_carryOut 133 = .ok (.iaload, 1) := by decide +kernel
theorem dX0_carryOut_134 : decode cX0_carryOut 134 = .ok (.aload_n 0, 1) := by decide +kernel
theorem dX0_carryOut_135 : decode cX0_carryOut 135 = .ok (.getfield 15, 3) := by decide +kernel
theorem dX0_carryOut_138 : decode cX0_carryOut 138 = .ok (.iload 8, 2) := by decide +kernel
theorem dX0_carryOut_140 : decode cX0_carryOut 140 = .ok (.invokevirtual 39, 3) := by decide +kernel
theorem dX0_carryOut_143 : decode cX0_carryOut 143 = .ok (.aload_n 0, 1) := by decide +kernel
theorem dX0_carryOut_144 : decode cX0_carryOut 144 = .ok (.getfield 15, 3) := by decide +kernel
theorem dX0_carryOut_147 : decode cX0_carryOut 147 = .ok (.iload 8, 2) := by decide +kernel
theorem dX0_carryOut_149 : decode cX0_carryOut 149 = .ok (.invokevirtual 88, 3) := by decide +kernel
theorem dX0_carryOut_152 : decode cX0_carryOut 152 = .ok (.invokevirtual 95, 3) := by decide +kernel
theorem dX0_carryOut_155 : decode cX0_carryOut 155 = .ok (.iinc 7 1, 3) := by decide +kernel
theorem dX0_carryOut_158 : decode cX0_carryOut 158 = .ok (.goto (-54), 3) := by decide +kernel
theorem dX0_carryOut_161 : decode cX0_carryOut 161 = .ok (.iload 6, 2) := by decide +kernel
theorem dX0_carryOut_163 : decode cX0_carryOut 163 = .ok (.iconst (-1), 1) := by decide +kernel
theorem dX0_carryOut_164 : decode cX0_carryOut 164 = .ok (.if_icmp .eq 16, 3) := by decide +kernel
theorem dX0_carryOut_167 : decode cX0_carryOut 167 = .ok (.aload_n 0, 1) := by decide +kernel
theorem dX0_carryOut_168 : decode cX0_carryOut 168 = .ok (.iload 4, 2) := by decide +kernel
theorem dX0_carryOut_170 : decode cX0_carryOut 170 = .ok (.iload 5, 2) := by decide +kernel
theorem dX0_carryOut_172 : decode cX0_carryOut 172 = .ok (.iload 6, 2) := by decide +kernel
theorem dX0_carryOut_174 : decode cX0_carryOut 174 = .ok (.invokevirtual 95, 3) := by decide +kernel
theorem dX0_carryOut_177 : decode cX0_carryOut 177 = .ok (.goto 11, 3) := by decide +kernel
theorem dX0_carryOut_180 : decode cX0_carryOut 180 = .ok (.aload_n 0, 1) := by decide +kernel
theorem dX0_carryOut_181 : decode cX0_carryOut 181 = .ok (.iload 4, 2) := by decide +kernel
theorem dX0_carryOut_183 : decode cX0_carryOut 183 = .ok (.iload_n 2, 1) := by decide +kernel
theorem dX0_carryOut_184 : decode cX0_carryOut 184 = .ok (.iload_n 3, 1) := by decide +kernel
theorem dX0_carryOut_185 : decode cX0_carryOut 185 = .ok (.invokevirtual 95, 3) := by decide +kernel
theorem dX0_carryOut_188 : decode cX0_carryOut 188 = .ok (.aload_n 0, 1) := by decide +kernel
theorem dX0_carryOut_189 : decode cX0_carryOut 189 = .ok (.getfield 26, 3) := by decide +kernel
theorem dX0_carryOut_192 : decode cX0_carryOut 192 = .ok (.ireturn, 1) := by decide +kernel
theorem dX0_move_0 : decode cX0_move 0 = .ok (.aload_n 0, 1) := by decide +kernel
theorem dX0_move_1 : decode cX0_move 1 = .ok (.getfield 9, 3) := by decide +kernel
theorem dX0_move_4 : decode cX0_move 4 = .ok (.iload_n 2, 1) := by decide +kernel
theorem dX0_move_5 : decode cX0_move 5 = .ok (.iload_n 3, 1) := by decide +kernel
theorem dX0_move_6 : decode cX0_move 6 = .ok (.aload_n 0, 1) := by decide +kernel
theorem dX0_move_7 : decode cX0_move 7 = .ok (.getfield 30, 3) := by decide +kernel
theorem dX0_move_10 : decode cX0_move 10 = .ok (.iload_n 1, 1) := by decide +kernel
theorem dX0_move_11 : decode cX0_move 11 = .ok (.invokevirtual 91, 3) := by decide +kernel
theorem dX0_move_14 : decode cX0_move 14 = .ok (.aload_n 0, 1) := by decide +kernel
theorem dX0_move_15 : decode cX0_move 15 = .ok (.getfield 15, 3) := by decide +kernel
theorem dX0_move_18 : decode cX0_move 18 = .ok (.iload_n 1, 1) := by decide +kernel
theorem dX0_move_19 : decode cX0_move 19 = .ok (.iload_n 2, 1) := by decide +kernel
theorem dX0_move_20 : decode cX0_move 20 = .ok (.iload_n 3, 1) := by decide +kernel
theorem dX0_move_21 : decode cX0_move 21 = .ok (.invokevirtual 99, 3) := by decide +kernel
theorem dX0_move_24 : decode cX0_move 24 = .ok (.aload_n 0, 1) := by decide +kernel
theorem dX0_move_25 : decode cX0_move 25 = .ok (.getfield 15, 3) := by decide +kernel
theorem dX0_move_28 : decode cX0_move 28 = .ok (.iload_n 1, 1) := by decide +kernel
theorem dX0_move_29 : decode cX0_move 29 = .ok (.iconst (-1), 1) := by decide +kernel
theorem dX0_move_30 : decode cX0_move 30 = .ok (.invokevirtual 102, 3) := by decide +kernel
theorem dX0_move_33 : decode cX0_move 33 = .ok (.return_, 1) := by decide +kernel
theorem dX1_init_0 : decode cX1_init 0 = .ok (.aload_n 0, 1) := by decide +kernel
theorem dX1_init_1 : decode cX1_init 1 = .ok (.invokespecial 3, 3) := by decide +kernel
theorem dX1_init_4 : decode cX1_init 4 = .ok (.aload_n 0, 1) := by decide +kernel
theorem dX1_init_5 : decode cX1_init 5 = .ok (.aload_n 1, 1) := by decide +kernel
theorem dX1_init_6 : decode cX1_init 6 = .ok (.putfield 9, 3) := by decide +kernel
theorem dX1_init_9 : decode cX1_init 9 = .ok (.aload_n 0, 1) := by decide +kernel
theorem dX1_init_10 : decode cX1_init 10 = .ok (.bipush 12, 2) := by decide +kernel
theorem dX1_init_12 : decode cX1_init 12 = .ok (.newarray .int, 2) := by decide +kernel
theorem dX1_init_14 : decode cX1_init 14 = .ok (.putfield 15, 3) := by decide +kernel
theorem dX1_init_17 : decode cX1_init 17 = .ok (.aload_n 0, 1) := by decide +kernel
theorem dX1_init_18 : decode cX1_init 18 = .ok (.bipush 12, 2) := by decide +kernel
theorem dX1_init_20 : decode cX1_init 20 = .ok (.bipush 21, 2) := by decide +kernel
theorem dX1_init_22 : decode cX1_init 22 = .ok (.multianewarray 19 2, 4) := by decide +kernel
theorem dX1_init_26 : decode cX1_init 26 = .ok (.putfield 21, 3) := by decide +kernel
theorem dX1_init_29 : decode cX1_init 29 = .ok (.aload_n 0, 1) := by decide +kernel
theorem dX1_init_30 : decode cX1_init 30 = .ok (.bipush 12, 2) := by decide +kernel
theorem dX1_init_32 : decode cX1_init 32 = .ok (.bipush 21, 2) := by decide +kernel
theorem dX1_init_34 : decode cX1_init 34 = .ok (.multianewarray 19 2, 4) := by decide +kernel
theorem dX1_init_38 : decode cX1_init 38 = .ok (.putfield 24, 3) := by decide +kernel
theorem dX1_init_41 : decode cX1_init 41 = .ok (.aload_n 0, 1) := by decide +kernel
theorem dX1_init_42 : decode cX1_init 42 = .ok (.bipush 13, 2) := by decide +kernel
theorem dX1_init_44 : decode cX1_init 44 = .ok (.bipush 101, 2) := by decide +kernel
theorem dX1_init_46 : decode cX1_init 46 = .ok (.multianewarray 19 2, 4) := by decide +kernel
theorem dX1_init_50 : decode cX1_init 50 = .ok (.putfield 27, 3) := by decide +kernel
theorem dX1_init_53 : decode cX1_init 53 = .ok (.aload_n 0, 1) := by decide +kernel
theorem dX1_init_54 : decode cX1_init 54 = .ok (.bipush 13, 2) := by decide +kernel
theorem dX1_init_56 : decode cX1_init 56 = .ok (.bipush 101, 2) := by decide +kernel
theorem dX1_init_58 : decode cX1_init 58 = .ok (.multianewarray 19 2, 4) := by decide +kernel
theorem dX1_init_62 : decode cX1_init 62 = .ok (.putfield 30, 3) := by decide +kernel
theorem dX1_init_65 : decode cX1_init 65 = .ok (.aload_n 0, 1) := by decide +kernel
theorem dX1_init_66 : decode cX1_init 66 = .ok (.bipush 12, 2) := by decide +kernel
theorem dX1_init_68 : decode cX1_init 68 = .ok (.newarray .int, 2) := by decide +kernel
theorem dX1_init_70 : decode cX1_init 70 = .ok (.putfield 33, 3) := by decide +kernel
theorem dX1_init_73 : decode cX1_init 73 = .ok (.aload_n 0, 1) := by decide +kernel
theorem dX1_init_74 : decode cX1_init 74 = .ok (.iconst 0, 1) := by decide +kernel
theorem dX1_init_75 : decode cX1_init 75 = .ok (.putfield 36, 3) := by decide +kernel
theorem dX1_init_78 : decode cX1_init 78 = .ok (.return_, 1) := by decide +kernel
theorem dX1_rowsUsed_0 : decode cX1_rowsUsed 0 = .ok (.aload_n 0, 1) := by decide +kernel
theorem dX1_rowsUsed_1 : decode cX1_rowsUsed 1 = .ok (.getfield 36, 3) := by decide +kernel
theorem dX1_rowsUsed_4 : decode cX1_rowsUsed 4 = .ok (.ireturn, 1) := by decide +kernel
theorem dX1_seatsFrom_0 : decode cX1_seatsFrom 0 = .ok (.aload_n 0, 1) := by decide +kernel
theorem dX1_seatsFrom_1 : decode cX1_seatsFrom 1 = .ok (.getfield 9, 3) := by decide +kernel
theorem dX1_seatsFrom_4 : decode cX1_seatsFrom 4 = .ok (.iload_n 1, 1) := by decide +kernel
theorem dX1_seatsFrom_5 : decode cX1_seatsFrom 5 = .ok (.invokevirtual 40, 3) := by decide +kernel
theorem dX1_seatsFrom_8 : decode cX1_seatsFrom 8 = .ok (.ifCond .eq 12, 3) := by decide +kernel
theorem dX1_seatsFrom_11 : decode cX1_seatsFrom 11 = .ok (.aload_n 0, 1) := by decide +kernel
theorem dX1_seatsFrom_12 : decode cX1_seatsFrom 12 = .ok (.getfield 33, 3) := by decide +kernel
theorem dX1_seatsFrom_15 : decode cX1_seatsFrom 15 = .ok (.iload_n 1, 1) := by decide +kernel
theorem dX1_seatsFrom_16 : decode cX1_seatsFrom 16 = .ok (.iaload, 1) := by decide +kernel
theorem dX1_seatsFrom_17 : decode cX1_seatsFrom 17 = .ok (.goto 4, 3) := by decide +kernel
theorem dX1_seatsFrom_20 : decode cX1_seatsFrom 20 = .ok (.iconst 0, 1) := by decide +kernel
theorem dX1_seatsFrom_21 : decode cX1_seatsFrom 21 = .ok (.ireturn, 1) := by decide +kernel
theorem dX1_firstIn_0 : decode cX1_firstIn 0 = .ok (.aload_n 0, 1) := by decide +kernel
theorem dX1_firstIn_1 : decode cX1_firstIn 1 = .ok (.getfield 9, 3) := by decide +kernel
theorem dX1_firstIn_4 : decode cX1_firstIn 4 = .ok (.iload_n 1, 1) := by decide +kernel
theorem dX1_firstIn_5 : decode cX1_firstIn 5 = .ok (.invokevirtual 40, 3) := by decide +kernel
theorem dX1_firstIn_8 : decode cX1_firstIn 8 = .ok (.ifCond .eq 19, 3) := by decide +kernel
theorem dX1_firstIn_11 : decode cX1_firstIn 11 = .ok (.aload_n 0, 1) := by decide +kernel
theorem dX1_firstIn_12 : decode cX1_firstIn 12 = .ok (.getfield 21, 3) := by decide +kernel
theorem dX1_firstIn_15 : decode cX1_firstIn 15 = .ok (.iload_n 1, 1) := by decide +kernel
theorem dX1_firstIn_16 : decode cX1_firstIn 16 = .ok (.aaload, 1) := by decide +kernel
theorem dX1_firstIn_17 : decode cX1_firstIn 17 = .ok (.aload_n 0, 1) := by decide +kernel
theorem dX1_firstIn_18 : decode cX1_firstIn 18 = .ok (.getfield 33, 3) := by decide +kernel
theorem dX1_firstIn_21 : decode cX1_firstIn 21 = .ok (.iload_n 1, 1) := by decide +kernel
theorem dX1_firstIn_22 : decode cX1_firstIn 22 = .ok (.iaload, 1) := by decide +kernel
theorem dX1_firstIn_23 : decode cX1_firstIn 23 = .ok (.iaload, 1) := by decide +kernel
theorem dX1_firstIn_24 : decode cX1_firstIn 24 = .ok (.goto 4, 3) := by decide +kernel
theorem dX1_firstIn_27 : decode cX1_firstIn 27 = .ok (.iconst (-1), 1) := by decide +kernel
theorem dX1_firstIn_28 : decode cX1_firstIn 28 = .ok (.ireturn, 1) := by decide +kernel
theorem dX1_find_0 : decode cX1_find 0 = .ok (.iload_n 1, 1) := by decide +kernel
theorem dX1_find_1 : decode cX1_find 1 = .ok (.iconst 2, 1) := by decide +kernel
theorem dX1_find_2 : decode cX1_find 2 = .ok (.if_icmp .lt 9, 3) := by decide +kernel
theorem dX1_find_5 : decode cX1_find 5 = .ok (.iload_n 1, 1) := by decide +kernel
theorem dX1_find_6 : decode cX1_find 6 = .ok (.bipush 100, 2) := by decide +kernel
theorem dX1_find_8 : decode cX1_find 8 = .ok (.if_icmp .le 5, 3) := by decide +kernel
theorem dX1_find_11 : decode cX1_find 11 = .ok (.iconst 0, 1) := by decide +kernel
theorem dX1_find_12 : decode cX1_find 12 = .ok (.ireturn, 1) := by decide +kernel
theorem dX1_find_13 : decode cX1_find 13 = .ok (.aload_n 0, 1) := by decide +kernel
theorem dX1_find_14 : decode cX1_find 14 = .ok (.iload_n 1, 1) := by decide +kernel
theorem dX1_find_15 : decode cX1_find 15 = .ok (.invokevirtual 46, 3) := by decide +kernel
theorem dX1_find_18 : decode cX1_find 18 = .ok (.aload_n 0, 1) := by decide +kernel
theorem dX1_find_19 : decode cX1_find 19 = .ok (.getfield 9, 3) := by decide +kernel
theorem dX1_find_22 : decode cX1_find 22 = .ok (.invokevirtual 50, 3) := by decide +kernel
theorem dX1_find_25 : decode cX1_find 25 = .ok (.iconst 1, 1) := by decide +kernel
theorem dX1_find_26 : decode cX1_find 26 = .ok (.isub, 1) := by decide +kernel
theorem dX1_find_27 : decode cX1_find 27 = .ok (.istore_n 2, 1) := by decide +kernel
theorem dX1_find_28 : decode cX1_find 28 = .ok (.iload_n 2, 1) := by decide +kernel
theorem dX1_find_29 : decode cX1_find 29 = .ok (.ifCond .lt 33, 3) := by decide +kernel
theorem dX1_find_32 : decode cX1_find 32 = .ok (.aload_n 0, 1) := by decide +kernel
theorem dX1_find_33 : decode cX1_find 33 = .ok (.iload_n 2, 1) := by decide +kernel
theorem dX1_find_34 : decode cX1_find 34 = .ok (.invokevirtual 54, 3) := by decide +kernel
theorem dX1_find_37 : decode cX1_find 37 = .ok (.iconst 0, 1) := by decide +kernel
theorem dX1_find_38 : decode cX1_find 38 = .ok (.istore_n 3, 1) := by decide +kernel
theorem dX1_find_39 : decode cX1_find 39 = .ok (.iload_n 3, 1) := by decide +kernel
theorem dX1_find_40 : decode cX1_find 40 = .ok (.iload_n 1, 1) := by decide +kernel
theorem dX1_find_41 : decode cX1_find 41 = .ok (.if_icmp .gt 15, 3) := by decide +kernel
theorem dX1_find_44 : decode cX1_find 44 = .ok (.aload_n 0, 1) := by decide +kernel
theorem dX1_find_45 : decode cX1_find 45 = .ok (.iload_n 2, 1) := by decide +kernel
theorem dX1_find_46 : decode cX1_find 46 = .ok (.iload_n 3, 1) := by decide +kernel
theorem dX1_find_47 : decode cX1_find 47 = .ok (.invokevirtual 57, 3) := by decide +kernel
theorem dX1_find_50 : decode cX1_find 50 = .ok (.iinc 3 1, 3) := by decide +kernel
theorem dX1_find_53 : decode cX1_find 53 = .ok (.goto (-14), 3) := by decide +kernel
theorem dX1_find_56 : decode cX1_find 56 = .ok (.iinc 2 (-1), 3) := by decide +kernel
theorem dX1_find_59 : decode cX1_find 59 = .ok (.goto (-31), 3) := by decide +kernel
theorem dX1_find_62 : decode cX1_find 62 = .ok (.aload_n 0, 1) := by decide +kernel
theorem dX1_find_63 : decode cX1_find 63 = .ok (.aload_n 0, 1) := by decide +kernel
theorem dX1_find_64 : decode cX1_find 64 = .ok (.getfield 27, 3) := by decide +kernel
theorem dX1_find_67 : decode cX1_find 67 = .ok (.iconst 0, 1) := by decide +kernel
theorem dX1_find_68 : decode cX1_find 68 = .ok (.aaload, 1) := by decide +kernel
theorem dX1_find_69 : decode cX1_find 69 = .ok (.iload_n 1, 1) := by decide +kernel
theorem dX1_find_70 : decode cX1_find 70 = .ok (.iaload, 1) := by decide +kernel
theorem dX1_find_71 : decode cX1_find 71 = .ok (.putfield 36, 3) := by decide +kernel
theorem dX1_find_74 : decode cX1_find 74 = .ok (.aload_n 0, 1) := by decide +kernel
theorem dX1_find_75 : decode cX1_find 75 = .ok (.getfield 36, 3) := by decide +kernel
theorem dX1_find_78 : decode cX1_find 78 = .ok (.bipush 13, 2) := by decide +kernel
theorem dX1_find_80 : decode cX1_find 80 = .ok (.if_icmp .lt 5, 3) := by decide +kernel
theorem dX1_find_83 : decode cX1_find 83 = .ok (.iconst 0, 1) := by decide +kernel
theorem dX1_find_84 : decode cX1_find 84 = .ok (.ireturn, 1) := by decide +kernel
theorem dX1_find_85 : decode cX1_find 85 = .ok (.aload_n 0, 1) := by decide +kernel
theorem dX1_find_86 : decode cX1_find 86 = .ok (.iload_n 1, 1) := by decide +kernel
theorem dX1_find_87 : decode cX1_find 87 = .ok (.invokevirtual 61, 3) := by decide +kernel
theorem dX1_find_90 : decode cX1_find 90 = .ok (.iconst 1, 1) := by decide +kernel
theorem dX1_find_91 : decode cX1_find 91 = .ok (.ireturn, 1) := by decide +kernel
theorem dX1_startBehindLastRow_0 : decode cX1_startBehindLastRow 0 = .ok (.aload_n 0, 1) := by decide +kernel
theorem dX1_startBehindLastRow_1 : decode cX1_startBehindLastRow 1 = .ok (.getfield 9, 3) := by decide +kernel
theorem dX1_startBehindLastRow_4 : decode cX1_startBehindLastRow 4 = .ok (.invokevirtual 50, 3) := by decide +kernel
theorem dX1_startBehindLastRow_7 : decode cX1_startBehindLastRow 7 = .ok (.istore_n 2, 1) := by decide +kernel
theorem dX1_startBehindLastRow_8 : decode cX1_startBehindLastRow 8 = .ok (.iconst 0, 1) := by decide +kernel
theorem dX1_startBehindLastRow_9 : decode cX1_startBehindLastRow 9 = .ok (.istore_n 3, 1) := by decide +kernel
theorem dX1_startBehindLastRow_10 : decode cX1_startBehindLastRow 10 = .ok (.iload_n 3, 1) := by decide +kernel
theorem dX1_startBehindLastRow_11 : decode cX1_startBehindLastRow 11 = .ok (.iload_n 1, 1) := by decide +kernel
theorem dX1_startBehindLastRow_12 : decode cX1_startBehindLastRow 12 = .ok (.if_icmp .gt 36, 3) := by decide +kernel
theorem dX1_startBehindLastRow_15 : decode cX1_startBehindLastRow 15 = .ok (.aload_n 0, 1) := by decide +kernel
theorem dX1_startBehindLastRow_16 : decode cX1_startBehindLastRow 16 = .ok (.getfield 27, 3) := by decide +kernel
theorem dX1_startBehindLastRow_19 : decode cX1_startBehindLastRow 19 = .ok (.iload_n 2, 1) := by decide +kernel
theorem dX1_startBehindLastRow_20 : decode cX1_startBehindLastRow 20 = .ok (.aaload, 1) := by decide +kernel
theorem dX1_startBehindLastRow_21 : decode cX1_startBehindLastRow 21 = .ok (.iload_n 3, 1) := by decide +kernel
theorem dX1_startBehindLastRow_22 : decode cX1_startBehindLastRow 22 = .ok (.iload_n 3, 1) := by decide +kernel
theorem dX1_startBehindLastRow_23 : decode cX1_startBehindLastRow 23 = .ok (.ifCond .ne 7, 3) := by decide +kernel
theorem dX1_startBehindLastRow_26 : decode cX1_startBehindLastRow 26 = .ok (.iconst 0, 1) := by decide +kernel
theorem dX1_startBehindLastRow_27 : decode cX1_startBehindLastRow 27 = .ok (.goto 5, 3) := by decide +kernel
theorem dX1_startBehindLastRow_30 : decode cX1_startBehindLastRow 30 = .ok (.bipush 13, 2) := by decide +kernel
theorem dX1_startBehindLastRow_32 : decode cX1_startBehindLastRow 32 = .ok (.iastore, 1) := by decide +kernel
theorem dX1_startBehindLastRow_33 : decode cX1_startBehindLastRow 33 = .ok (.aload_n 0, 1) := by decide +kernel
theorem dX1_startBehindLastRow_34 : decode cX1_startBehindLastRow 34 = .ok (.getfield 30, 3) := by decide +kernel
theorem dX1_startBehindLastRow_37 : decode cX1_startBehindLastRow 37 = .ok (.iload_n 2, 1) := by decide +kernel
theorem dX1_startBehindLastRow_38 : decode cX1_startBehindLastRow 38 = .ok (.aaload, 1) := by decide +kernel
theorem dX1_startBehindLastRow_39 : decode cX1_startBehindLastRow 39 = .ok (.iload_n 3, 1) := by decide +kernel
theorem dX1_startBehindLastRow_40 : decode cX1_startBehindLastRow 40 = .ok (.iconst 0, 1) := by decide +kernel
theorem dX1_startBehindLastRow_41 : decode cX1_startBehindLastRow 41 = .ok (.iastore, 1) := by decide +kernel
theorem dX1_startBehindLastRow_42 : decode cX1_startBehindLastRow 42 = .ok (.iinc 3 1, 3) := by decide +kernel
theorem dX1_startBehindLastRow_45 : decode cX1_startBehindLastRow 45 = .ok (.goto (-35), 3) := by decide +kernel
theorem dX1_startBehindLastRow_48 : decode cX1_startBehindLastRow 48 = .ok (.return_, 1) := by decide +kernel
theorem dX1_readBlocks_0 : decode cX1_readBlocks 0 = .ok (.aload_n 0, 1) := by decide +kernel
theorem dX1_readBlocks_1 : decode cX1_readBlocks 1 = .ok (.getfield 15, 3) := by decide +kernel
theorem dX1_readBlocks_4 : decode cX1_readBlocks 4 = .ok (.iload_n 1, 1) := by decide +kernel
theorem dX1_readBlocks_5 : decode cX1_readBlocks 5 = .ok (.aload_n 0, 1) := by decide +kernel
theorem dX1_readBlocks_6 : decode cX1_readBlocks 6 = .ok (.getfield 9, 3) := by decide +kernel
theorem dX1_readBlocks_9 : decode cX1_readBlocks 9 = .ok (.iload_n 1, 1) := by decide +kernel
theorem dX1_readBlocks_10 : decode cX1_readBlocks 10 = .ok (.invokevirtual 64, 3) := by decide +kernel
theorem dX1_readBlocks_13 : decode cX1_readBlocks 13 = .ok (.iastore, 1) := by decide +kernel
theorem dX1_readBlocks_14 : decode cX1_readBlocks 14 = .ok (.iconst 2, 1) := by decide +kernel
theorem dX1_readBlocks_15 : decode cX1_readBlocks 15 = .ok (.istore_n 2, 1) := by decide +kernel
theorem dX1_readBlocks_16 : decode cX1_readBlocks 16 = .ok (.iload_n 2, 1) := by decide +kernel
theorem dX1_readBlocks_17 : decode cX1_readBlocks 17 = .ok (.aload_n 0, 1) := by decide +kernel
theorem dX1_readBlocks_18 : decode cX1_readBlocks 18 = .ok (.getfield 15, 3) := by decide +kernel
theorem dX1_readBlocks_21 : decode cX1_readBlocks 21 = .ok (.iload_n 1, 1) := by decide +kernel
theorem dX1_readBlocks_22 : decode cX1_readBlocks 22 = .ok (.iaload, 1) := by decide +kernel
theorem dX1_readBlocks_23 : decode cX1_readBlocks 23 = .ok (.if_icmp .gt 47, 3) := by decide +kernel
theorem dX1_readBlocks_26 : decode cX1_readBlocks 26 = .ok (.aload_n 0, 1) := by decide +kernel
theorem dX1_readBlocks_27 : decode cX1_readBlocks 27 = .ok (.getfield 9, 3) := by decide +kernel
theorem dX1_readBlocks_30 : decode cX1_readBlocks 30 = .ok (.iload_n 1, 1) := by decide +kernel
theorem dX1_readBlocks_31 : decode cX1_readBlocks 31 = .ok (.iload_n 2, 1) := by decide +kernel
theorem dX1_readBlocks_32 : decode cX1_readBlocks 32 = .ok (.iconst 1, 1) := by decide +kernel
theorem dX1_readBlocks_33 : decode cX1_readBlocks 33 = .ok (.invokevirtual 68, 3) := by decide +kernel
theorem dX1_readBlocks_36 : decode cX1_readBlocks 36 = .ok (.istore_n 3, 1) := by decide +kernel
theorem dX1_readBlocks_37 : decode cX1_readBlocks 37 = .ok (.aload_n 0, 1) := by decide +kernel
theorem dX1_readBlocks_38 : decode cX1_readBlocks 38 = .ok (.getfield 21, 3) := by decide +kernel
theorem dX1_readBlocks_41 : decode cX1_readBlocks 41 = .ok (.iload_n 1, 1) := by decide +kernel
theorem dX1_readBlocks_42 : decode cX1_readBlocks 42 = .ok (.aaload, 1) := by decide +kernel
theorem dX1_readBlocks_43 : decode cX1_readBlocks 43 = .ok (.iload_n 2, 1) := by decide +kernel
theorem dX1_readBlocks_44 : decode cX1_readBlocks 44 = .ok (.iload_n 3, 1) := by decide +kernel
theorem dX1_readBlocks_45 : decode cX1_readBlocks 45 = .ok (.iastore, 1) := by decide +kernel
theorem dX1_readBlocks_46 : decode cX1_readBlocks 46 = .ok (.aload_n 0, 1) := by decide +kernel
theorem dX1_readBlocks_47 : decode cX1_readBlocks 47 = .ok (.getfield 24, 3) := by decide +kernel
theorem dX1_readBlocks_50 : decode cX1_readBlocks 50 = .ok (.iload_n 1, 1) := by decide +kernel
theorem dX1_readBlocks_51 : decode cX1_readBlocks 51 = .ok (.aaload, 1) := by decide +kernel
theorem dX1_readBlocks_52 : decode cX1_readBlocks 52 = .ok (.iload_n 2, 1) := by decide +kernel
theorem dX1_readBlocks_53 : decode cX1_readBlocks 53 = .ok (.aload_n 0, 1) := by decide +kernel
theorem dX1_readBlocks_54 : decode cX1_readBlocks 54 = .ok (.getfield 9, 3) := by decide +kernel
theorem dX1_readBlocks_57 : decode cX1_readBlocks 57 = .ok (.iload_n 1, 1) := by decide +kernel
theorem dX1_readBlocks_58 : decode cX1_readBlocks 58 = .ok (.iload_n 3, 1) := by decide +kernel
theorem dX1_readBlocks_59 : decode cX1_readBlocks 59 = .ok (.iload_n 2, 1) := by decide +kernel
theorem dX1_readBlocks_60 : decode cX1_readBlocks 60 = .ok (.invokevirtual 72, 3) := by decide +kernel
theorem dX1_readBlocks_63 : decode cX1_readBlocks 63 = .ok (.iastore, 1) := by decide +kernel
theorem dX1_readBlocks_64 : decode cX1_readBlocks 64 = .ok (.iinc 2 1, 3) := by decide +kernel
theorem dX1_readBlocks_67 : decode cX1_readBlocks 67 = .ok (.goto (-51), 3) := by decide +kernel
theorem dX1_readBlocks_70 : decode cX1_readBlocks 70 = .ok (.return_, 1) := by decide +kernel
theorem dX1_decide_0 : decode cX1_decide 0 = .ok (.aload_n 0, 1) := by decide +kernel
theorem dX1_decide_1 : decode cX1_decide 1 = .ok (.getfield 27, 3) := by decide +kernel
theorem dX1_decide_4 : decode cX1_decide 4 = .ok (.iload_n 1, 1) := by decide +kernel
theorem dX1_decide_5 : decode cX1_decide 5 = .ok (.iconst 1, 1) := by decide +kernel
theorem dX1_decide_6 : decode cX1_decide 6 = .ok (.iadd, 1) := by decide +kernel
theorem dX1_decide_7 : decode cX1_decide 7 = .ok (.aaload, 1) := by decide +kernel
theorem dX1_decide_8 : decode cX1_decide 8 = .ok (.iload_n 2, 1) := by decide +kernel
theorem dX1_decide_9 : decode cX1_decide 9 = .ok (.iaload, 1) := by decide +kernel
theorem dX1_decide_10 : decode cX1_decide 10 = .ok (.istore_n 3, 1) := by decide +kernel
theorem dX1_decide_11 : decode cX1_decide 11 = .ok (.aload_n 0, 1) := by decide +kernel
theorem dX1_decide_12 : decode cX1_decide 12 = .ok (.getfield 30, 3) := by decide +kernel
theorem dX1_decide_15 : decode cX1_decide 15 = .ok (.iload_n 1, 1) := by decide +kernel
theorem dX1_decide_16 : decode cX1_decide 16 = .ok (.iconst 1, 1) := by decide +kernel
theorem dX1_decide_17 : decode cX1_decide 17 = .ok (.iadd, 1) := by decide +kernel
theorem dX1_decide_18 : decode cX1_decide 18 = .ok (.aaload, 1) := by decide +kernel
theorem dX1_decide_19 : decode cX1_decide 19 = .ok (.iload_n 2, 1) := by decide +kernel
theorem dX1_decide_20 : decode cX1_decide 20 = .ok (.iaload, 1) := by decide +kernel
theorem dX1_decide_21 : decode cX1_decide 21 = .ok (.istore 4, 2) := by decide +kernel
theorem dX1_decide_23 : decode cX1_decide 23 = .ok (.iload_n 2, 1) := by decide +kernel
theorem dX1_decide_24 : decode cX1_decide 24 = .ok (.aload_n 0, 1) := by decide +kernel
theorem dX1_decide_25 : decode cX1_decide 25 = .ok (.getfield 15, 3) := by decide +kernel
theorem dX1_decide_28 : decode cX1_decide 28 = .ok (.iload_n 1, 1) := by decide +kernel
theorem dX1_decide_29 : decode cX1_decide 29 = .ok (.iaload, 1) := by decide +kernel
theorem dX1_decide_30 : decode cX1_decide 30 = .ok (.invokestatic 76, 3) := by decide +kernel
theorem dX1_decide_33 : decode cX1_decide 33 = .ok (.istore 5, 2) := by decide +kernel
theorem dX1_decide_35 : decode cX1_decide 35 = .ok (.iconst 2, 1) := by decide +kernel
theorem dX1_decide_36 : decode cX1_decide 36 = .ok (.istore 6, 2) := by decide +kernel
theorem dX1_decide_38 : decode cX1_decide 38 = .ok (.iload 6, 2) := by decide +kernel
theorem dX1_decide_40 : decode cX1_decide 40 = .ok (.iload 5, 2) := by decide +kernel
theorem dX1_decide_42 : decode cX1_decide 42 = .ok (.if_icmp .gt 88, 3) := by decide +kernel
theorem dX1_decide_45 : decode cX1_decide 45 = .ok (.aload_n 0, 1) := by decide +kernel
theorem dX1_decide_46 : decode cX1_decide 46 = .ok (.getfield 27, 3) := by decide +kernel
theorem dX1_decide_49 : decode cX1_decide 49 = .ok (.iload_n 1, 1) := by decide +kernel
theorem dX1_decide_50 : decode cX1_decide 50 = .ok (.iconst 1, 1) := by decide +kernel
theorem dX1_decide_51 : decode cX1_decide 51 = .ok (.iadd, 1) := by decide +kernel
theorem dX1_decide_52 : decode cX1_decide 52 = .ok (.aaload, 1) := by decide +kernel
theorem dX1_decide_53 : decode cX1_decide 53 = .ok (.iload_n 2, 1) := by decide +kernel
theorem dX1_decide_54 : decode cX1_decide 54 = .ok (.iload 6, 2) := by decide +kernel
theorem dX1_decide_56 : decode cX1_decide 56 = .ok (.isub, 1) := by decide +kernel
theorem dX1_decide_57 : decode cX1_decide 57 = .ok (.iaload, 1) := by decide +kernel
theorem dX1_decide_58 : decode cX1_decide 58 = .ok (.istore 7, 2) := by decide +kernel
theorem dX1_decide_60 : decode cX1_decide 60 = .ok (.iload 7, 2) := by decide +kernel
theorem dX1_decide_62 : decode cX1_decide 62 = .ok (.bipush 13, 2) := by decide +kernel
theorem dX1_decide_64 : decode cX1_decide 64 = .ok (.if_icmp .ge 60, 3) := by decide +kernel
theorem dX1_decide_67 : decode cX1_decide 67 = .ok (.iload 7, 2) := by decide +kernel
theorem dX1_decide_69 : decode cX1_decide 69 = .ok (.iconst 1, 1) := by decide +kernel
theorem dX1_decide_70 : decode cX1_decide 70 = .ok (.iadd, 1) := by decide +kernel
theorem dX1_decide_71 : decode cX1_decide 71 = .ok (.istore 8, 2) := by decide +kernel
theorem dX1_decide_73 : decode cX1_decide 73 = .ok (.aload_n 0, 1) := by decide +kernel
theorem dX1_decide_74 : decode cX1_decide 74 = .ok (.getfield 30, 3) := by decide +kernel
theorem dX1_decide_77 : decode cX1_decide 77 = .ok (.iload_n 1, 1) := by decide +kernel
theorem dX1_decide_78 : decode cX1_decide 78 = .ok (.iconst 1, 1) := by decide +kernel
theorem dX1_decide_79 : decode cX1_decide 79 = .ok (.iadd, 1) := by decide +kernel
theorem dX1_decide_80 : decode cX1_decide 80 = .ok (.aaload, 1) := by decide +kernel
theorem dX1_decide_81 : decode cX1_decide 81 = .ok (.iload_n 2, 1) := by decide +kernel
theorem dX1_decide_82 : decode cX1_decide 82 = .ok (.iload 6, 2) := by decide +kernel
theorem dX1_decide_84 : decode cX1_decide 84 = .ok (.isub, 1) := by decide +kernel
theorem dX1_decide_85 : decode cX1_decide 85 = .ok (.iaload, 1) := by decide +kernel
theorem dX1_decide_86 : decode cX1_decide 86 = .ok (.aload_n 0, 1) := by decide +kernel
theorem dX1_decide_87 : decode cX1_decide 87 = .ok (.getfield 24, 3) := by decide +kernel
theorem dX1_decide_90 : decode cX1_decide 90 = .ok (.iload_n 1, 1) := by decide +kernel
theorem dX1_decide_91 : decode cX1_decide 91 = .ok (.aaload, 1) := by decide +kernel
theorem dX1_decide_92 : decode cX1_decide 92 = .ok (.iload 6, 2) := by decide +kernel
theorem dX1_decide_94 : decode cX1_decide 94 = .ok (.iaload, 1) := by decide +kernel
theorem dX1_decide_95 : decode cX1_decide 95 = .ok (.iadd, 1) := by decide +kernel
theorem dX1_decide_96 : decode cX1_decide 96 = .ok (.istore 9, 2) := by decide +kernel
theorem dX1_decide_98 : decode cX1_decide 98 = .ok (.iload 8, 2) := by decide +kernel
theorem dX1_decide_100 : decode cX1_decide 100 = .ok (.iload_n 3, 1) := by decide +kernel
theorem dX1_decide_101 : decode cX1_decide 101 = .ok (.if_icmp .lt 16, 3) := by decide +kernel
theorem dX1_decide_104 : decode cX1_decide 104 = .ok (.iload 8, 2) := by decide +kernel
theorem dX1_decide_106 : decode cX1_decide 106 = .ok (.iload_n 3, 1) := by decide +kernel
theorem dX1_decide_107 : decode cX1_decide 107 = .ok (.if_icmp .ne 17, 3) := by decide +kernel
theorem dX1_decide_110 : decode cX1_decide 110 = .ok (.iload 9, 2) := by decide +kernel
theorem dX1_decide_112 : decode cX1_decide 112 = .ok (.iload 4, 2) := by decide +kernel
theorem dX1_decide_114 : decode cX1_decide 114 = .ok (.if_icmp .le 10, 3) := by decide +kernel
theorem dX1_decide_117 : decode cX1_decide 117 = .ok (.iload 8, 2) := by decide +kernel
theorem dX1_decide_119 : decode cX1_decide 119 = .ok (.istore_n 3, 1) := by decide +kernel
theorem dX1_decide_120 : decode cX1_decide 120 = .ok (.iload 9, 2) := by decide +kernel
theorem dX1_decide_122 : decode cX1_decide 122 = .ok (.istore 4, 2) := by decide +kernel
theorem dX1_decide_124 : decode cX1_decide 124 = .ok (.iinc 6 1, 3) := by decide +kernel
theorem dX1_decide_127 : decode cX1_decide 127 = .ok (.goto (-89), 3) := by decide +kernel
theorem dX1_decide_130 : decode cX1_decide 130 = .ok (.aload_n 0, 1) := by decide +kernel
theorem dX1_decide_131 : decode cX1_decide 131 = .ok (.getfield 27, 3) := by decide +kernel
theorem dX1_decide_134 : decode cX1_decide 134 = .ok (.iload_n 1, 1) := by decide +kernel
theorem dX1_decide_135 : decode cX1_decide 135 = .ok (.aaload, 1) := by decide +kernel
theorem dX1_decide_136 : decode cX1_decide 136 = .ok (.iload_n 2, 1) := by decide +kernel
theorem dX1_decide_137 : decode cX1_decide 137 = .ok (.iload_n 3, 1) := by decide +kernel
theorem dX1_decide_138 : decode cX1_decide 138 = .ok (.iastore, 1) := by decide +kernel
theorem dX1_decide_139 : decode cX1_decide 139 = .ok (.aload_n 0, 1) := by decide +kernel
theorem dX1_decide_140 : decode cX1_decide 140 = .ok (.getfield 30, 3) := by decide +kernel
theorem dX1_decide_143 : decode cX1_decide 143 = .ok (.iload_n 1, 1) := by decide +kernel
theorem dX1_decide_144 : decode cX1_decide 144 = .ok (.aaload, 1) := by decide +kernel
theorem dX1_decide_145 : decode cX1_decide 145 = .ok (.iload_n 2, 1) := by decide +kernel
theorem dX1_decide_146 : decode cX1_decide 146 = .ok (.iload 4, 2) := by decide +kernel
theorem dX1_decide_148 : decode cX1_decide 148 = .ok (.iastore, 1) := by decide +kernel
theorem dX1_decide_149 : decode cX1_decide 149 = .ok (.return_, 1) := by decide +kernel
theorem dX1_takeFromRows_0 : decode cX1_takeFromRows 0 = .ok (.iload_n 1, 1) := by decide +kernel
theorem dX1_takeFromRows_1 : decode cX1_takeFromRows 1 = .ok (.istore_n 2, 1) := by decide +kernel
theorem dX1_takeFromRows_2 : decode cX1_takeFromRows 2 = .ok (.iconst 0, 1) := by decide +kernel
theorem dX1_takeFromRows_3 : decode cX1_takeFromRows 3 = .ok (.istore_n 3, 1) := by decide +kernel
theorem dX1_takeFromRows_4 : decode cX1_takeFromRows 4 = .ok (.iload_n 3, 1) := by decide +kernel
theorem dX1_takeFromRows_5 : decode cX1_takeFromRows 5 = .ok (.aload_n 0, 1) := by decide +kernel
theorem dX1_takeFromRows_6 : decode cX1_takeFromRows 6 = .ok (.getfield 9, 3) := by decide +kernel
theorem dX1_takeFromRows_9 : decode cX1_takeFromRows 9 = .ok (.invokevirtual 50, 3) := by decide +kernel
theorem dX1_takeFromRows_12 : decode cX1_takeFromRows 12 = .ok (.if_icmp .ge 30, 3) := by decide +kernel
theorem dX1_takeFromRows_15 : decode cX1_takeFromRows 15 = .ok (.aload_n 0, 1) := by decide +kernel
theorem dX1_takeFromRows_16 : decode cX1_takeFromRows 16 = .ok (.getfield 33, 3) := by decide +kernel
theorem dX1_takeFromRows_19 : decode cX1_takeFromRows 19 = .ok (.iload_n 3, 1) := by decide +kernel
theorem dX1_takeFromRows_20 : decode cX1_takeFromRows 20 = .ok (.aload_n 0, 1) := by decide +kernel
theorem dX1_takeFromRows_21 : decode cX1_takeFromRows 21 = .ok (.iload_n 3, 1) := by decide +kernel
theorem dX1_takeFromRows_22 : decode cX1_takeFromRows 22 = .ok (.iload_n 2, 1) := by decide +kernel
theorem dX1_takeFromRows_23 : decode cX1_takeFromRows 23 = .ok (.invokevirtual 82, 3) := by decide +kernel
theorem dX1_takeFromRows_26 : decode cX1_takeFromRows 26 = .ok (.iastore, 1) := by decide +kernel
theorem dX1_takeFromRows_27 : decode cX1_takeFromRows 27 = .ok (.iload_n 2, 1) := by decide +kernel
theorem dX1_takeFromRows_28 : decode cX1_takeFromRows 28 = .ok (.aload_n 0, 1) := by decide +kernel
theorem dX1_takeFromRows_29 : decode cX1_takeFromRows 29 = .ok (.getfield 33, 3) := by decide +kernel
theorem dX1_takeFromRows_32 : decode cX1_takeFromRows 32 = .ok (.iload_n 3, 1) := by decide +kernel
theorem dX1_takeFromRows_33 : decode cX1_takeFromRows 33 = .ok (.iaload, 1) := by decide +kernel
theorem dX1_takeFromRows_34 : decode cX1_takeFromRows 34 = .ok (.isub, 1) := by decide +kernel
theorem dX1_takeFromRows_35 : decode cX1_takeFromRows 35 = .ok (.istore_n 2, 1) := by decide +kernel
theorem dX1_takeFromRows_36 : decode cX1_takeFromRows 36 = .ok (.iinc 3 1, 3) := by decide +kernel
theorem dX1_takeFromRows_39 : decode cX1_takeFromRows 39 = .ok (.goto (-35), 3) := by decide +kernel
theorem dX1_takeFromRows_42 : decode cX1_takeFromRows 42 = .ok (.return_, 1) := by decide +kernel
theorem dX1_mostSeats_0 : decode cX1_mostSeats 0 = .ok (.iload_n 2, 1) := by decide +kernel
theorem dX1_mostSeats_1 : decode cX1_mostSeats 1 = .ok (.aload_n 0, 1) := by decide +kernel
theorem dX1_mostSeats_2 : decode cX1_mostSeats 2 = .ok (.getfield 15, 3) := by decide +kernel
theorem dX1_mostSeats_5 : decode cX1_mostSeats 5 = .ok (.iload_n 1, 1) := by decide +kernel
theorem dX1_mostSeats_6 : decode cX1_mostSeats 6 = .ok (.iaload, 1) := by decide +kernel
theorem dX1_mostSeats_7 : decode cX1_mostSeats 7 = .ok (.invokestatic 76, 3) := by decide +kernel
theorem dX1_mostSeats_10 : decode cX1_mostSeats 10 = .ok (.istore_n 3, 1) := by decide +kernel
theorem dX1_mostSeats_11 : decode cX1_mostSeats 11 = .ok (.iload_n 3, 1) := by decide +kernel
theorem dX1_mostSeats_12 : decode cX1_mostSeats 12 = .ok (.iconst 2, 1) := by decide +kernel
theorem dX1_mostSeats_13 : decode cX1_mostSeats 13 = .ok (.if_icmp .lt 21, 3) := by decide +kernel
theorem dX1_mostSeats_16 : decode cX1_mostSeats 16 = .ok (.aload_n 0, 1) := by decide +kernel
theorem dX1_mostSeats_17 : decode cX1_mostSeats 17 = .ok (.iload_n 1, 1) := by decide +kernel
theorem dX1_mostSeats_18 : decode cX1_mostSeats 18 = .ok (.iload_n 2, 1) := by decide +kernel
theorem dX1_mostSeats_19 : decode cX1_mostSeats 19 = .ok (.iload_n 3, 1) := by decide +kernel
theorem dX1_mostSeats_20 : decode cX1_mostSeats 20 = .ok (.invokevirtual 85, 3) := by decide +kernel
theorem dX1_mostSeats_23 : decode cX1_mostSeats 23 = .ok (.ifCond .eq 5, 3) := by decide +kernel
theorem dX1_mostSeats_26 : decode cX1_mostSeats 26 = .ok (.iload_n 3, 1) := by decide +kernel
theorem dX1_mostSeats_27 : decode cX1_mostSeats 27 = .ok (.ireturn, 1) := by decide +kernel
theorem dX1_mostSeats_28 : decode cX1_mostSeats 28 = .ok (.iinc 3 (-1), 3) := by decide +kernel
theorem dX1_mostSeats_31 : decode cX1_mostSeats 31 = .ok (.goto (-20), 3) := by decide +kernel
theorem dX1_mostSeats_34 : decode cX1_mostSeats 34 = .ok (.iconst 0, 1) := by decide +kernel
theorem dX1_mostSeats_35 : decode cX1_mostSeats 35 = .ok (.ireturn, 1) := by decide +kernel
theorem dX1_keepsBest_0 : decode cX1_keepsBest 0 = .ok (.aload_n 0, 1) := by decide +kernel
theorem dX1_keepsBest_1 : decode cX1_keepsBest 1 = .ok (.getfield 27, 3) := by decide +kernel
theorem dX1_keepsBest_4 : decode cX1_keepsBest 4 = .ok (.iload_n 1, 1) := by decide +kernel
theorem dX1_keepsBest_5 : decode cX1_keepsBest 5 = .ok (.iconst 1, 1) := by decide +kernel
theorem dX1_keepsBest_6 : decode cX1_keepsBest 6 = .ok (.iadd, 1) := by decide +kernel
theorem dX1_keepsBest_7 : decode cX1_keepsBest 7 = .ok (.aaload, 1) := by decide +kernel
theorem dX1_keepsBest_8 : decode cX1_keepsBest 8 = .ok (.iload_n 2, 1) := by decide +kernel
theorem dX1_keepsBest_9 : decode cX1_keepsBest 9 = .ok (.iload_n 3, 1) := by decide +kernel
theorem dX1_keepsBest_10 : decode cX1_keepsBest 10 = .ok (.isub, 1) := by decide +kernel
theorem dX1_keepsBest_11 : decode cX1_keepsBest 11 = .ok (.iaload, 1) := by decide +kernel
theorem dX1_keepsBest_12 : decode cX1_keepsBest 12 = .ok (.iconst 1, 1) := by decide +kernel
theorem dX1_keepsBest_13 : decode cX1_keepsBest 13 = .ok (.iadd, 1) := by decide +kernel
theorem dX1_keepsBest_14 : decode cX1_keepsBest 14 = .ok (.aload_n 0, 1) := by decide +kernel
theorem dX1_keepsBest_15 : decode cX1_keepsBest 15 = .ok (.getfield 27, 3) := by decide +kernel
theorem dX1_keepsBest_18 : decode cX1_keepsBest 18 = .ok (.iload_n 1, 1) := by decide +kernel
theorem dX1_keepsBest_19 : decode cX1_keepsBest 19 = .ok (.aaload, 1) := by decide +kernel
theorem dX1_keepsBest_20 : decode cX1_keepsBest 20 = .ok (.iload_n 2, 1) := by decide +kernel
theorem dX1_keepsBest_21 : decode cX1_keepsBest 21 = .ok (.iaload, 1) := by decide +kernel
theorem dX1_keepsBest_22 : decode cX1_keepsBest 22 = .ok (.if_icmp .ne 39, 3) := by decide +kernel
theorem dX1_keepsBest_25 : decode cX1_keepsBest 25 = .ok (.aload_n 0, 1) := by decide +kernel
theorem dX1_keepsBest_26 : decode cX1_keepsBest 26 = .ok (.getfield 30, 3) := by decide +kernel
theorem dX1_keepsBest_29 : decode cX1_keepsBest 29 = .ok (.iload_n 1, 1) := by decide +kernel
theorem dX1_keepsBest_30 : decode cX1_keepsBest 30 = .ok (.iconst 1, 1) := by decide +kernel
theorem dX1_keepsBest_31 : decode cX1_keepsBest 31 = .ok (.iadd, 1) := by decide +kernel
theorem dX1_keepsBest_32 : decode cX1_keepsBest 32 = .ok (.aaload, 1) := by decide +kernel
theorem dX1_keepsBest_33 : decode cX1_keepsBest 33 = .ok (.iload_n 2, 1) := by decide +kernel
theorem dX1_keepsBest_34 : decode cX1_keepsBest 34 = .ok (.iload_n 3, 1) := by decide +kernel
theorem dX1_keepsBest_35 : decode cX1_keepsBest 35 = .ok (.isub, 1) := by decide +kernel
theorem dX1_keepsBest_36 : decode cX1_keepsBest 36 = .ok (.iaload, 1) := by decide +kernel
theorem dX1_keepsBest_37 : decode cX1_keepsBest 37 = .ok (.aload_n 0, 1) := by decide +kernel
theorem dX1_keepsBest_38 : decode cX1_keepsBest 38 = .ok (.getfield 24, 3) := by decide +kernel
theorem dX1_keepsBest_41 : decode cX1_keepsBest 41 = .ok (.iload_n 1, 1) := by decide +kernel
theorem dX1_keepsBest_42 : decode cX1_keepsBest 42 = .ok (.aaload, 1) := by decide +kernel
theorem dX1_keepsBest_43 : decode cX1_keepsBest 43 = .ok (.iload_n 3, 1) := by decide +kernel
theorem dX1_keepsBest_44 : decode cX1_keepsBest 44 = .ok (.iaload, 1) := by decide +kernel
theorem dX1_keepsBest_45 : decode cX1_keepsBest 45 = .ok (.iadd, 1) := by decide +kernel
theorem dX1_keepsBest_46 : decode cX1_keepsBest 46 = .ok (.aload_n 0, 1) := by decide +kernel
theorem dX1_keepsBest_47 : decode cX1_keepsBest 47 = .ok (.getfield 30, 3) := by decide +kernel
theorem dX1_keepsBest_50 : decode cX1_keepsBest 50 = .ok (.iload_n 1, 1) := by decide +kernel
theorem dX1_keepsBest_51 : decode cX1_keepsBest 51 = .ok (.aaload, 1) := by decide +kernel
theorem dX1_keepsBest_52 : decode cX1_keepsBest 52 = .ok (.iload_n 2, 1) := by decide +kernel
theorem dX1_keepsBest_53 : decode cX1_keepsBest 53 = .ok (.iaload, 1) := by decide +kernel
theorem dX1_keepsBest_54 : decode cX1_keepsBest 54 = .ok (.if_icmp .ne 7, 3) := by decide +kernel
theorem dX1_keepsBest_57 : decode cX1_keepsBest 57 = .ok (.iconst 1, 1) := by decide +kernel
theorem dX1_keepsBest_58 : decode cX1_keepsBest 58 = .ok (.goto 4, 3) := by decide +kernel
theorem dX1_keepsBest_61 : decode cX1_keepsBest 61 = .ok (.iconst 0, 1) := by decide +kernel
theorem dX1_keepsBest_62 : decode cX1_keepsBest 62 = .ok (.ireturn, 1) := by decide +kernel
