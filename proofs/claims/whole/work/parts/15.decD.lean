theorem dX12_tryTending_127 : decode cX12_tryTending 127 = .ok (.iconst 0, 1) := by decide +kernel
theorem dX12_tryTending_128 : decode cX12_tryTending 128 = .ok (.iastore, 1) := by decide +kernel
theorem dX12_tryTending_129 : decode cX12_tryTending 129 = .ok (.aload_n 0, 1) := by decide +kernel
theorem dX12_tryTending_130 : decode cX12_tryTending 130 = .ok (.iload_n 1, 1) := by decide +kernel
theorem dX12_tryTending_131 : decode cX12_tryTending 131 = .ok (.iconst 1, 1) := by decide +kernel
theorem dX12_tryTending_132 : decode cX12_tryTending 132 = .ok (.iadd, 1) := by decide +kernel
theorem dX12_tryTending_133 : decode cX12_tryTending 133 = .ok (.iload_n 2, 1) := by decide +kernel
theorem dX12_tryTending_134 : decode cX12_tryTending 134 = .ok (.invokevirtual 303, 3) := by decide +kernel
theorem dX12_tryTending_137 : decode cX12_tryTending 137 = .ok (.return_, 1) := by decide +kernel
theorem dX12_seekTending_0 : decode cX12_seekTending 0 = .ok (.iconst 0, 1) := by decide +kernel
theorem dX12_seekTending_1 : decode cX12_seekTending 1 = .ok (.istore_n 3, 1) := by decide +kernel
theorem dX12_seekTending_2 : decode cX12_seekTending 2 = .ok (.iload_n 3, 1) := by decide +kernel
theorem dX12_seekTending_3 : decode cX12_seekTending 3 = .ok (.aload_n 0, 1) := by decide +kernel
theorem dX12_seekTending_4 : decode cX12_seekTending 4 = .ok (.getfield 20, 3) := by decide +kernel
theorem dX12_seekTending_7 : decode cX12_seekTending 7 = .ok (.iconst 3, 1) := by decide +kernel
theorem dX12_seekTending_8 : decode cX12_seekTending 8 = .ok (.iaload, 1) := by decide +kernel
theorem dX12_seekTending_9 : decode cX12_seekTending 9 = .ok (.if_icmp .ge 48, 3) := by decide +kernel
theorem dX12_seekTending_12 : decode cX12_seekTending 12 = .ok (.aload_n 0, 1) := by decide +kernel
theorem dX12_seekTending_13 : decode cX12_seekTending 13 = .ok (.getfield 41, 3) := by decide +kernel
theorem dX12_seekTending_16 : decode cX12_seekTending 16 = .ok (.iload_n 3, 1) := by decide +kernel
theorem dX12_seekTending_17 : decode cX12_seekTending 17 = .ok (.iload_n 3, 1) := by decide +kernel
theorem dX12_seekTending_18 : decode cX12_seekTending 18 = .ok (.iload_n 1, 1) := by decide +kernel
theorem dX12_seekTending_19 : decode cX12_seekTending 19 = .ok (.if_icmp .ne 7, 3) := by decide +kernel
theorem dX12_seekTending_22 : decode cX12_seekTending 22 = .ok (.iconst 0, 1) := by decide +kernel
theorem dX12_seekTending_23 : decode cX12_seekTending 23 = .ok (.goto 27, 3) := by decide +kernel
theorem dX12_seekTending_26 : decode cX12_seekTending 26 = .ok (.aload_n 0, 1) := by decide +kernel
theorem dX12_seekTending_27 : decode cX12_seekTending 27 = .ok (.getfield 20, 3) := by decide +kernel
theorem dX12_seekTending_30 : decode cX12_seekTending 30 = .ok (.bipush 29, 2) := by decide +kernel
theorem dX12_seekTending_32 : decode cX12_seekTending 32 = .ok (.iconst 3, 1) := by decide +kernel
theorem dX12_seekTending_33 : decode cX12_seekTending 33 = .ok (.iload_n 3, 1) := by decide +kernel
theorem dX12_seekTending_34 : decode cX12_seekTending 34 = .ok (.imul, 1) := by decide +kernel
theorem dX12_seekTending_35 : decode cX12_seekTending 35 = .ok (.iadd, 1) := by decide +kernel
theorem dX12_seekTending_36 : decode cX12_seekTending 36 = .ok (.iconst 1, 1) := by decide +kernel
theorem dX12_seekTending_37 : decode cX12_seekTending 37 = .ok (.iadd, 1) := by decide +kernel
theorem dX12_seekTending_38 : decode cX12_seekTending 38 = .ok (.iaload, 1) := by decide +kernel
theorem dX12_seekTending_39 : decode cX12_seekTending 39 = .ok (.iload_n 3, 1) := by decide +kernel
theorem dX12_seekTending_40 : decode cX12_seekTending 40 = .ok (.iload_n 2, 1) := by decide +kernel
theorem dX12_seekTending_41 : decode cX12_seekTending 41 = .ok (.if_icmp .ne 7, 3) := by decide +kernel
theorem dX12_seekTending_44 : decode cX12_seekTending 44 = .ok (.iconst 1, 1) := by decide +kernel
theorem dX12_seekTending_45 : decode cX12_seekTending 45 = .ok (.goto 4, 3) := by decide +kernel
theorem dX12_seekTending_48 : decode cX12_seekTending 48 = .ok (.iconst 0, 1) := by decide +kernel
theorem dX12_seekTending_49 : decode cX12_seekTending 49 = .ok (.iadd, 1) := by decide +kernel
theorem dX12_seekTending_50 : decode cX12_seekTending 50 = .ok (.iastore, 1) := by decide +kernel
theorem dX12_seekTending_51 : decode cX12_seekTending 51 = .ok (.iinc 3 1, 3) := by decide +kernel
theorem dX12_seekTending_54 : decode cX12_seekTending 54 = .ok (.goto (-52), 3) := by decide +kernel
theorem dX12_seekTending_57 : decode cX12_seekTending 57 = .ok (.aload_n 0, 1) := by decide +kernel
theorem dX12_seekTending_58 : decode cX12_seekTending 58 = .ok (.iconst (-1), 1) := by decide +kernel
theorem dX12_seekTending_59 : decode cX12_seekTending 59 = .ok (.putfield 300, 3) := by decide +kernel
theorem dX12_seekTending_62 : decode cX12_seekTending 62 = .ok (.aload_n 0, 1) := by decide +kernel
theorem dX12_seekTending_63 : decode cX12_seekTending 63 = .ok (.iconst 0, 1) := by decide +kernel
theorem dX12_seekTending_64 : decode cX12_seekTending 64 = .ok (.iconst 0, 1) := by decide +kernel
theorem dX12_seekTending_65 : decode cX12_seekTending 65 = .ok (.invokevirtual 303, 3) := by decide +kernel
theorem dX12_seekTending_68 : decode cX12_seekTending 68 = .ok (.aload_n 0, 1) := by decide +kernel
theorem dX12_seekTending_69 : decode cX12_seekTending 69 = .ok (.getfield 300, 3) := by decide +kernel
theorem dX12_seekTending_72 : decode cX12_seekTending 72 = .ok (.ireturn, 1) := by decide +kernel
theorem dX12_tending_0 : decode cX12_tending 0 = .ok (.aload_n 0, 1) := by decide +kernel
theorem dX12_tending_1 : decode cX12_tending 1 = .ok (.invokevirtual 165, 3) := by decide +kernel
theorem dX12_tending_4 : decode cX12_tending 4 = .ok (.aload_n 0, 1) := by decide +kernel
theorem dX12_tending_5 : decode cX12_tending 5 = .ok (.getfield 178, 3) := by decide +kernel
theorem dX12_tending_8 : decode cX12_tending 8 = .ok (.ifCond .eq 12, 3) := by decide +kernel
theorem dX12_tending_11 : decode cX12_tending 11 = .ok (.aload_n 0, 1) := by decide +kernel
theorem dX12_tending_12 : decode cX12_tending 12 = .ok (.iconst (-1), 1) := by decide +kernel
theorem dX12_tending_13 : decode cX12_tending 13 = .ok (.iconst (-1), 1) := by decide +kernel
theorem dX12_tending_14 : decode cX12_tending 14 = .ok (.invokevirtual 306, 3) := by decide +kernel
theorem dX12_tending_17 : decode cX12_tending 17 = .ok (.goto 8, 3) := by decide +kernel
theorem dX12_tending_20 : decode cX12_tending 20 = .ok (.aload_n 0, 1) := by decide +kernel
theorem dX12_tending_21 : decode cX12_tending 21 = .ok (.iconst 1, 1) := by decide +kernel
theorem dX12_tending_22 : decode cX12_tending 22 = .ok (.invokevirtual 168, 3) := by decide +kernel
theorem dX12_tending_25 : decode cX12_tending 25 = .ok (.ireturn, 1) := by decide +kernel
theorem dX12_tendedBy_0 : decode cX12_tendedBy 0 = .ok (.aload_n 0, 1) := by decide +kernel
theorem dX12_tendedBy_1 : decode cX12_tendedBy 1 = .ok (.invokevirtual 165, 3) := by decide +kernel
theorem dX12_tendedBy_4 : decode cX12_tendedBy 4 = .ok (.aload_n 0, 1) := by decide +kernel
theorem dX12_tendedBy_5 : decode cX12_tendedBy 5 = .ok (.iload_n 1, 1) := by decide +kernel
theorem dX12_tendedBy_6 : decode cX12_tendedBy 6 = .ok (.invokevirtual 275, 3) := by decide +kernel
theorem dX12_tendedBy_9 : decode cX12_tendedBy 9 = .ok (.ifCond .ne 9, 3) := by decide +kernel
theorem dX12_tendedBy_12 : decode cX12_tendedBy 12 = .ok (.aload_n 0, 1) := by decide +kernel
theorem dX12_tendedBy_13 : decode cX12_tendedBy 13 = .ok (.iconst 1, 1) := by decide +kernel
theorem dX12_tendedBy_14 : decode cX12_tendedBy 14 = .ok (.invokevirtual 168, 3) := by decide +kernel
theorem dX12_tendedBy_17 : decode cX12_tendedBy 17 = .ok (.ireturn, 1) := by decide +kernel
theorem dX12_tendedBy_18 : decode cX12_tendedBy 18 = .ok (.aload_n 0, 1) := by decide +kernel
theorem dX12_tendedBy_19 : decode cX12_tendedBy 19 = .ok (.iconst (-1), 1) := by decide +kernel
theorem dX12_tendedBy_20 : decode cX12_tendedBy 20 = .ok (.iconst (-1), 1) := by decide +kernel
theorem dX12_tendedBy_21 : decode cX12_tendedBy 21 = .ok (.invokevirtual 306, 3) := by decide +kernel
theorem dX12_tendedBy_24 : decode cX12_tendedBy 24 = .ok (.pop, 1) := by decide +kernel
theorem dX12_tendedBy_25 : decode cX12_tendedBy 25 = .ok (.aload_n 0, 1) := by decide +kernel
theorem dX12_tendedBy_26 : decode cX12_tendedBy 26 = .ok (.getfield 38, 3) := by decide +kernel
theorem dX12_tendedBy_29 : decode cX12_tendedBy 29 = .ok (.iload_n 1, 1) := by decide +kernel
theorem dX12_tendedBy_30 : decode cX12_tendedBy 30 = .ok (.iaload, 1) := by decide +kernel
theorem dX12_tendedBy_31 : decode cX12_tendedBy 31 = .ok (.ifCond .ne 8, 3) := by decide +kernel
theorem dX12_tendedBy_34 : decode cX12_tendedBy 34 = .ok (.bipush (-2), 2) := by decide +kernel
theorem dX12_tendedBy_36 : decode cX12_tendedBy 36 = .ok (.goto 11, 3) := by decide +kernel
theorem dX12_tendedBy_39 : decode cX12_tendedBy 39 = .ok (.aload_n 0, 1) := by decide +kernel
theorem dX12_tendedBy_40 : decode cX12_tendedBy 40 = .ok (.getfield 38, 3) := by decide +kernel
theorem dX12_tendedBy_43 : decode cX12_tendedBy 43 = .ok (.iload_n 1, 1) := by decide +kernel
theorem dX12_tendedBy_44 : decode cX12_tendedBy 44 = .ok (.iaload, 1) := by decide +kernel
theorem dX12_tendedBy_45 : decode cX12_tendedBy 45 = .ok (.iconst 1, 1) := by decide +kernel
theorem dX12_tendedBy_46 : decode cX12_tendedBy 46 = .ok (.isub, 1) := by decide +kernel
theorem dX12_tendedBy_47 : decode cX12_tendedBy 47 = .ok (.ireturn, 1) := by decide +kernel
theorem dX12_left_0 : decode cX12_left 0 = .ok (.aload_n 0, 1) := by decide +kernel
theorem dX12_left_1 : decode cX12_left 1 = .ok (.invokevirtual 165, 3) := by decide +kernel
theorem dX12_left_4 : decode cX12_left 4 = .ok (.aload_n 0, 1) := by decide +kernel
theorem dX12_left_5 : decode cX12_left 5 = .ok (.getfield 178, 3) := by decide +kernel
theorem dX12_left_8 : decode cX12_left 8 = .ok (.ifCond .ne 9, 3) := by decide +kernel
theorem dX12_left_11 : decode cX12_left 11 = .ok (.aload_n 0, 1) := by decide +kernel
theorem dX12_left_12 : decode cX12_left 12 = .ok (.iconst 1, 1) := by decide +kernel
theorem dX12_left_13 : decode cX12_left 13 = .ok (.invokevirtual 168, 3) := by decide +kernel
theorem dX12_left_16 : decode cX12_left 16 = .ok (.ireturn, 1) := by decide +kernel
theorem dX12_left_17 : decode cX12_left 17 = .ok (.aload_n 0, 1) := by decide +kernel
theorem dX12_left_18 : decode cX12_left 18 = .ok (.iconst (-1), 1) := by decide +kernel
theorem dX12_left_19 : decode cX12_left 19 = .ok (.iconst (-1), 1) := by decide +kernel
theorem dX12_left_20 : decode cX12_left 20 = .ok (.invokevirtual 306, 3) := by decide +kernel
theorem dX12_left_23 : decode cX12_left 23 = .ok (.pop, 1) := by decide +kernel
theorem dX12_left_24 : decode cX12_left 24 = .ok (.iconst 0, 1) := by decide +kernel
theorem dX12_left_25 : decode cX12_left 25 = .ok (.istore_n 1, 1) := by decide +kernel
theorem dX12_left_26 : decode cX12_left 26 = .ok (.iconst 0, 1) := by decide +kernel
theorem dX12_left_27 : decode cX12_left 27 = .ok (.istore_n 2, 1) := by decide +kernel
theorem dX12_left_28 : decode cX12_left 28 = .ok (.iload_n 2, 1) := by decide +kernel
theorem dX12_left_29 : decode cX12_left 29 = .ok (.aload_n 0, 1) := by decide +kernel
theorem dX12_left_30 : decode cX12_left 30 = .ok (.getfield 20, 3) := by decide +kernel
theorem dX12_left_33 : decode cX12_left 33 = .ok (.iconst 2, 1) := by decide +kernel
theorem dX12_left_34 : decode cX12_left 34 = .ok (.iaload, 1) := by decide +kernel
theorem dX12_left_35 : decode cX12_left 35 = .ok (.if_icmp .ge 28, 3) := by decide +kernel
theorem dX12_left_38 : decode cX12_left 38 = .ok (.iload_n 1, 1) := by decide +kernel
theorem dX12_left_39 : decode cX12_left 39 = .ok (.aload_n 0, 1) := by decide +kernel
theorem dX12_left_40 : decode cX12_left 40 = .ok (.getfield 38, 3) := by decide +kernel
theorem dX12_left_43 : decode cX12_left 43 = .ok (.iload_n 2, 1) := by decide +kernel
theorem dX12_left_44 : decode cX12_left 44 = .ok (.iaload, 1) := by decide +kernel
theorem dX12_left_45 : decode cX12_left 45 = .ok (.ifCond .ne 9, 3) := by decide +kernel
theorem dX12_left_48 : decode cX12_left 48 = .ok (.iconst 1, 1) := by decide +kernel
theorem dX12_left_49 : decode cX12_left 49 = .ok (.iload_n 2, 1) := by decide +kernel
theorem dX12_left_50 : decode cX12_left 50 = .ok (.ishl, 1) := by decide +kernel
theorem dX12_left_51 : decode cX12_left 51 = .ok (.goto 4, 3) := by decide +kernel
theorem dX12_left_54 : decode cX12_left 54 = .ok (.iconst 0, 1) := by decide +kernel
theorem dX12_left_55 : decode cX12_left 55 = .ok (.ior, 1) := by decide +kernel
theorem dX12_left_56 : decode cX12_left 56 = .ok (.istore_n 1, 1) := by decide +kernel
theorem dX12_left_57 : decode cX12_left 57 = .ok (.iinc 2 1, 3) := by decide +kernel
theorem dX12_left_60 : decode cX12_left 60 = .ok (.goto (-32), 3) := by decide +kernel
theorem dX12_left_63 : decode cX12_left 63 = .ok (.iload_n 1, 1) := by decide +kernel
theorem dX12_left_64 : decode cX12_left 64 = .ok (.ireturn, 1) := by decide +kernel
theorem dX12_worthOf_0 : decode cX12_worthOf 0 = .ok (.aload_n 0, 1) := by decide +kernel
theorem dX12_worthOf_1 : decode cX12_worthOf 1 = .ok (.invokevirtual 165, 3) := by decide +kernel
theorem dX12_worthOf_4 : decode cX12_worthOf 4 = .ok (.aload_n 0, 1) := by decide +kernel
theorem dX12_worthOf_5 : decode cX12_worthOf 5 = .ok (.iload_n 1, 1) := by decide +kernel
theorem dX12_worthOf_6 : decode cX12_worthOf 6 = .ok (.invokevirtual 281, 3) := by decide +kernel
theorem dX12_worthOf_9 : decode cX12_worthOf 9 = .ok (.ifCond .eq 19, 3) := by decide +kernel
theorem dX12_worthOf_12 : decode cX12_worthOf 12 = .ok (.aload_n 0, 1) := by decide +kernel
theorem dX12_worthOf_13 : decode cX12_worthOf 13 = .ok (.iconst (-1), 1) := by decide +kernel
theorem dX12_worthOf_14 : decode cX12_worthOf 14 = .ok (.iconst (-1), 1) := by decide +kernel
theorem dX12_worthOf_15 : decode cX12_worthOf 15 = .ok (.invokevirtual 306, 3) := by decide +kernel
theorem dX12_worthOf_18 : decode cX12_worthOf 18 = .ok (.aload_n 0, 1) := by decide +kernel
theorem dX12_worthOf_19 : decode cX12_worthOf 19 = .ok (.iload_n 1, 1) := by decide +kernel
theorem dX12_worthOf_20 : decode cX12_worthOf 20 = .ok (.iconst (-1), 1) := by decide +kernel
theorem dX12_worthOf_21 : decode cX12_worthOf 21 = .ok (.invokevirtual 306, 3) := by decide +kernel
theorem dX12_worthOf_24 : decode cX12_worthOf 24 = .ok (.isub, 1) := by decide +kernel
theorem dX12_worthOf_25 : decode cX12_worthOf 25 = .ok (.goto 8, 3) := by decide +kernel
theorem dX12_worthOf_28 : decode cX12_worthOf 28 = .ok (.aload_n 0, 1) := by decide +kernel
theorem dX12_worthOf_29 : decode cX12_worthOf 29 = .ok (.iconst 1, 1) := by decide +kernel
theorem dX12_worthOf_30 : decode cX12_worthOf 30 = .ok (.invokevirtual 168, 3) := by decide +kernel
theorem dX12_worthOf_33 : decode cX12_worthOf 33 = .ok (.ireturn, 1) := by decide +kernel
theorem dX12_bestHand_0 : decode cX12_bestHand 0 = .ok (.aload_n 0, 1) := by decide +kernel
theorem dX12_bestHand_1 : decode cX12_bestHand 1 = .ok (.invokevirtual 165, 3) := by decide +kernel
theorem dX12_bestHand_4 : decode cX12_bestHand 4 = .ok (.aload_n 0, 1) := by decide +kernel
theorem dX12_bestHand_5 : decode cX12_bestHand 5 = .ok (.getfield 178, 3) := by decide +kernel
theorem dX12_bestHand_8 : decode cX12_bestHand 8 = .ok (.ifCond .ne 9, 3) := by decide +kernel
theorem dX12_bestHand_11 : decode cX12_bestHand 11 = .ok (.aload_n 0, 1) := by decide +kernel
theorem dX12_bestHand_12 : decode cX12_bestHand 12 = .ok (.iconst 1, 1) := by decide +kernel
theorem dX12_bestHand_13 : decode cX12_bestHand 13 = .ok (.invokevirtual 168, 3) := by decide +kernel
theorem dX12_bestHand_16 : decode cX12_bestHand 16 = .ok (.ireturn, 1) := by decide +kernel
theorem dX12_bestHand_17 : decode cX12_bestHand 17 = .ok (.aload_n 0, 1) := by decide +kernel
theorem dX12_bestHand_18 : decode cX12_bestHand 18 = .ok (.iconst (-1), 1) := by decide +kernel
theorem dX12_bestHand_19 : decode cX12_bestHand 19 = .ok (.iconst (-1), 1) := by decide +kernel
theorem dX12_bestHand_20 : decode cX12_bestHand 20 = .ok (.invokevirtual 306, 3) := by decide +kernel
theorem dX12_bestHand_23 : decode cX12_bestHand 23 = .ok (.istore_n 1, 1) := by decide +kernel
theorem dX12_bestHand_24 : decode cX12_bestHand 24 = .ok (.bipush (-2), 2) := by decide +kernel
theorem dX12_bestHand_26 : decode cX12_bestHand 26 = .ok (.istore_n 2, 1) := by decide +kernel
theorem dX12_bestHand_27 : decode cX12_bestHand 27 = .ok (.iconst 0, 1) := by decide +kernel
theorem dX12_bestHand_28 : decode cX12_bestHand 28 = .ok (.istore_n 3, 1) := by decide +kernel
theorem dX12_bestHand_29 : decode cX12_bestHand 29 = .ok (.iload_n 3, 1) := by decide +kernel
theorem dX12_bestHand_30 : decode cX12_bestHand 30 = .ok (.aload_n 0, 1) := by decide +kernel
theorem dX12_bestHand_31 : decode cX12_bestHand 31 = .ok (.getfield 20, 3) := by decide +kernel
theorem dX12_bestHand_34 : decode cX12_bestHand 34 = .ok (.iconst 3, 1) := by decide +kernel
theorem dX12_bestHand_35 : decode cX12_bestHand 35 = .ok (.iaload, 1) := by decide +kernel
theorem dX12_bestHand_36 : decode cX12_bestHand 36 = .ok (.if_icmp .ge 31, 3) := by decide +kernel
theorem dX12_bestHand_39 : decode cX12_bestHand 39 = .ok (.aload_n 0, 1) := by decide +kernel
theorem dX12_bestHand_40 : decode cX12_bestHand 40 = .ok (.iconst (-1), 1) := by decide +kernel
theorem dX12_bestHand_41 : decode cX12_bestHand 41 = .ok (.iload_n 3, 1) := by decide +kernel
theorem dX12_bestHand_42 : decode cX12_bestHand 42 = .ok (.invokevirtual 306, 3) := by decide +kernel
theorem dX12_bestHand_45 : decode cX12_bestHand 45 = .ok (.istore 4, 2) := by decide +kernel
theorem dX12_bestHand_47 : decode cX12_bestHand 47 = .ok (.iload 4, 2) := by decide +kernel
theorem dX12_bestHand_49 : decode cX12_bestHand 49 = .ok (.iload_n 1, 1) := by decide +kernel
theorem dX12_bestHand_50 : decode cX12_bestHand 50 = .ok (.if_icmp .gt 6, 3) := by decide +kernel
theorem dX12_bestHand_53 : decode cX12_bestHand 53 = .ok (.goto 8, 3) := by decide +kernel
theorem dX12_bestHand_56 : decode cX12_bestHand 56 = .ok (.iload_n 3, 1) := by decide +kernel
theorem dX12_bestHand_57 : decode cX12_bestHand 57 = .ok (.istore_n 2, 1) := by decide +kernel
theorem dX12_bestHand_58 : decode cX12_bestHand 58 = .ok (.iload 4, 2) := by decide +kernel
theorem dX12_bestHand_60 : decode cX12_bestHand 60 = .ok (.istore_n 1, 1) := by decide +kernel
theorem dX12_bestHand_61 : decode cX12_bestHand 61 = .ok (.iinc 3 1, 3) := by decide +kernel
theorem dX12_bestHand_64 : decode cX12_bestHand 64 = .ok (.goto (-35), 3) := by decide +kernel
theorem dX12_bestHand_67 : decode cX12_bestHand 67 = .ok (.iload_n 2, 1) := by decide +kernel
theorem dX12_bestHand_68 : decode cX12_bestHand 68 = .ok (.ireturn, 1) := by decide +kernel
theorem dX12_oddsOf_0 : decode cX12_oddsOf 0 = .ok (.aload_n 0, 1) := by decide +kernel
theorem dX12_oddsOf_1 : decode cX12_oddsOf 1 = .ok (.getfield 20, 3) := by decide +kernel
theorem dX12_oddsOf_4 : decode cX12_oddsOf 4 = .ok (.bipush 38, 2) := by decide +kernel
theorem dX12_oddsOf_6 : decode cX12_oddsOf 6 = .ok (.iconst 3, 1) := by decide +kernel
theorem dX12_oddsOf_7 : decode cX12_oddsOf 7 = .ok (.iload_n 1, 1) := by decide +kernel
theorem dX12_oddsOf_8 : decode cX12_oddsOf 8 = .ok (.imul, 1) := by decide +kernel
theorem dX12_oddsOf_9 : decode cX12_oddsOf 9 = .ok (.iadd, 1) := by decide +kernel
theorem dX12_oddsOf_10 : decode cX12_oddsOf 10 = .ok (.iaload, 1) := by decide +kernel
theorem dX12_oddsOf_11 : decode cX12_oddsOf 11 = .ok (.ireturn, 1) := by decide +kernel
theorem dX12_minutesOf_0 : decode cX12_minutesOf 0 = .ok (.aload_n 0, 1) := by decide +kernel
theorem dX12_minutesOf_1 : decode cX12_minutesOf 1 = .ok (.getfield 20, 3) := by decide +kernel
theorem dX12_minutesOf_4 : decode cX12_minutesOf 4 = .ok (.bipush 38, 2) := by decide +kernel
theorem dX12_minutesOf_6 : decode cX12_minutesOf 6 = .ok (.iconst 3, 1) := by decide +kernel
theorem dX12_minutesOf_7 : decode cX12_minutesOf 7 = .ok (.iload_n 1, 1) := by decide +kernel
theorem dX12_minutesOf_8 : decode cX12_minutesOf 8 = .ok (.imul, 1) := by decide +kernel
theorem dX12_minutesOf_9 : decode cX12_minutesOf 9 = .ok (.iadd, 1) := by decide +kernel
theorem dX12_minutesOf_10 : decode cX12_minutesOf 10 = .ok (.iconst 1, 1) := by decide +kernel
theorem dX12_minutesOf_11 : decode cX12_minutesOf 11 = .ok (.iadd, 1) := by decide +kernel
theorem dX12_minutesOf_12 : decode cX12_minutesOf 12 = .ok (.iaload, 1) := by decide +kernel
theorem dX12_minutesOf_13 : decode cX12_minutesOf 13 = .ok (.ireturn, 1) := by decide +kernel
theorem dX12_unsaid_0 : decode cX12_unsaid 0 = .ok (.aload_n 0, 1) := by decide +kernel
theorem dX12_unsaid_1 : decode cX12_unsaid 1 = .ok (.getfield 26, 3) := by decide +kernel
theorem dX12_unsaid_4 : decode cX12_unsaid 4 = .ok (.bipush 14, 2) := by decide +kernel
theorem dX12_unsaid_6 : decode cX12_unsaid 6 = .ok (.iaload, 1) := by decide +kernel
theorem dX12_unsaid_7 : decode cX12_unsaid 7 = .ok (.iconst (-1), 1) := by decide +kernel
theorem dX12_unsaid_8 : decode cX12_unsaid 8 = .ok (.ixor, 1) := by decide +kernel
theorem dX12_unsaid_9 : decode cX12_unsaid 9 = .ok (.iconst 1, 1) := by decide +kernel
theorem dX12_unsaid_10 : decode cX12_unsaid 10 = .ok (.aload_n 0, 1) := by decide +kernel
theorem dX12_unsaid_11 : decode cX12_unsaid 11 = .ok (.getfield 20, 3) := by decide +kernel
theorem dX12_unsaid_14 : decode cX12_unsaid 14 = .ok (.iconst 4, 1) := by decide +kernel
theorem dX12_unsaid_15 : decode cX12_unsaid 15 = .ok (.iaload, 1) := by decide +kernel
theorem dX12_unsaid_16 : decode cX12_unsaid 16 = .ok (.ishl, 1) := by decide +kernel
theorem dX12_unsaid_17 : decode cX12_unsaid 17 = .ok (.iconst 1, 1) := by decide +kernel
theorem dX12_unsaid_18 : decode cX12_unsaid 18 = .ok (.isub, 1) := by decide +kernel
theorem dX12_unsaid_19 : decode cX12_unsaid 19 = .ok (.iand, 1) := by decide +kernel
theorem dX12_unsaid_20 : decode cX12_unsaid 20 = .ok (.ireturn, 1) := by decide +kernel
theorem dX12_oddsIn_0 : decode cX12_oddsIn 0 = .ok (.iconst 0, 1) := by decide +kernel
theorem dX12_oddsIn_1 : decode cX12_oddsIn 1 = .ok (.istore_n 2, 1) := by decide +kernel
theorem dX12_oddsIn_2 : decode cX12_oddsIn 2 = .ok (.iconst 0, 1) := by decide +kernel
theorem dX12_oddsIn_3 : decode cX12_oddsIn 3 = .ok (.istore_n 3, 1) := by decide +kernel
theorem dX12_oddsIn_4 : decode cX12_oddsIn 4 = .ok (.iload_n 3, 1) := by decide +kernel
theorem dX12_oddsIn_5 : decode cX12_oddsIn 5 = .ok (.aload_n 0, 1) := by decide +kernel
theorem dX12_oddsIn_6 : decode cX12_oddsIn 6 = .ok (.getfield 20, 3) := by decide +kernel
theorem dX12_oddsIn_9 : decode cX12_oddsIn 9 = .ok (.iconst 4, 1) := by decide +kernel
theorem dX12_oddsIn_10 : decode cX12_oddsIn 10 = .ok (.iaload, 1) := by decide +kernel
theorem dX12_oddsIn_11 : decode cX12_oddsIn 11 = .ok (.if_icmp .ge 29, 3) := by decide +kernel
theorem dX12_oddsIn_14 : decode cX12_oddsIn 14 = .ok (.iload_n 2, 1) := by decide +kernel
theorem dX12_oddsIn_15 : decode cX12_oddsIn 15 = .ok (.iload_n 1, 1) := by decide +kernel
theorem dX12_oddsIn_16 : decode cX12_oddsIn 16 = .ok (.iload_n 3, 1) := by decide +kernel
theorem dX12_oddsIn_17 : decode cX12_oddsIn 17 = .ok (.invokestatic 241, 3) := by decide +kernel
theorem dX12_oddsIn_20 : decode cX12_oddsIn 20 = .ok (.ifCond .eq 11, 3) := by decide +kernel
theorem dX12_oddsIn_23 : decode cX12_oddsIn 23 = .ok (.aload_n 0, 1) := by decide +kernel
theorem dX12_oddsIn_24 : decode cX12_oddsIn 24 = .ok (.iload_n 3, 1) := by decide +kernel
theorem dX12_oddsIn_25 : decode cX12_oddsIn 25 = .ok (.invokevirtual 309, 3) := by decide +kernel
theorem dX12_oddsIn_28 : decode cX12_oddsIn 28 = .ok (.goto 4, 3) := by decide +kernel
theorem dX12_oddsIn_31 : decode cX12_oddsIn 31 = .ok (.iconst 0, 1) := by decide +kernel
theorem dX12_oddsIn_32 : decode cX12_oddsIn 32 = .ok (.iadd, 1) := by decide +kernel
theorem dX12_oddsIn_33 : decode cX12_oddsIn 33 = .ok (.istore_n 2, 1) := by decide +kernel
theorem dX12_oddsIn_34 : decode cX12_oddsIn 34 = .ok (.iinc 3 1, 3) := by decide +kernel
theorem dX12_oddsIn_37 : decode cX12_oddsIn 37 = .ok (.goto (-33), 3) := by decide +kernel
theorem dX12_oddsIn_40 : decode cX12_oddsIn 40 = .ok (.iload_n 2, 1) := by decide +kernel
theorem dX12_oddsIn_41 : decode cX12_oddsIn 41 = .ok (.ireturn, 1) := by decide +kernel
theorem dX12_word_0 : decode cX12_word 0 = .ok (.aload_n 0, 1) := by decide +kernel
theorem dX12_word_1 : decode cX12_word 1 = .ok (.invokevirtual 165, 3) := by decide +kernel
theorem dX12_word_4 : decode cX12_word 4 = .ok (.aload_n 0, 1) := by decide +kernel
theorem dX12_word_5 : decode cX12_word 5 = .ok (.iload_n 1, 1) := by decide +kernel
theorem dX12_word_6 : decode cX12_word 6 = .ok (.invokevirtual 312, 3) := by decide +kernel
theorem dX12_word_9 : decode cX12_word 9 = .ok (.ifCond .eq 12, 3) := by decide +kernel
theorem dX12_word_12 : decode cX12_word 12 = .ok (.iload_n 2, 1) := by decide +kernel
theorem dX12_word_13 : decode cX12_word 13 = .ok (.iconst 0, 1) := by decide +kernel
theorem dX12_word_14 : decode cX12_word 14 = .ok (.iconst 3, 1) := by decide +kernel
theorem dX12_word_15 : decode cX12_word 15 = .ok (.invokestatic 146, 3) := by decide +kernel
theorem dX12_word_18 : decode cX12_word 18 = .ok (.ifCond .ne 9, 3) := by decide +kernel
theorem dX12_word_21 : decode cX12_word 21 = .ok (.aload_n 0, 1) := by decide +kernel
theorem dX12_word_22 : decode cX12_word 22 = .ok (.iconst 1, 1) := by decide +kernel
theorem dX12_word_23 : decode cX12_word 23 = .ok (.invokevirtual 168, 3) := by decide +kernel
theorem dX12_word_26 : decode cX12_word 26 = .ok (.ireturn, 1) := by decide +kernel
theorem dX12_word_27 : decode cX12_word 27 = .ok (.iload_n 2, 1) := by decide +kernel
theorem dX12_word_28 : decode cX12_word 28 = .ok (.iconst 2, 1) := by decide +kernel
theorem dX12_word_29 : decode cX12_word 29 = .ok (.if_icmp .ge 19, 3) := by decide +kernel
theorem dX12_word_32 : decode cX12_word 32 = .ok (.aload_n 0, 1) := by decide +kernel
theorem dX12_word_33 : decode cX12_word 33 = .ok (.getfield 20, 3) := by decide +kernel
theorem dX12_word_36 : decode cX12_word 36 = .ok (.bipush 38, 2) := by decide +kernel
theorem dX12_word_38 : decode cX12_word 38 = .ok (.iconst 3, 1) := by decide +kernel
theorem dX12_word_39 : decode cX12_word 39 = .ok (.iload_n 1, 1) := by decide +kernel
theorem dX12_word_40 : decode cX12_word 40 = .ok (.imul, 1) := by decide +kernel
theorem dX12_word_41 : decode cX12_word 41 = .ok (.iadd, 1) := by decide +kernel
theorem dX12_word_42 : decode cX12_word 42 = .ok (.iload_n 2, 1) := by decide +kernel
theorem dX12_word_43 : decode cX12_word 43 = .ok (.iadd, 1) := by decide +kernel
theorem dX12_word_44 : decode cX12_word 44 = .ok (.iaload, 1) := by decide +kernel
theorem dX12_word_45 : decode cX12_word 45 = .ok (.goto 30, 3) := by decide +kernel
theorem dX12_word_48 : decode cX12_word 48 = .ok (.iload_n 2, 1) := by decide +kernel
theorem dX12_word_49 : decode cX12_word 49 = .ok (.iconst 2, 1) := by decide +kernel
theorem dX12_word_50 : decode cX12_word 50 = .ok (.if_icmp .ne 17, 3) := by decide +kernel
theorem dX12_word_53 : decode cX12_word 53 = .ok (.aload_n 0, 1) := by decide +kernel
theorem dX12_word_54 : decode cX12_word 54 = .ok (.getfield 26, 3) := by decide +kernel
theorem dX12_word_57 : decode cX12_word 57 = .ok (.bipush 14, 2) := by decide +kernel
theorem dX12_word_59 : decode cX12_word 59 = .ok (.iaload, 1) := by decide +kernel
theorem dX12_word_60 : decode cX12_word 60 = .ok (.iload_n 1, 1) := by decide +kernel
theorem dX12_word_61 : decode cX12_word 61 = .ok (.ishr, 1) := by decide +kernel
theorem dX12_word_62 : decode cX12_word 62 = .ok (.iconst 1, 1) := by decide +kernel
theorem dX12_word_63 : decode cX12_word 63 = .ok (.iand, 1) := by decide +kernel
theorem dX12_word_64 : decode cX12_word 64 = .ok (.goto 11, 3) := by decide +kernel
theorem dX12_word_67 : decode cX12_word 67 = .ok (.aload_n 0, 1) := by decide +kernel
theorem dX12_word_68 : decode cX12_word 68 = .ok (.getfield 20, 3) := by decide +kernel
theorem dX12_word_71 : decode cX12_word 71 = .ok (.iload_n 1, 1) := by decide +kernel
theorem dX12_word_72 : decode cX12_word 72 = .ok (.invokestatic 248, 3) := by decide +kernel
theorem dX12_word_75 : decode cX12_word 75 = .ok (.ireturn, 1) := by decide +kernel
theorem dX12_chance_0 : decode cX12_chance 0 = .ok (.aload_n 0, 1) := by decide +kernel
theorem dX12_chance_1 : decode cX12_chance 1 = .ok (.invokevirtual 165, 3) := by decide +kernel
theorem dX12_chance_4 : decode cX12_chance 4 = .ok (.aload_n 0, 1) := by decide +kernel
theorem dX12_chance_5 : decode cX12_chance 5 = .ok (.iload_n 1, 1) := by decide +kernel
theorem dX12_chance_6 : decode cX12_chance 6 = .ok (.invokevirtual 312, 3) := by decide +kernel
theorem dX12_chance_9 : decode cX12_chance 9 = .ok (.ifCond .ne 10, 3) := by decide +kernel
theorem dX12_chance_12 : decode cX12_chance 12 = .ok (.aload_n 0, 1) := by decide +kernel
theorem dX12_chance_13 : decode cX12_chance 13 = .ok (.iconst 1, 1) := by decide +kernel
theorem dX12_chance_14 : decode cX12_chance 14 = .ok (.invokevirtual 168, 3) := by decide +kernel
theorem dX12_chance_17 : decode cX12_chance 17 = .ok (.i2l, 1) := by decide +kernel
theorem dX12_chance_18 : decode cX12_chance 18 = .ok (.lreturn, 1) := by decide +kernel
theorem dX12_chance_19 : decode cX12_chance 19 = .ok (.aload_n 0, 1) := by decide +kernel
theorem dX12_chance_20 : decode cX12_chance 20 = .ok (.getfield 26, 3) := by decide +kernel
theorem dX12_chance_23 : decode cX12_chance 23 = .ok (.bipush 16, 2) := by decide +kernel
theorem dX12_chance_25 : decode cX12_chance 25 = .ok (.iaload, 1) := by decide +kernel
theorem dX12_chance_26 : decode cX12_chance 26 = .ok (.ifCond .gt 17, 3) := by decide +kernel
theorem dX12_chance_29 : decode cX12_chance 29 = .ok (.aload_n 0, 1) := by decide +kernel
theorem dX12_chance_30 : decode cX12_chance 30 = .ok (.getfield 26, 3) := by decide +kernel
theorem dX12_chance_33 : decode cX12_chance 33 = .ok (.bipush 14, 2) := by decide +kernel
theorem dX12_chance_35 : decode cX12_chance 35 = .ok (.iaload, 1) := by decide +kernel
theorem dX12_chance_36 : decode cX12_chance 36 = .ok (.iload_n 1, 1) := by decide +kernel
theorem dX12_chance_37 : decode cX12_chance 37 = .ok (.invokestatic 241, 3) := by decide +kernel
theorem dX12_chance_40 : decode cX12_chance 40 = .ok (.ifCond .eq 12, 3) := by decide +kernel
theorem dX12_chance_43 : decode cX12_chance 43 = .ok (.lconst 0, 1) := by decide +kernel
theorem dX12_chance_44 : decode cX12_chance 44 = .ok (.lconst 1, 1) := by decide +kernel
theorem dX12_chance_45 : decode cX12_chance 45 = .ok (.iload_n 2, 1) := by decide +kernel
theorem dX12_chance_46 : decode cX12_chance 46 = .ok (.invokestatic 315, 3) := by decide +kernel
theorem dX12_chance_49 : decode cX12_chance 49 = .ok (.goto 22, 3) := by decide +kernel
theorem dX12_chance_52 : decode cX12_chance 52 = .ok (.aload_n 0, 1) := by decide +kernel
theorem dX12_chance_53 : decode cX12_chance 53 = .ok (.iload_n 1, 1) := by decide +kernel
theorem dX12_chance_54 : decode cX12_chance 54 = .ok (.invokevirtual 309, 3) := by decide +kernel
theorem dX12_chance_57 : decode cX12_chance 57 = .ok (.i2l, 1) := by decide +kernel
theorem dX12_chance_58 : decode cX12_chance 58 = .ok (.aload_n 0, 1) := by decide +kernel
theorem dX12_chance_59 : decode cX12_chance 59 = .ok (.aload_n 0, 1) := by decide +kernel
theorem dX12_chance_60 : decode cX12_chance 60 = .ok (.invokevirtual 319, 3) := by decide +kernel
theorem dX12_chance_63 : decode cX12_chance 63 = .ok (.invokevirtual 322, 3) := by decide +kernel
theorem dX12_chance_66 : decode cX12_chance 66 = .ok (.i2l, 1) := by decide +kernel
theorem dX12_chance_67 : decode cX12_chance 67 = .ok (.iload_n 2, 1) := by decide +kernel
theorem dX12_chance_68 : decode cX12_chance 68 = .ok (.invokestatic 315, 3) := by decide +kernel
theorem dX12_chance_71 : decode cX12_chance 71 = .ok (.lreturn, 1) := by decide +kernel
theorem dX12_tryRows_0 : decode cX12_tryRows 0 = .ok (.iconst 0, 1) := by decide +kernel
theorem dX12_tryRows_1 : decode cX12_tryRows 1 = .ok (.istore 5, 2) := by decide +kernel
theorem dX12_tryRows_3 : decode cX12_tryRows 3 = .ok (.iconst 0, 1) := by decide +kernel
theorem dX12_tryRows_4 : decode cX12_tryRows 4 = .ok (.istore 6, 2) := by decide +kernel
theorem dX12_tryRows_6 : decode cX12_tryRows 6 = .ok (.iload 6, 2) := by decide +kernel
theorem dX12_tryRows_8 : decode cX12_tryRows 8 = .ok (.aload_n 0, 1) := by decide +kernel
theorem dX12_tryRows_9 : decode cX12_tryRows 9 = .ok (.getfield 20, 3) := by decide +kernel
theorem dX12_tryRows_12 : decode cX12_tryRows 12 = .ok (.iconst 4, 1) := by decide +kernel
theorem dX12_tryRows_13 : decode cX12_tryRows 13 = .ok (.iaload, 1) := by decide +kernel
theorem dX12_tryRows_14 : decode cX12_tryRows 14 = .ok (.if_icmp .ge 85, 3) := by decide +kernel
theorem dX12_tryRows_17 : decode cX12_tryRows 17 = .ok (.iload_n 2, 1) := by decide +kernel
theorem dX12_tryRows_18 : decode cX12_tryRows 18 = .ok (.iload 6, 2) := by decide +kernel
theorem dX12_tryRows_20 : decode cX12_tryRows 20 = .ok (.invokestatic 241, 3) := by decide +kernel
theorem dX12_tryRows_23 : decode cX12_tryRows 23 = .ok (.ifCond .ne 70, 3) := by decide +kernel
theorem dX12_tryRows_26 : decode cX12_tryRows 26 = .ok (.aload_n 0, 1) := by decide +kernel
theorem dX12_tryRows_27 : decode cX12_tryRows 27 = .ok (.getfield 20, 3) := by decide +kernel
theorem dX12_tryRows_30 : decode cX12_tryRows 30 = .ok (.iload 6, 2) := by decide +kernel
theorem dX12_tryRows_32 : decode cX12_tryRows 32 = .ok (.invokestatic 248, 3) := by decide +kernel
theorem dX12_tryRows_35 : decode cX12_tryRows 35 = .ok (.iload_n 2, 1) := by decide +kernel
theorem dX12_tryRows_36 : decode cX12_tryRows 36 = .ok (.iconst (-1), 1) := by decide +kernel
theorem dX12_tryRows_37 : decode cX12_tryRows 37 = .ok (.ixor, 1) := by decide +kernel
theorem dX12_tryRows_38 : decode cX12_tryRows 38 = .ok (.iand, 1) := by decide +kernel
theorem dX12_tryRows_39 : decode cX12_tryRows 39 = .ok (.ifCond .eq 6, 3) := by decide +kernel
theorem dX12_tryRows_42 : decode cX12_tryRows 42 = .ok (.goto 51, 3) := by decide +kernel
theorem dX12_tryRows_45 : decode cX12_tryRows 45 = .ok (.iconst 1, 1) := by decide +kernel
theorem dX12_tryRows_46 : decode cX12_tryRows 46 = .ok (.istore 5, 2) := by decide +kernel
theorem dX12_tryRows_48 : decode cX12_tryRows 48 = .ok (.aload_n 0, 1) := by decide +kernel
theorem dX12_tryRows_49 : decode cX12_tryRows 49 = .ok (.getfield 44, 3) := by decide +kernel
theorem dX12_tryRows_52 : decode cX12_tryRows 52 = .ok (.iload_n 1, 1) := by decide +kernel
theorem dX12_tryRows_53 : decode cX12_tryRows 53 = .ok (.iload 6, 2) := by decide +kernel
theorem dX12_tryRows_55 : decode cX12_tryRows 55 = .ok (.iastore, 1) := by decide +kernel
theorem dX12_tryRows_56 : decode cX12_tryRows 56 = .ok (.iload_n 3, 1) := by decide +kernel
theorem dX12_tryRows_57 : decode cX12_tryRows 57 = .ok (.aload_n 0, 1) := by decide +kernel
theorem dX12_tryRows_58 : decode cX12_tryRows 58 = .ok (.iload 6, 2) := by decide +kernel
theorem dX12_tryRows_60 : decode cX12_tryRows 60 = .ok (.invokevirtual 325, 3) := by decide +kernel
theorem dX12_tryRows_63 : decode cX12_tryRows 63 = .ok (.iadd, 1) := by decide +kernel
theorem dX12_tryRows_64 : decode cX12_tryRows 64 = .ok (.istore 7, 2) := by decide +kernel
theorem dX12_tryRows_66 : decode cX12_tryRows 66 = .ok (.aload_n 0, 1) := by decide +kernel
theorem dX12_tryRows_67 : decode cX12_tryRows 67 = .ok (.iload_n 1, 1) := by decide +kernel
theorem dX12_tryRows_68 : decode cX12_tryRows 68 = .ok (.iconst 1, 1) := by decide +kernel
theorem dX12_tryRows_69 : decode cX12_tryRows 69 = .ok (.iadd, 1) := by decide +kernel
theorem dX12_tryRows_70 : decode cX12_tryRows 70 = .ok (.iload_n 2, 1) := by decide +kernel
theorem dX12_tryRows_71 : decode cX12_tryRows 71 = .ok (.iconst 1, 1) := by decide +kernel
theorem dX12_tryRows_72 : decode cX12_tryRows 72 = .ok (.iload 6, 2) := by decide +kernel
theorem dX12_tryRows_74 : decode cX12_tryRows 74 = .ok (.ishl, 1) := by decide +kernel
theorem dX12_tryRows_75 : decode cX12_tryRows 75 = .ok (.ior, 1) := by decide +kernel
theorem dX12_tryRows_76 : decode cX12_tryRows 76 = .ok (.iload 7, 2) := by decide +kernel
theorem dX12_tryRows_78 : decode cX12_tryRows 78 = .ok (.iload 4, 2) := by decide +kernel
theorem dX12_tryRows_80 : decode cX12_tryRows 80 = .ok (.iload 7, 2) := by decide +kernel
theorem dX12_tryRows_82 : decode cX12_tryRows 82 = .ok (.aload_n 0, 1) := by decide +kernel
theorem dX12_tryRows_83 : decode cX12_tryRows 83 = .ok (.iload 6, 2) := by decide +kernel
theorem dX12_tryRows_85 : decode cX12_tryRows 85 = .ok (.invokevirtual 309, 3) := by decide +kernel
theorem dX12_tryRows_88 : decode cX12_tryRows 88 = .ok (.imul, 1) := by decide +kernel
theorem dX12_tryRows_89 : decode cX12_tryRows 89 = .ok (.iadd, 1) := by decide +kernel
theorem dX12_tryRows_90 : decode cX12_tryRows 90 = .ok (.invokevirtual 328, 3) := by decide +kernel
theorem dX12_tryRows_93 : decode cX12_tryRows 93 = .ok (.iinc 6 1, 3) := by decide +kernel
theorem dX12_tryRows_96 : decode cX12_tryRows 96 = .ok (.goto (-90), 3) := by decide +kernel
theorem dX12_tryRows_99 : decode cX12_tryRows 99 = .ok (.iload 5, 2) := by decide +kernel
theorem dX12_tryRows_101 : decode cX12_tryRows 101 = .ok (.ifCond .eq 4, 3) := by decide +kernel
theorem dX12_tryRows_104 : decode cX12_tryRows 104 = .ok (.return_, 1) := by decide +kernel
theorem dX12_tryRows_105 : decode cX12_tryRows 105 = .ok (.aload_n 0, 1) := by decide +kernel
theorem dX12_tryRows_106 : decode cX12_tryRows 106 = .ok (.dup, 1) := by decide +kernel
theorem dX12_tryRows_107 : decode cX12_tryRows 107 = .ok (.getfield 332, 3) := by decide +kernel
theorem dX12_tryRows_110 : decode cX12_tryRows 110 = .ok (.iconst 1, 1) := by decide +kernel
theorem dX12_tryRows_111 : decode cX12_tryRows 111 = .ok (.iadd, 1) := by decide +kernel
theorem dX12_tryRows_112 : decode cX12_tryRows 112 = .ok (.putfield 332, 3) := by decide +kernel
theorem dX12_tryRows_115 : decode cX12_tryRows 115 = .ok (.iload 4, 2) := by decide +kernel
theorem dX12_tryRows_117 : decode cX12_tryRows 117 = .ok (.aload_n 0, 1) := by decide +kernel
theorem dX12_tryRows_118 : decode cX12_tryRows 118 = .ok (.getfield 335, 3) := by decide +kernel
theorem dX12_tryRows_121 : decode cX12_tryRows 121 = .ok (.if_icmp .lt 4, 3) := by decide +kernel
theorem dX12_tryRows_124 : decode cX12_tryRows 124 = .ok (.return_, 1) := by decide +kernel
theorem dX12_tryRows_125 : decode cX12_tryRows 125 = .ok (.aload_n 0, 1) := by decide +kernel
theorem dX12_tryRows_126 : decode cX12_tryRows 126 = .ok (.iload 4, 2) := by decide +kernel
theorem dX12_tryRows_128 : decode cX12_tryRows 128 = .ok (.putfield 335, 3) := by decide +kernel
theorem dX12_tryRows_131 : decode cX12_tryRows 131 = .ok (.aload_n 0, 1) := by decide +kernel
theorem dX12_tryRows_132 : decode cX12_tryRows 132 = .ok (.getfield 44, 3) := by decide +kernel
theorem dX12_tryRows_135 : decode cX12_tryRows 135 = .ok (.iconst 0, 1) := by decide +kernel
theorem dX12_tryRows_136 : decode cX12_tryRows 136 = .ok (.aload_n 0, 1) := by decide +kernel
theorem dX12_tryRows_137 : decode cX12_tryRows 137 = .ok (.getfield 47, 3) := by decide +kernel
theorem dX12_tryRows_140 : decode cX12_tryRows 140 = .ok (.iconst 0, 1) := by decide +kernel
theorem dX12_tryRows_141 : decode cX12_tryRows 141 = .ok (.bipush 7, 2) := by decide +kernel
theorem dX12_tryRows_143 : decode cX12_tryRows 143 = .ok (.invokestatic 174, 3) := by decide +kernel
theorem dX12_tryRows_146 : decode cX12_tryRows 146 = .ok (.return_, 1) := by decide +kernel
theorem dX12_seekRows_0 : decode cX12_seekRows 0 = .ok (.aload_n 0, 1) := by decide +kernel
theorem dX12_seekRows_1 : decode cX12_seekRows 1 = .ok (.ldc_w 338, 3) := by decide +kernel
theorem dX12_seekRows_4 : decode cX12_seekRows 4 = .ok (.putfield 335, 3) := by decide +kernel
theorem dX12_seekRows_7 : decode cX12_seekRows 7 = .ok (.aload_n 0, 1) := by decide +kernel
theorem dX12_seekRows_8 : decode cX12_seekRows 8 = .ok (.iconst 0, 1) := by decide +kernel
theorem dX12_seekRows_9 : decode cX12_seekRows 9 = .ok (.putfield 332, 3) := by decide +kernel
theorem dX12_seekRows_12 : decode cX12_seekRows 12 = .ok (.aload_n 0, 1) := by decide +kernel
theorem dX12_seekRows_13 : decode cX12_seekRows 13 = .ok (.iconst 0, 1) := by decide +kernel
theorem dX12_seekRows_14 : decode cX12_seekRows 14 = .ok (.aload_n 0, 1) := by decide +kernel
theorem dX12_seekRows_15 : decode cX12_seekRows 15 = .ok (.getfield 26, 3) := by decide +kernel
theorem dX12_seekRows_18 : decode cX12_seekRows 18 = .ok (.bipush 14, 2) := by decide +kernel
theorem dX12_seekRows_20 : decode cX12_seekRows 20 = .ok (.iaload, 1) := by decide +kernel
theorem dX12_seekRows_21 : decode cX12_seekRows 21 = .ok (.iconst 0, 1) := by decide +kernel
theorem dX12_seekRows_22 : decode cX12_seekRows 22 = .ok (.iconst 0, 1) := by decide +kernel
theorem dX12_seekRows_23 : decode cX12_seekRows 23 = .ok (.invokevirtual 328, 3) := by decide +kernel
theorem dX12_seekRows_26 : decode cX12_seekRows 26 = .ok (.return_, 1) := by decide +kernel
theorem dX12_isOver_0 : decode cX12_isOver 0 = .ok (.aload_n 0, 1) := by decide +kernel
theorem dX12_isOver_1 : decode cX12_isOver 1 = .ok (.getfield 26, 3) := by decide +kernel
theorem dX12_isOver_4 : decode cX12_isOver 4 = .ok (.bipush 16, 2) := by decide +kernel
theorem dX12_isOver_6 : decode cX12_isOver 6 = .ok (.iaload, 1) := by decide +kernel
theorem dX12_isOver_7 : decode cX12_isOver 7 = .ok (.ifCond .gt 10, 3) := by decide +kernel
theorem dX12_isOver_10 : decode cX12_isOver 10 = .ok (.aload_n 0, 1) := by decide +kernel
theorem dX12_isOver_11 : decode cX12_isOver 11 = .ok (.invokevirtual 319, 3) := by decide +kernel
theorem dX12_isOver_14 : decode cX12_isOver 14 = .ok (.ifCond .ne 7, 3) := by decide +kernel
theorem dX12_isOver_17 : decode cX12_isOver 17 = .ok (.iconst 1, 1) := by decide +kernel
theorem dX12_isOver_18 : decode cX12_isOver 18 = .ok (.goto 4, 3) := by decide +kernel
theorem dX12_isOver_21 : decode cX12_isOver 21 = .ok (.iconst 0, 1) := by decide +kernel
theorem dX12_isOver_22 : decode cX12_isOver 22 = .ok (.ireturn, 1) := by decide +kernel
theorem dX12_mean_0 : decode cX12_mean 0 = .ok (.aload_n 0, 1) := by decide +kernel
theorem dX12_mean_1 : decode cX12_mean 1 = .ok (.invokevirtual 165, 3) := by decide +kernel
theorem dX12_mean_4 : decode cX12_mean 4 = .ok (.aload_n 0, 1) := by decide +kernel
theorem dX12_mean_5 : decode cX12_mean 5 = .ok (.getfield 178, 3) := by decide +kernel
theorem dX12_mean_8 : decode cX12_mean 8 = .ok (.ifCond .ne 10, 3) := by decide +kernel
theorem dX12_mean_11 : decode cX12_mean 11 = .ok (.aload_n 0, 1) := by decide +kernel
theorem dX12_mean_12 : decode cX12_mean 12 = .ok (.iconst 1, 1) := by decide +kernel
theorem dX12_mean_13 : decode cX12_mean 13 = .ok (.invokevirtual 168, 3) := by decide +kernel
theorem dX12_mean_16 : decode cX12_mean 16 = .ok (.i2l, 1) := by decide +kernel
theorem dX12_mean_17 : decode cX12_mean 17 = .ok (.lreturn, 1) := by decide +kernel
theorem dX12_mean_18 : decode cX12_mean 18 = .ok (.aload_n 0, 1) := by decide +kernel
theorem dX12_mean_19 : decode cX12_mean 19 = .ok (.invokevirtual 339, 3) := by decide +kernel
theorem dX12_mean_22 : decode cX12_mean 22 = .ok (.ifCond .eq 10, 3) := by decide +kernel
theorem dX12_mean_25 : decode cX12_mean 25 = .ok (.lconst 0, 1) := by decide +kernel
theorem dX12_mean_26 : decode cX12_mean 26 = .ok (.lconst 1, 1) := by decide +kernel
theorem dX12_mean_27 : decode cX12_mean 27 = .ok (.iload_n 1, 1) := by decide +kernel
theorem dX12_mean_28 : decode cX12_mean 28 = .ok (.invokestatic 315, 3) := by decide +kernel
theorem dX12_mean_31 : decode cX12_mean 31 = .ok (.lreturn, 1) := by decide +kernel
theorem dX12_mean_32 : decode cX12_mean 32 = .ok (.aload_n 0, 1) := by decide +kernel
theorem dX12_mean_33 : decode cX12_mean 33 = .ok (.invokevirtual 343, 3) := by decide +kernel
theorem dX12_mean_36 : decode cX12_mean 36 = .ok (.aload_n 0, 1) := by decide +kernel
theorem dX12_mean_37 : decode cX12_mean 37 = .ok (.getfield 335, 3) := by decide +kernel
theorem dX12_mean_40 : decode cX12_mean 40 = .ok (.i2l, 1) := by decide +kernel
theorem dX12_mean_41 : decode cX12_mean 41 = .ok (.aload_n 0, 1) := by decide +kernel
theorem dX12_mean_42 : decode cX12_mean 42 = .ok (.aload_n 0, 1) := by decide +kernel
theorem dX12_mean_43 : decode cX12_mean 43 = .ok (.invokevirtual 319, 3) := by decide +kernel
theorem dX12_mean_46 : decode cX12_mean 46 = .ok (.invokevirtual 322, 3) := by decide +kernel
theorem dX12_mean_49 : decode cX12_mean 49 = .ok (.i2l, 1) := by decide +kernel
theorem dX12_mean_50 : decode cX12_mean 50 = .ok (.iload_n 1, 1) := by decide +kernel
theorem dX12_mean_51 : decode cX12_mean 51 = .ok (.invokestatic 315, 3) := by decide +kernel
theorem dX12_mean_54 : decode cX12_mean 54 = .ok (.lreturn, 1) := by decide +kernel
theorem dX12_searchAt_0 : decode cX12_searchAt 0 = .ok (.aload_n 0, 1) := by decide +kernel
theorem dX12_searchAt_1 : decode cX12_searchAt 1 = .ok (.invokevirtual 165, 3) := by decide +kernel
theorem dX12_searchAt_4 : decode cX12_searchAt 4 = .ok (.aload_n 0, 1) := by decide +kernel
theorem dX12_searchAt_5 : decode cX12_searchAt 5 = .ok (.getfield 178, 3) := by decide +kernel
theorem dX12_searchAt_8 : decode cX12_searchAt 8 = .ok (.ifCond .eq 27, 3) := by decide +kernel
theorem dX12_searchAt_11 : decode cX12_searchAt 11 = .ok (.aload_n 0, 1) := by decide +kernel
theorem dX12_searchAt_12 : decode cX12_searchAt 12 = .ok (.invokevirtual 339, 3) := by decide +kernel
theorem dX12_searchAt_15 : decode cX12_searchAt 15 = .ok (.ifCond .ne 20, 3) := by decide +kernel
theorem dX12_searchAt_18 : decode cX12_searchAt 18 = .ok (.iload_n 1, 1) := by decide +kernel
theorem dX12_searchAt_19 : decode cX12_searchAt 19 = .ok (.iconst 0, 1) := by decide +kernel
theorem dX12_searchAt_20 : decode cX12_searchAt 20 = .ok (.aload_n 0, 1) := by decide +kernel
theorem dX12_searchAt_21 : decode cX12_searchAt 21 = .ok (.invokevirtual 319, 3) := by decide +kernel
theorem dX12_searchAt_24 : decode cX12_searchAt 24 = .ok (.invokestatic 287, 3) := by decide +kernel
theorem dX12_searchAt_27 : decode cX12_searchAt 27 = .ok (.iconst 1, 1) := by decide +kernel
theorem dX12_searchAt_28 : decode cX12_searchAt 28 = .ok (.isub, 1) := by decide +kernel
theorem dX12_searchAt_29 : decode cX12_searchAt 29 = .ok (.invokestatic 146, 3) := by decide +kernel
theorem dX12_searchAt_32 : decode cX12_searchAt 32 = .ok (.ifCond .ne 9, 3) := by decide +kernel
theorem dX12_searchAt_35 : decode cX12_searchAt 35 = .ok (.aload_n 0, 1) := by decide +kernel
theorem dX12_searchAt_36 : decode cX12_searchAt 36 = .ok (.iconst 1, 1) := by decide +kernel
theorem dX12_searchAt_37 : decode cX12_searchAt 37 = .ok (.invokevirtual 168, 3) := by decide +kernel
theorem dX12_searchAt_40 : decode cX12_searchAt 40 = .ok (.ireturn, 1) := by decide +kernel
theorem dX12_searchAt_41 : decode cX12_searchAt 41 = .ok (.aload_n 0, 1) := by decide +kernel
theorem dX12_searchAt_42 : decode cX12_searchAt 42 = .ok (.invokevirtual 343, 3) := by decide +kernel
theorem dX12_searchAt_45 : decode cX12_searchAt 45 = .ok (.aload_n 0, 1) := by decide +kernel
theorem dX12_searchAt_46 : decode cX12_searchAt 46 = .ok (.getfield 47, 3) := by decide +kernel
theorem dX12_searchAt_49 : decode cX12_searchAt 49 = .ok (.iload_n 1, 1) := by decide +kernel
theorem dX12_searchAt_50 : decode cX12_searchAt 50 = .ok (.iaload, 1) := by decide +kernel
theorem dX12_searchAt_51 : decode cX12_searchAt 51 = .ok (.ireturn, 1) := by decide +kernel
theorem dX12_wordsIn_0 : decode cX12_wordsIn 0 = .ok (.iconst 0, 1) := by decide +kernel
theorem dX12_wordsIn_1 : decode cX12_wordsIn 1 = .ok (.istore_n 2, 1) := by decide +kernel
theorem dX12_wordsIn_2 : decode cX12_wordsIn 2 = .ok (.iconst 0, 1) := by decide +kernel
theorem dX12_wordsIn_3 : decode cX12_wordsIn 3 = .ok (.istore_n 3, 1) := by decide +kernel
theorem dX12_wordsIn_4 : decode cX12_wordsIn 4 = .ok (.iload_n 3, 1) := by decide +kernel
theorem dX12_wordsIn_5 : decode cX12_wordsIn 5 = .ok (.aload_n 0, 1) := by decide +kernel
theorem dX12_wordsIn_6 : decode cX12_wordsIn 6 = .ok (.invokevirtual 319, 3) := by decide +kernel
theorem dX12_wordsIn_9 : decode cX12_wordsIn 9 = .ok (.if_icmp .gt 134, 3) := by decide +kernel
theorem dX12_wordsIn_12 : decode cX12_wordsIn 12 = .ok (.iload_n 3, 1) := by decide +kernel
theorem dX12_wordsIn_13 : decode cX12_wordsIn 13 = .ok (.aload_n 0, 1) := by decide +kernel
theorem dX12_wordsIn_14 : decode cX12_wordsIn 14 = .ok (.invokevirtual 319, 3) := by decide +kernel
theorem dX12_wordsIn_17 : decode cX12_wordsIn 17 = .ok (.iconst (-1), 1) := by decide +kernel
theorem dX12_wordsIn_18 : decode cX12_wordsIn 18 = .ok (.ixor, 1) := by decide +kernel
theorem dX12_wordsIn_19 : decode cX12_wordsIn 19 = .ok (.iand, 1) := by decide +kernel
theorem dX12_wordsIn_20 : decode cX12_wordsIn 20 = .ok (.ifCond .eq 6, 3) := by decide +kernel
theorem dX12_wordsIn_23 : decode cX12_wordsIn 23 = .ok (.goto 114, 3) := by decide +kernel
theorem dX12_wordsIn_26 : decode cX12_wordsIn 26 = .ok (.iconst 0, 1) := by decide +kernel
theorem dX12_wordsIn_27 : decode cX12_wordsIn 27 = .ok (.istore 4, 2) := by decide +kernel
theorem dX12_wordsIn_29 : decode cX12_wordsIn 29 = .ok (.iconst 1, 1) := by decide +kernel
theorem dX12_wordsIn_30 : decode cX12_wordsIn 30 = .ok (.istore 5, 2) := by decide +kernel
theorem dX12_wordsIn_32 : decode cX12_wordsIn 32 = .ok (.iconst 0, 1) := by decide +kernel
theorem dX12_wordsIn_33 : decode cX12_wordsIn 33 = .ok (.istore 6, 2) := by decide +kernel
theorem dX12_wordsIn_35 : decode cX12_wordsIn 35 = .ok (.iload 6, 2) := by decide +kernel
theorem dX12_wordsIn_37 : decode cX12_wordsIn 37 = .ok (.aload_n 0, 1) := by decide +kernel
theorem dX12_wordsIn_38 : decode cX12_wordsIn 38 = .ok (.getfield 20, 3) := by decide +kernel
theorem dX12_wordsIn_41 : decode cX12_wordsIn 41 = .ok (.iconst 4, 1) := by decide +kernel
theorem dX12_wordsIn_42 : decode cX12_wordsIn 42 = .ok (.iaload, 1) := by decide +kernel
theorem dX12_wordsIn_43 : decode cX12_wordsIn 43 = .ok (.if_icmp .ge 68, 3) := by decide +kernel
theorem dX12_wordsIn_46 : decode cX12_wordsIn 46 = .ok (.iload_n 3, 1) := by decide +kernel
theorem dX12_wordsIn_47 : decode cX12_wordsIn 47 = .ok (.iload 6, 2) := by decide +kernel
theorem dX12_wordsIn_49 : decode cX12_wordsIn 49 = .ok (.invokestatic 241, 3) := by decide +kernel
theorem dX12_wordsIn_52 : decode cX12_wordsIn 52 = .ok (.ifCond .ne 6, 3) := by decide +kernel
theorem dX12_wordsIn_55 : decode cX12_wordsIn 55 = .ok (.goto 50, 3) := by decide +kernel
theorem dX12_wordsIn_58 : decode cX12_wordsIn 58 = .ok (.iload 4, 2) := by decide +kernel
theorem dX12_wordsIn_60 : decode cX12_wordsIn 60 = .ok (.aload_n 0, 1) := by decide +kernel
theorem dX12_wordsIn_61 : decode cX12_wordsIn 61 = .ok (.iload 6, 2) := by decide +kernel
theorem dX12_wordsIn_63 : decode cX12_wordsIn 63 = .ok (.invokevirtual 325, 3) := by decide +kernel
theorem dX12_wordsIn_66 : decode cX12_wordsIn 66 = .ok (.iadd, 1) := by decide +kernel
theorem dX12_wordsIn_67 : decode cX12_wordsIn 67 = .ok (.istore 4, 2) := by decide +kernel
theorem dX12_wordsIn_69 : decode cX12_wordsIn 69 = .ok (.iload 5, 2) := by decide +kernel
theorem dX12_wordsIn_71 : decode cX12_wordsIn 71 = .ok (.ifCond .eq 31, 3) := by decide +kernel
theorem dX12_wordsIn_74 : decode cX12_wordsIn 74 = .ok (.aload_n 0, 1) := by decide +kernel
theorem dX12_wordsIn_75 : decode cX12_wordsIn 75 = .ok (.getfield 20, 3) := by decide +kernel
theorem dX12_wordsIn_78 : decode cX12_wordsIn 78 = .ok (.iload 6, 2) := by decide +kernel
theorem dX12_wordsIn_80 : decode cX12_wordsIn 80 = .ok (.invokestatic 248, 3) := by decide +kernel
theorem dX12_wordsIn_83 : decode cX12_wordsIn 83 = .ok (.iload_n 3, 1) := by decide +kernel
theorem dX12_wordsIn_84 : decode cX12_wordsIn 84 = .ok (.aload_n 0, 1) := by decide +kernel
theorem dX12_wordsIn_85 : decode cX12_wordsIn 85 = .ok (.getfield 26, 3) := by decide +kernel
theorem dX12_wordsIn_88 : decode cX12_wordsIn 88 = .ok (.bipush 14, 2) := by decide +kernel
theorem dX12_wordsIn_90 : decode cX12_wordsIn 90 = .ok (.iaload, 1) := by decide +kernel
theorem dX12_wordsIn_91 : decode cX12_wordsIn 91 = .ok (.ior, 1) := by decide +kernel
theorem dX12_wordsIn_92 : decode cX12_wordsIn 92 = .ok (.iconst (-1), 1) := by decide +kernel
theorem dX12_wordsIn_93 : decode cX12_wordsIn 93 = .ok (.ixor, 1) := by decide +kernel
theorem dX12_wordsIn_94 : decode cX12_wordsIn 94 = .ok (.iand, 1) := by decide +kernel
theorem dX12_wordsIn_95 : decode cX12_wordsIn 95 = .ok (.ifCond .ne 7, 3) := by decide +kernel
theorem dX12_wordsIn_98 : decode cX12_wordsIn 98 = .ok (.iconst 1, 1) := by decide +kernel
theorem dX12_wordsIn_99 : decode cX12_wordsIn 99 = .ok (.goto 4, 3) := by decide +kernel
theorem dX12_wordsIn_102 : decode cX12_wordsIn 102 = .ok (.iconst 0, 1) := by decide +kernel
theorem dX12_wordsIn_103 : decode cX12_wordsIn 103 = .ok (.istore 5, 2) := by decide +kernel
theorem dX12_wordsIn_105 : decode cX12_wordsIn 105 = .ok (.iinc 6 1, 3) := by decide +kernel
theorem dX12_wordsIn_108 : decode cX12_wordsIn 108 = .ok (.goto (-73), 3) := by decide +kernel
theorem dX12_wordsIn_111 : decode cX12_wordsIn 111 = .ok (.iload 5, 2) := by decide +kernel
theorem dX12_wordsIn_113 : decode cX12_wordsIn 113 = .ok (.ifCond .eq 24, 3) := by decide +kernel
theorem dX12_wordsIn_116 : decode cX12_wordsIn 116 = .ok (.iload 4, 2) := by decide +kernel
theorem dX12_wordsIn_118 : decode cX12_wordsIn 118 = .ok (.iload_n 1, 1) := by decide +kernel
theorem dX12_wordsIn_119 : decode cX12_wordsIn 119 = .ok (.if_icmp .gt 18, 3) := by decide +kernel
theorem dX12_wordsIn_122 : decode cX12_wordsIn 122 = .ok (.aload_n 0, 1) := by decide +kernel
theorem dX12_wordsIn_123 : decode cX12_wordsIn 123 = .ok (.iload_n 3, 1) := by decide +kernel
theorem dX12_wordsIn_124 : decode cX12_wordsIn 124 = .ok (.invokevirtual 322, 3) := by decide +kernel
theorem dX12_wordsIn_127 : decode cX12_wordsIn 127 = .ok (.aload_n 0, 1) := by decide +kernel
theorem dX12_wordsIn_128 : decode cX12_wordsIn 128 = .ok (.iload_n 2, 1) := by decide +kernel
theorem dX12_wordsIn_129 : decode cX12_wordsIn 129 = .ok (.invokevirtual 322, 3) := by decide +kernel
theorem dX12_wordsIn_132 : decode cX12_wordsIn 132 = .ok (.if_icmp .le 5, 3) := by decide +kernel
theorem dX12_wordsIn_135 : decode cX12_wordsIn 135 = .ok (.iload_n 3, 1) := by decide +kernel
theorem dX12_wordsIn_136 : decode cX12_wordsIn 136 = .ok (.istore_n 2, 1) := by decide +kernel
theorem dX12_wordsIn_137 : decode cX12_wordsIn 137 = .ok (.iinc 3 1, 3) := by decide +kernel
theorem dX12_wordsIn_140 : decode cX12_wordsIn 140 = .ok (.goto (-136), 3) := by decide +kernel
theorem dX12_wordsIn_143 : decode cX12_wordsIn 143 = .ok (.aload_n 0, 1) := by decide +kernel
theorem dX12_wordsIn_144 : decode cX12_wordsIn 144 = .ok (.getfield 26, 3) := by decide +kernel
theorem dX12_wordsIn_147 : decode cX12_wordsIn 147 = .ok (.bipush 16, 2) := by decide +kernel
theorem dX12_wordsIn_149 : decode cX12_wordsIn 149 = .ok (.iaload, 1) := by decide +kernel
theorem dX12_wordsIn_150 : decode cX12_wordsIn 150 = .ok (.ifCond .le 7, 3) := by decide +kernel
theorem dX12_wordsIn_153 : decode cX12_wordsIn 153 = .ok (.iconst 0, 1) := by decide +kernel
theorem dX12_wordsIn_154 : decode cX12_wordsIn 154 = .ok (.goto 4, 3) := by decide +kernel
theorem dX12_wordsIn_157 : decode cX12_wordsIn 157 = .ok (.iload_n 2, 1) := by decide +kernel
theorem dX12_wordsIn_158 : decode cX12_wordsIn 158 = .ok (.ireturn, 1) := by decide +kernel
theorem dX12_minutesWhy_0 : decode cX12_minutesWhy 0 = .ok (.aload_n 0, 1) := by decide +kernel
theorem dX12_minutesWhy_1 : decode cX12_minutesWhy 1 = .ok (.getfield 178, 3) := by decide +kernel
theorem dX12_minutesWhy_4 : decode cX12_minutesWhy 4 = .ok (.ifCond .ne 7, 3) := by decide +kernel
theorem dX12_minutesWhy_7 : decode cX12_minutesWhy 7 = .ok (.iconst 1, 1) := by decide +kernel
theorem dX12_minutesWhy_8 : decode cX12_minutesWhy 8 = .ok (.goto 19, 3) := by decide +kernel
theorem dX12_minutesWhy_11 : decode cX12_minutesWhy 11 = .ok (.iload_n 1, 1) := by decide +kernel
theorem dX12_minutesWhy_12 : decode cX12_minutesWhy 12 = .ok (.iconst 0, 1) := by decide +kernel
theorem dX12_minutesWhy_13 : decode cX12_minutesWhy 13 = .ok (.sipush 300, 3) := by decide +kernel
theorem dX12_minutesWhy_16 : decode cX12_minutesWhy 16 = .ok (.invokestatic 146, 3) := by decide +kernel
theorem dX12_minutesWhy_19 : decode cX12_minutesWhy 19 = .ok (.ifCond .eq 7, 3) := by decide +kernel
theorem dX12_minutesWhy_22 : decode cX12_minutesWhy 22 = .ok (.iconst 0, 1) := by decide +kernel
theorem dX12_minutesWhy_23 : decode cX12_minutesWhy 23 = .ok (.goto 4, 3) := by decide +kernel
theorem dX12_minutesWhy_26 : decode cX12_minutesWhy 26 = .ok (.iconst 2, 1) := by decide +kernel
theorem dX12_minutesWhy_27 : decode cX12_minutesWhy 27 = .ok (.ireturn, 1) := by decide +kernel
theorem dX12_within_0 : decode cX12_within 0 = .ok (.aload_n 0, 1) := by decide +kernel
theorem dX12_within_1 : decode cX12_within 1 = .ok (.invokevirtual 165, 3) := by decide +kernel
theorem dX12_within_4 : decode cX12_within 4 = .ok (.aload_n 0, 1) := by decide +kernel
theorem dX12_within_5 : decode cX12_within 5 = .ok (.iload_n 1, 1) := by decide +kernel
theorem dX12_within_6 : decode cX12_within 6 = .ok (.invokevirtual 346, 3) := by decide +kernel
theorem dX12_within_9 : decode cX12_within 9 = .ok (.istore_n 3, 1) := by decide +kernel
theorem dX12_within_10 : decode cX12_within 10 = .ok (.iload_n 3, 1) := by decide +kernel
theorem dX12_within_11 : decode cX12_within 11 = .ok (.ifCond .eq 10, 3) := by decide +kernel
theorem dX12_within_14 : decode cX12_within 14 = .ok (.aload_n 0, 1) := by decide +kernel
theorem dX12_within_15 : decode cX12_within 15 = .ok (.iload_n 3, 1) := by decide +kernel
theorem dX12_within_16 : decode cX12_within 16 = .ok (.invokevirtual 168, 3) := by decide +kernel
theorem dX12_within_19 : decode cX12_within 19 = .ok (.i2l, 1) := by decide +kernel
theorem dX12_within_20 : decode cX12_within 20 = .ok (.lreturn, 1) := by decide +kernel
theorem dX12_within_21 : decode cX12_within 21 = .ok (.aload_n 0, 1) := by decide +kernel
theorem dX12_within_22 : decode cX12_within 22 = .ok (.invokevirtual 339, 3) := by decide +kernel
theorem dX12_within_25 : decode cX12_within 25 = .ok (.ifCond .eq 12, 3) := by decide +kernel
theorem dX12_within_28 : decode cX12_within 28 = .ok (.lconst 0, 1) := by decide +kernel
theorem dX12_within_29 : decode cX12_within 29 = .ok (.lconst 1, 1) := by decide +kernel
theorem dX12_within_30 : decode cX12_within 30 = .ok (.iload_n 2, 1) := by decide +kernel
theorem dX12_within_31 : decode cX12_within 31 = .ok (.invokestatic 315, 3) := by decide +kernel
theorem dX12_within_34 : decode cX12_within 34 = .ok (.goto 26, 3) := by decide +kernel
theorem dX12_within_37 : decode cX12_within 37 = .ok (.aload_n 0, 1) := by decide +kernel
theorem dX12_within_38 : decode cX12_within 38 = .ok (.aload_n 0, 1) := by decide +kernel
theorem dX12_within_39 : decode cX12_within 39 = .ok (.iload_n 1, 1) := by decide +kernel
theorem dX12_within_40 : decode cX12_within 40 = .ok (.invokevirtual 349, 3) := by decide +kernel
theorem dX12_within_43 : decode cX12_within 43 = .ok (.invokevirtual 322, 3) := by decide +kernel
theorem dX12_within_46 : decode cX12_within 46 = .ok (.i2l, 1) := by decide +kernel
theorem dX12_within_47 : decode cX12_within 47 = .ok (.aload_n 0, 1) := by decide +kernel
theorem dX12_within_48 : decode cX12_within 48 = .ok (.aload_n 0, 1) := by decide +kernel
theorem dX12_within_49 : decode cX12_within 49 = .ok (.invokevirtual 319, 3) := by decide +kernel
theorem dX12_within_52 : decode cX12_within 52 = .ok (.invokevirtual 322, 3) := by decide +kernel
theorem dX12_within_55 : decode cX12_within 55 = .ok (.i2l, 1) := by decide +kernel
theorem dX12_within_56 : decode cX12_within 56 = .ok (.iload_n 2, 1) := by decide +kernel
theorem dX12_within_57 : decode cX12_within 57 = .ok (.invokestatic 315, 3) := by decide +kernel
theorem dX12_within_60 : decode cX12_within 60 = .ok (.lreturn, 1) := by decide +kernel
theorem dX12_withinWords_0 : decode cX12_withinWords 0 = .ok (.aload_n 0, 1) := by decide +kernel
theorem dX12_withinWords_1 : decode cX12_withinWords 1 = .ok (.invokevirtual 165, 3) := by decide +kernel
theorem dX12_withinWords_4 : decode cX12_withinWords 4 = .ok (.aload_n 0, 1) := by decide +kernel
theorem dX12_withinWords_5 : decode cX12_withinWords 5 = .ok (.iload_n 1, 1) := by decide +kernel
theorem dX12_withinWords_6 : decode cX12_withinWords 6 = .ok (.invokevirtual 346, 3) := by decide +kernel
theorem dX12_withinWords_9 : decode cX12_withinWords 9 = .ok (.istore_n 2, 1) := by decide +kernel
theorem dX12_withinWords_10 : decode cX12_withinWords 10 = .ok (.iload_n 2, 1) := by decide +kernel
theorem dX12_withinWords_11 : decode cX12_withinWords 11 = .ok (.ifCond .eq 11, 3) := by decide +kernel
theorem dX12_withinWords_14 : decode cX12_withinWords 14 = .ok (.aload_n 0, 1) := by decide +kernel
theorem dX12_withinWords_15 : decode cX12_withinWords 15 = .ok (.iload_n 2, 1) := by decide +kernel
theorem dX12_withinWords_16 : decode cX12_withinWords 16 = .ok (.invokevirtual 168, 3) := by decide +kernel
theorem dX12_withinWords_19 : decode cX12_withinWords 19 = .ok (.goto 8, 3) := by decide +kernel
theorem dX12_withinWords_22 : decode cX12_withinWords 22 = .ok (.aload_n 0, 1) := by decide +kernel
theorem dX12_withinWords_23 : decode cX12_withinWords 23 = .ok (.iload_n 1, 1) := by decide +kernel
theorem dX12_withinWords_24 : decode cX12_withinWords 24 = .ok (.invokevirtual 349, 3) := by decide +kernel
theorem dX12_withinWords_27 : decode cX12_withinWords 27 = .ok (.ireturn, 1) := by decide +kernel
theorem dX12_canSay_0 : decode cX12_canSay 0 = .ok (.aload_n 0, 1) := by decide +kernel
theorem dX12_canSay_1 : decode cX12_canSay 1 = .ok (.getfield 26, 3) := by decide +kernel
theorem dX12_canSay_4 : decode cX12_canSay 4 = .ok (.bipush 16, 2) := by decide +kernel
theorem dX12_canSay_6 : decode cX12_canSay 6 = .ok (.iaload, 1) := by decide +kernel
theorem dX12_canSay_7 : decode cX12_canSay 7 = .ok (.ifCond .ne 42, 3) := by decide +kernel
theorem dX12_canSay_10 : decode cX12_canSay 10 = .ok (.aload_n 0, 1) := by decide +kernel
theorem dX12_canSay_11 : decode cX12_canSay 11 = .ok (.getfield 26, 3) := by decide +kernel
theorem dX12_canSay_14 : decode cX12_canSay 14 = .ok (.bipush 14, 2) := by decide +kernel
theorem dX12_canSay_16 : decode cX12_canSay 16 = .ok (.iaload, 1) := by decide +kernel
theorem dX12_canSay_17 : decode cX12_canSay 17 = .ok (.iload_n 1, 1) := by decide +kernel
theorem dX12_canSay_18 : decode cX12_canSay 18 = .ok (.invokestatic 241, 3) := by decide +kernel
theorem dX12_canSay_21 : decode cX12_canSay 21 = .ok (.ifCond .ne 28, 3) := by decide +kernel
theorem dX12_canSay_24 : decode cX12_canSay 24 = .ok (.aload_n 0, 1) := by decide +kernel
theorem dX12_canSay_25 : decode cX12_canSay 25 = .ok (.getfield 20, 3) := by decide +kernel
theorem dX12_canSay_28 : decode cX12_canSay 28 = .ok (.iload_n 1, 1) := by decide +kernel
theorem dX12_canSay_29 : decode cX12_canSay 29 = .ok (.invokestatic 248, 3) := by decide +kernel
theorem dX12_canSay_32 : decode cX12_canSay 32 = .ok (.aload_n 0, 1) := by decide +kernel
theorem dX12_canSay_33 : decode cX12_canSay 33 = .ok (.getfield 26, 3) := by decide +kernel
theorem dX12_canSay_36 : decode cX12_canSay 36 = .ok (.bipush 14, 2) := by decide +kernel
theorem dX12_canSay_38 : decode cX12_canSay 38 = .ok (.iaload, 1) := by decide +kernel
theorem dX12_canSay_39 : decode cX12_canSay 39 = .ok (.iconst (-1), 1) := by decide +kernel
theorem dX12_canSay_40 : decode cX12_canSay 40 = .ok (.ixor, 1) := by decide +kernel
theorem dX12_canSay_41 : decode cX12_canSay 41 = .ok (.iand, 1) := by decide +kernel
theorem dX12_canSay_42 : decode cX12_canSay 42 = .ok (.ifCond .ne 7, 3) := by decide +kernel
theorem dX12_canSay_45 : decode cX12_canSay 45 = .ok (.iconst 1, 1) := by decide +kernel
theorem dX12_canSay_46 : decode cX12_canSay 46 = .ok (.goto 4, 3) := by decide +kernel
theorem dX12_canSay_49 : decode cX12_canSay 49 = .ok (.iconst 0, 1) := by decide +kernel
theorem dX12_canSay_50 : decode cX12_canSay 50 = .ok (.ireturn, 1) := by decide +kernel
theorem dX12_next_0 : decode cX12_next 0 = .ok (.aload_n 0, 1) := by decide +kernel
theorem dX12_next_1 : decode cX12_next 1 = .ok (.invokevirtual 165, 3) := by decide +kernel
theorem dX12_next_4 : decode cX12_next 4 = .ok (.aload_n 0, 1) := by decide +kernel
theorem dX12_next_5 : decode cX12_next 5 = .ok (.getfield 178, 3) := by decide +kernel
theorem dX12_next_8 : decode cX12_next 8 = .ok (.ifCond .ne 9, 3) := by decide +kernel
theorem dX12_next_11 : decode cX12_next 11 = .ok (.aload_n 0, 1) := by decide +kernel
theorem dX12_next_12 : decode cX12_next 12 = .ok (.iconst 1, 1) := by decide +kernel
theorem dX12_next_13 : decode cX12_next 13 = .ok (.invokevirtual 168, 3) := by decide +kernel
theorem dX12_next_16 : decode cX12_next 16 = .ok (.ireturn, 1) := by decide +kernel
theorem dX12_next_17 : decode cX12_next 17 = .ok (.iconst 0, 1) := by decide +kernel
theorem dX12_next_18 : decode cX12_next 18 = .ok (.istore_n 1, 1) := by decide +kernel
theorem dX12_next_19 : decode cX12_next 19 = .ok (.iconst 0, 1) := by decide +kernel
theorem dX12_next_20 : decode cX12_next 20 = .ok (.istore_n 2, 1) := by decide +kernel
theorem dX12_next_21 : decode cX12_next 21 = .ok (.iload_n 2, 1) := by decide +kernel
theorem dX12_next_22 : decode cX12_next 22 = .ok (.aload_n 0, 1) := by decide +kernel
theorem dX12_next_23 : decode cX12_next 23 = .ok (.getfield 20, 3) := by decide +kernel
theorem dX12_next_26 : decode cX12_next 26 = .ok (.iconst 4, 1) := by decide +kernel
theorem dX12_next_27 : decode cX12_next 27 = .ok (.iaload, 1) := by decide +kernel
theorem dX12_next_28 : decode cX12_next 28 = .ok (.if_icmp .ge 27, 3) := by decide +kernel
theorem dX12_next_31 : decode cX12_next 31 = .ok (.iload_n 1, 1) := by decide +kernel
theorem dX12_next_32 : decode cX12_next 32 = .ok (.aload_n 0, 1) := by decide +kernel
theorem dX12_next_33 : decode cX12_next 33 = .ok (.iload_n 2, 1) := by decide +kernel
theorem dX12_next_34 : decode cX12_next 34 = .ok (.invokevirtual 352, 3) := by decide +kernel
theorem dX12_next_37 : decode cX12_next 37 = .ok (.ifCond .eq 9, 3) := by decide +kernel
theorem dX12_next_40 : decode cX12_next 40 = .ok (.iconst 1, 1) := by decide +kernel
theorem dX12_next_41 : decode cX12_next 41 = .ok (.iload_n 2, 1) := by decide +kernel
theorem dX12_next_42 : decode cX12_next 42 = .ok (.ishl, 1) := by decide +kernel
theorem dX12_next_43 : decode cX12_next 43 = .ok (.goto 4, 3) := by decide +kernel
theorem dX12_next_46 : decode cX12_next 46 = .ok (.iconst 0, 1) := by decide +kernel
theorem dX12_next_47 : decode cX12_next 47 = .ok (.ior, 1) := by decide +kernel
theorem dX12_next_48 : decode cX12_next 48 = .ok (.istore_n 1, 1) := by decide +kernel
theorem dX12_next_49 : decode cX12_next 49 = .ok (.iinc 2 1, 3) := by decide +kernel
theorem dX12_next_52 : decode cX12_next 52 = .ok (.goto (-31), 3) := by decide +kernel
theorem dX12_next_55 : decode cX12_next 55 = .ok (.iload_n 1, 1) := by decide +kernel
theorem dX12_next_56 : decode cX12_next 56 = .ok (.ireturn, 1) := by decide +kernel
theorem dX12_meanFirst_0 : decode cX12_meanFirst 0 = .ok (.aload_n 0, 1) := by decide +kernel
theorem dX12_meanFirst_1 : decode cX12_meanFirst 1 = .ok (.invokevirtual 165, 3) := by decide +kernel
theorem dX12_meanFirst_4 : decode cX12_meanFirst 4 = .ok (.aload_n 0, 1) := by decide +kernel
theorem dX12_meanFirst_5 : decode cX12_meanFirst 5 = .ok (.iload_n 1, 1) := by decide +kernel
theorem dX12_meanFirst_6 : decode cX12_meanFirst 6 = .ok (.invokevirtual 312, 3) := by decide +kernel
theorem dX12_meanFirst_9 : decode cX12_meanFirst 9 = .ok (.ifCond .ne 10, 3) := by decide +kernel
theorem dX12_meanFirst_12 : decode cX12_meanFirst 12 = .ok (.aload_n 0, 1) := by decide +kernel
theorem dX12_meanFirst_13 : decode cX12_meanFirst 13 = .ok (.iconst 1, 1) := by decide +kernel
theorem dX12_meanFirst_14 : decode cX12_meanFirst 14 = .ok (.invokevirtual 168, 3) := by decide +kernel
theorem dX12_meanFirst_17 : decode cX12_meanFirst 17 = .ok (.i2l, 1) := by decide +kernel
theorem dX12_meanFirst_18 : decode cX12_meanFirst 18 = .ok (.lreturn, 1) := by decide +kernel
theorem dX12_meanFirst_19 : decode cX12_meanFirst 19 = .ok (.aload_n 0, 1) := by decide +kernel
theorem dX12_meanFirst_20 : decode cX12_meanFirst 20 = .ok (.iload_n 1, 1) := by decide +kernel
theorem dX12_meanFirst_21 : decode cX12_meanFirst 21 = .ok (.invokevirtual 352, 3) := by decide +kernel
theorem dX12_meanFirst_24 : decode cX12_meanFirst 24 = .ok (.ifCond .ne 10, 3) := by decide +kernel
theorem dX12_meanFirst_27 : decode cX12_meanFirst 27 = .ok (.aload_n 0, 1) := by decide +kernel
theorem dX12_meanFirst_28 : decode cX12_meanFirst 28 = .ok (.iconst 5, 1) := by decide +kernel
theorem dX12_meanFirst_29 : decode cX12_meanFirst 29 = .ok (.invokevirtual 168, 3) := by decide +kernel
theorem dX12_meanFirst_32 : decode cX12_meanFirst 32 = .ok (.i2l, 1) := by decide +kernel
theorem dX12_meanFirst_33 : decode cX12_meanFirst 33 = .ok (.lreturn, 1) := by decide +kernel
theorem dX12_meanFirst_34 : decode cX12_meanFirst 34 = .ok (.aload_n 0, 1) := by decide +kernel
theorem dX12_meanFirst_35 : decode cX12_meanFirst 35 = .ok (.ldc_w 338, 3) := by decide +kernel
theorem dX12_meanFirst_38 : decode cX12_meanFirst 38 = .ok (.putfield 335, 3) := by decide +kernel
theorem dX12_meanFirst_41 : decode cX12_meanFirst 41 = .ok (.aload_n 0, 1) := by decide +kernel
theorem dX12_meanFirst_42 : decode cX12_meanFirst 42 = .ok (.iconst 0, 1) := by decide +kernel
theorem dX12_meanFirst_43 : decode cX12_meanFirst 43 = .ok (.putfield 332, 3) := by decide +kernel
theorem dX12_meanFirst_46 : decode cX12_meanFirst 46 = .ok (.aload_n 0, 1) := by decide +kernel
theorem dX12_meanFirst_47 : decode cX12_meanFirst 47 = .ok (.getfield 44, 3) := by decide +kernel
theorem dX12_meanFirst_50 : decode cX12_meanFirst 50 = .ok (.iconst 0, 1) := by decide +kernel
theorem dX12_meanFirst_51 : decode cX12_meanFirst 51 = .ok (.iload_n 1, 1) := by decide +kernel
theorem dX12_meanFirst_52 : decode cX12_meanFirst 52 = .ok (.iastore, 1) := by decide +kernel
theorem dX12_meanFirst_53 : decode cX12_meanFirst 53 = .ok (.aload_n 0, 1) := by decide +kernel
theorem dX12_meanFirst_54 : decode cX12_meanFirst 54 = .ok (.iconst 1, 1) := by decide +kernel
theorem dX12_meanFirst_55 : decode cX12_meanFirst 55 = .ok (.aload_n 0, 1) := by decide +kernel
theorem dX12_meanFirst_56 : decode cX12_meanFirst 56 = .ok (.getfield 26, 3) := by decide +kernel
theorem dX12_meanFirst_59 : decode cX12_meanFirst 59 = .ok (.bipush 14, 2) := by decide +kernel
theorem dX12_meanFirst_61 : decode cX12_meanFirst 61 = .ok (.iaload, 1) := by decide +kernel
theorem dX12_meanFirst_62 : decode cX12_meanFirst 62 = .ok (.iconst 1, 1) := by decide +kernel
theorem dX12_meanFirst_63 : decode cX12_meanFirst 63 = .ok (.iload_n 1, 1) := by decide +kernel
theorem dX12_meanFirst_64 : decode cX12_meanFirst 64 = .ok (.ishl, 1) := by decide +kernel
theorem dX12_meanFirst_65 : decode cX12_meanFirst 65 = .ok (.ior, 1) := by decide +kernel
theorem dX12_meanFirst_66 : decode cX12_meanFirst 66 = .ok (.aload_n 0, 1) := by decide +kernel
theorem dX12_meanFirst_67 : decode cX12_meanFirst 67 = .ok (.iload_n 1, 1) := by decide +kernel
theorem dX12_meanFirst_68 : decode cX12_meanFirst 68 = .ok (.invokevirtual 325, 3) := by decide +kernel
theorem dX12_meanFirst_71 : decode cX12_meanFirst 71 = .ok (.aload_n 0, 1) := by decide +kernel
theorem dX12_meanFirst_72 : decode cX12_meanFirst 72 = .ok (.iload_n 1, 1) := by decide +kernel
theorem dX12_meanFirst_73 : decode cX12_meanFirst 73 = .ok (.invokevirtual 325, 3) := by decide +kernel
theorem dX12_meanFirst_76 : decode cX12_meanFirst 76 = .ok (.aload_n 0, 1) := by decide +kernel
theorem dX12_meanFirst_77 : decode cX12_meanFirst 77 = .ok (.iload_n 1, 1) := by decide +kernel
theorem dX12_meanFirst_78 : decode cX12_meanFirst 78 = .ok (.invokevirtual 309, 3) := by decide +kernel
theorem dX12_meanFirst_81 : decode cX12_meanFirst 81 = .ok (.imul, 1) := by decide +kernel
theorem dX12_meanFirst_82 : decode cX12_meanFirst 82 = .ok (.invokevirtual 328, 3) := by decide +kernel
theorem dX12_meanFirst_85 : decode cX12_meanFirst 85 = .ok (.aload_n 0, 1) := by decide +kernel
theorem dX12_meanFirst_86 : decode cX12_meanFirst 86 = .ok (.getfield 335, 3) := by decide +kernel
theorem dX12_meanFirst_89 : decode cX12_meanFirst 89 = .ok (.i2l, 1) := by decide +kernel
theorem dX12_meanFirst_90 : decode cX12_meanFirst 90 = .ok (.aload_n 0, 1) := by decide +kernel
theorem dX12_meanFirst_91 : decode cX12_meanFirst 91 = .ok (.aload_n 0, 1) := by decide +kernel
theorem dX12_meanFirst_92 : decode cX12_meanFirst 92 = .ok (.invokevirtual 319, 3) := by decide +kernel
theorem dX12_meanFirst_95 : decode cX12_meanFirst 95 = .ok (.invokevirtual 322, 3) := by decide +kernel
theorem dX12_meanFirst_98 : decode cX12_meanFirst 98 = .ok (.i2l, 1) := by decide +kernel
theorem dX12_meanFirst_99 : decode cX12_meanFirst 99 = .ok (.iload_n 2, 1) := by decide +kernel
theorem dX12_meanFirst_100 : decode cX12_meanFirst 100 = .ok (.invokestatic 315, 3) := by decide +kernel
theorem dX12_meanFirst_103 : decode cX12_meanFirst 103 = .ok (.lreturn, 1) := by decide +kernel
theorem dX12_rows_0 : decode cX12_rows 0 = .ok (.aload_n 0, 1) := by decide +kernel
theorem dX12_rows_1 : decode cX12_rows 1 = .ok (.invokevirtual 165, 3) := by decide +kernel
theorem dX12_rows_4 : decode cX12_rows 4 = .ok (.aload_n 0, 1) := by decide +kernel
theorem dX12_rows_5 : decode cX12_rows 5 = .ok (.getfield 178, 3) := by decide +kernel
theorem dX12_rows_8 : decode cX12_rows 8 = .ok (.ifCond .ne 9, 3) := by decide +kernel
theorem dX12_rows_11 : decode cX12_rows 11 = .ok (.aload_n 0, 1) := by decide +kernel
theorem dX12_rows_12 : decode cX12_rows 12 = .ok (.iconst 1, 1) := by decide +kernel
theorem dX12_rows_13 : decode cX12_rows 13 = .ok (.invokevirtual 168, 3) := by decide +kernel
theorem dX12_rows_16 : decode cX12_rows 16 = .ok (.ireturn, 1) := by decide +kernel
theorem dX12_rows_17 : decode cX12_rows 17 = .ok (.aload_n 0, 1) := by decide +kernel
theorem dX12_rows_18 : decode cX12_rows 18 = .ok (.invokevirtual 343, 3) := by decide +kernel
theorem dX12_rows_21 : decode cX12_rows 21 = .ok (.aload_n 0, 1) := by decide +kernel
theorem dX12_rows_22 : decode cX12_rows 22 = .ok (.getfield 332, 3) := by decide +kernel
theorem dX12_rows_25 : decode cX12_rows 25 = .ok (.ireturn, 1) := by decide +kernel
theorem dX12_rankAt_0 : decode cX12_rankAt 0 = .ok (.aload_n 0, 1) := by decide +kernel
theorem dX12_rankAt_1 : decode cX12_rankAt 1 = .ok (.bipush 59, 2) := by decide +kernel
theorem dX12_rankAt_3 : decode cX12_rankAt 3 = .ok (.bipush 19, 2) := by decide +kernel
theorem dX12_rankAt_5 : decode cX12_rankAt 5 = .ok (.iload_n 1, 1) := by decide +kernel
theorem dX12_rankAt_6 : decode cX12_rankAt 6 = .ok (.imul, 1) := by decide +kernel
theorem dX12_rankAt_7 : decode cX12_rankAt 7 = .ok (.iadd, 1) := by decide +kernel
theorem dX12_rankAt_8 : decode cX12_rankAt 8 = .ok (.iaload, 1) := by decide +kernel
theorem dX12_rankAt_9 : decode cX12_rankAt 9 = .ok (.ireturn, 1) := by decide +kernel
theorem dX12_isSign_0 : decode cX12_isSign 0 = .ok (.aload_n 0, 1) := by decide +kernel
theorem dX12_isSign_1 : decode cX12_isSign 1 = .ok (.getfield 20, 3) := by decide +kernel
theorem dX12_isSign_4 : decode cX12_isSign 4 = .ok (.bipush 59, 2) := by decide +kernel
theorem dX12_isSign_6 : decode cX12_isSign 6 = .ok (.bipush 19, 2) := by decide +kernel
theorem dX12_isSign_8 : decode cX12_isSign 8 = .ok (.iload_n 1, 1) := by decide +kernel
theorem dX12_isSign_9 : decode cX12_isSign 9 = .ok (.imul, 1) := by decide +kernel
theorem dX12_isSign_10 : decode cX12_isSign 10 = .ok (.iadd, 1) := by decide +kernel
theorem dX12_isSign_11 : decode cX12_isSign 11 = .ok (.iconst 1, 1) := by decide +kernel
theorem dX12_isSign_12 : decode cX12_isSign 12 = .ok (.iadd, 1) := by decide +kernel
theorem dX12_isSign_13 : decode cX12_isSign 13 = .ok (.iload_n 2, 1) := by decide +kernel
theorem dX12_isSign_14 : decode cX12_isSign 14 = .ok (.invokestatic 257, 3) := by decide +kernel
theorem dX12_isSign_17 : decode cX12_isSign 17 = .ok (.ireturn, 1) := by decide +kernel
theorem dX12_doneTo_0 : decode cX12_doneTo 0 = .ok (.bipush (-2), 2) := by decide +kernel
theorem dX12_doneTo_2 : decode cX12_doneTo 2 = .ok (.istore_n 3, 1) := by decide +kernel
theorem dX12_doneTo_3 : decode cX12_doneTo 3 = .ok (.iconst 0, 1) := by decide +kernel
theorem dX12_doneTo_4 : decode cX12_doneTo 4 = .ok (.istore 4, 2) := by decide +kernel
theorem dX12_doneTo_6 : decode cX12_doneTo 6 = .ok (.iload 4, 2) := by decide +kernel
theorem dX12_doneTo_8 : decode cX12_doneTo 8 = .ok (.aload_n 0, 1) := by decide +kernel
theorem dX12_doneTo_9 : decode cX12_doneTo 9 = .ok (.getfield 20, 3) := by decide +kernel
theorem dX12_doneTo_12 : decode cX12_doneTo 12 = .ok (.bipush 6, 2) := by decide +kernel
theorem dX12_doneTo_14 : decode cX12_doneTo 14 = .ok (.iaload, 1) := by decide +kernel
theorem dX12_doneTo_15 : decode cX12_doneTo 15 = .ok (.if_icmp .ge 55, 3) := by decide +kernel
theorem dX12_doneTo_18 : decode cX12_doneTo 18 = .ok (.iload_n 1, 1) := by decide +kernel
theorem dX12_doneTo_19 : decode cX12_doneTo 19 = .ok (.iload 4, 2) := by decide +kernel
theorem dX12_doneTo_21 : decode cX12_doneTo 21 = .ok (.invokestatic 241, 3) := by decide +kernel
theorem dX12_doneTo_24 : decode cX12_doneTo 24 = .ok (.ifCond .eq 40, 3) := by decide +kernel
theorem dX12_doneTo_27 : decode cX12_doneTo 27 = .ok (.aload_n 0, 1) := by decide +kernel
theorem dX12_doneTo_28 : decode cX12_doneTo 28 = .ok (.iload 4, 2) := by decide +kernel
theorem dX12_doneTo_30 : decode cX12_doneTo 30 = .ok (.iload_n 2, 1) := by decide +kernel
theorem dX12_doneTo_31 : decode cX12_doneTo 31 = .ok (.invokevirtual 355, 3) := by decide +kernel
theorem dX12_doneTo_34 : decode cX12_doneTo 34 = .ok (.ifCond .eq 30, 3) := by decide +kernel
theorem dX12_doneTo_37 : decode cX12_doneTo 37 = .ok (.iload_n 3, 1) := by decide +kernel
theorem dX12_doneTo_38 : decode cX12_doneTo 38 = .ok (.ifCond .lt 23, 3) := by decide +kernel
theorem dX12_doneTo_41 : decode cX12_doneTo 41 = .ok (.aload_n 0, 1) := by decide +kernel
theorem dX12_doneTo_42 : decode cX12_doneTo 42 = .ok (.getfield 20, 3) := by decide +kernel
theorem dX12_doneTo_45 : decode cX12_doneTo 45 = .ok (.iload 4, 2) := by decide +kernel
theorem dX12_doneTo_47 : decode cX12_doneTo 47 = .ok (.invokestatic 358, 3) := by decide +kernel
theorem dX12_doneTo_50 : decode cX12_doneTo 50 = .ok (.aload_n 0, 1) := by decide +kernel
theorem dX12_doneTo_51 : decode cX12_doneTo 51 = .ok (.getfield 20, 3) := by decide +kernel
theorem dX12_doneTo_54 : decode cX12_doneTo 54 = .ok (.iload_n 3, 1) := by decide +kernel
theorem dX12_doneTo_55 : decode cX12_doneTo 55 = .ok (.invokestatic 358, 3) := by decide +kernel
theorem dX12_doneTo_58 : decode cX12_doneTo 58 = .ok (.if_icmp .le 6, 3) := by decide +kernel
theorem dX12_doneTo_61 : decode cX12_doneTo 61 = .ok (.iload 4, 2) := by decide +kernel
theorem dX12_doneTo_63 : decode cX12_doneTo 63 = .ok (.istore_n 3, 1) := by decide +kernel
theorem dX12_doneTo_64 : decode cX12_doneTo 64 = .ok (.iinc 4 1, 3) := by decide +kernel
theorem dX12_doneTo_67 : decode cX12_doneTo 67 = .ok (.goto (-61), 3) := by decide +kernel
theorem dX12_doneTo_70 : decode cX12_doneTo 70 = .ok (.iload_n 3, 1) := by decide +kernel
theorem dX12_doneTo_71 : decode cX12_doneTo 71 = .ok (.ireturn, 1) := by decide +kernel
theorem dX12_isSo_0 : decode cX12_isSo 0 = .ok (.sipush 173, 3) := by decide +kernel
theorem dX12_isSo_3 : decode cX12_isSo 3 = .ok (.bipush 19, 2) := by decide +kernel
theorem dX12_isSo_5 : decode cX12_isSo 5 = .ok (.iload_n 2, 1) := by decide +kernel
theorem dX12_isSo_6 : decode cX12_isSo 6 = .ok (.imul, 1) := by decide +kernel
theorem dX12_isSo_7 : decode cX12_isSo 7 = .ok (.iadd, 1) := by decide +kernel
theorem dX12_isSo_8 : decode cX12_isSo 8 = .ok (.istore_n 3, 1) := by decide +kernel
theorem dX12_isSo_9 : decode cX12_isSo 9 = .ok (.aload_n 0, 1) := by decide +kernel
theorem dX12_isSo_10 : decode cX12_isSo 10 = .ok (.iload_n 1, 1) := by decide +kernel
theorem dX12_isSo_11 : decode cX12_isSo 11 = .ok (.iload_n 3, 1) := by decide +kernel
theorem dX12_isSo_12 : decode cX12_isSo 12 = .ok (.iconst 1, 1) := by decide +kernel
theorem dX12_isSo_13 : decode cX12_isSo 13 = .ok (.iadd, 1) := by decide +kernel
theorem dX12_isSo_14 : decode cX12_isSo 14 = .ok (.invokevirtual 361, 3) := by decide +kernel
theorem dX12_isSo_17 : decode cX12_isSo 17 = .ok (.istore 4, 2) := by decide +kernel
theorem dX12_isSo_19 : decode cX12_isSo 19 = .ok (.iload 4, 2) := by decide +kernel
theorem dX12_isSo_21 : decode cX12_isSo 21 = .ok (.ifCond .ge 20, 3) := by decide +kernel
theorem dX12_isSo_24 : decode cX12_isSo 24 = .ok (.aload_n 0, 1) := by decide +kernel
theorem dX12_isSo_25 : decode cX12_isSo 25 = .ok (.getfield 20, 3) := by decide +kernel
theorem dX12_isSo_28 : decode cX12_isSo 28 = .ok (.iload_n 3, 1) := by decide +kernel
theorem dX12_isSo_29 : decode cX12_isSo 29 = .ok (.iaload, 1) := by decide +kernel
theorem dX12_isSo_30 : decode cX12_isSo 30 = .ok (.ifCond .ne 7, 3) := by decide +kernel
theorem dX12_isSo_33 : decode cX12_isSo 33 = .ok (.iconst 1, 1) := by decide +kernel
theorem dX12_isSo_34 : decode cX12_isSo 34 = .ok (.goto 47, 3) := by decide +kernel
theorem dX12_isSo_37 : decode cX12_isSo 37 = .ok (.iconst 0, 1) := by decide +kernel
theorem dX12_isSo_38 : decode cX12_isSo 38 = .ok (.goto 43, 3) := by decide +kernel
theorem dX12_isSo_41 : decode cX12_isSo 41 = .ok (.aload_n 0, 1) := by decide +kernel
theorem dX12_isSo_42 : decode cX12_isSo 42 = .ok (.getfield 20, 3) := by decide +kernel
theorem dX12_isSo_45 : decode cX12_isSo 45 = .ok (.iload_n 3, 1) := by decide +kernel
theorem dX12_isSo_46 : decode cX12_isSo 46 = .ok (.iaload, 1) := by decide +kernel
theorem dX12_isSo_47 : decode cX12_isSo 47 = .ok (.iconst 1, 1) := by decide +kernel
theorem dX12_isSo_48 : decode cX12_isSo 48 = .ok (.if_icmp .ne 32, 3) := by decide +kernel
theorem dX12_isSo_51 : decode cX12_isSo 51 = .ok (.aload_n 0, 1) := by decide +kernel
theorem dX12_isSo_52 : decode cX12_isSo 52 = .ok (.getfield 20, 3) := by decide +kernel
theorem dX12_isSo_55 : decode cX12_isSo 55 = .ok (.bipush 59, 2) := by decide +kernel
theorem dX12_isSo_57 : decode cX12_isSo 57 = .ok (.bipush 19, 2) := by decide +kernel
theorem dX12_isSo_59 : decode cX12_isSo 59 = .ok (.iload 4, 2) := by decide +kernel
theorem dX12_isSo_61 : decode cX12_isSo 61 = .ok (.imul, 1) := by decide +kernel
theorem dX12_isSo_62 : decode cX12_isSo 62 = .ok (.iadd, 1) := by decide +kernel
theorem dX12_isSo_63 : decode cX12_isSo 63 = .ok (.bipush 10, 2) := by decide +kernel
theorem dX12_isSo_65 : decode cX12_isSo 65 = .ok (.iadd, 1) := by decide +kernel
theorem dX12_isSo_66 : decode cX12_isSo 66 = .ok (.iload_n 3, 1) := by decide +kernel
theorem dX12_isSo_67 : decode cX12_isSo 67 = .ok (.bipush 10, 2) := by decide +kernel
theorem dX12_isSo_69 : decode cX12_isSo 69 = .ok (.iadd, 1) := by decide +kernel
theorem dX12_isSo_70 : decode cX12_isSo 70 = .ok (.invokestatic 257, 3) := by decide +kernel
theorem dX12_isSo_73 : decode cX12_isSo 73 = .ok (.ifCond .eq 7, 3) := by decide +kernel
theorem dX12_isSo_76 : decode cX12_isSo 76 = .ok (.iconst 1, 1) := by decide +kernel
theorem dX12_isSo_77 : decode cX12_isSo 77 = .ok (.goto 4, 3) := by decide +kernel
theorem dX12_isSo_80 : decode cX12_isSo 80 = .ok (.iconst 0, 1) := by decide +kernel
theorem dX12_isSo_81 : decode cX12_isSo 81 = .ok (.ireturn, 1) := by decide +kernel
theorem dX12_doesFit_0 : decode cX12_doesFit 0 = .ok (.iconst 1, 1) := by decide +kernel
theorem dX12_doesFit_1 : decode cX12_doesFit 1 = .ok (.istore_n 2, 1) := by decide +kernel
theorem dX12_doesFit_2 : decode cX12_doesFit 2 = .ok (.iconst 0, 1) := by decide +kernel
theorem dX12_doesFit_3 : decode cX12_doesFit 3 = .ok (.istore_n 3, 1) := by decide +kernel
theorem dX12_doesFit_4 : decode cX12_doesFit 4 = .ok (.iload_n 3, 1) := by decide +kernel
theorem dX12_doesFit_5 : decode cX12_doesFit 5 = .ok (.aload_n 0, 1) := by decide +kernel
theorem dX12_doesFit_6 : decode cX12_doesFit 6 = .ok (.getfield 20, 3) := by decide +kernel
theorem dX12_doesFit_9 : decode cX12_doesFit 9 = .ok (.bipush 7, 2) := by decide +kernel
theorem dX12_doesFit_11 : decode cX12_doesFit 11 = .ok (.iaload, 1) := by decide +kernel
theorem dX12_doesFit_12 : decode cX12_doesFit 12 = .ok (.if_icmp .ge 28, 3) := by decide +kernel
theorem dX12_doesFit_15 : decode cX12_doesFit 15 = .ok (.iload_n 2, 1) := by decide +kernel
theorem dX12_doesFit_16 : decode cX12_doesFit 16 = .ok (.ifCond .eq 16, 3) := by decide +kernel
theorem dX12_doesFit_19 : decode cX12_doesFit 19 = .ok (.aload_n 0, 1) := by decide +kernel
theorem dX12_doesFit_20 : decode cX12_doesFit 20 = .ok (.iload_n 1, 1) := by decide +kernel
theorem dX12_doesFit_21 : decode cX12_doesFit 21 = .ok (.iload_n 3, 1) := by decide +kernel
theorem dX12_doesFit_22 : decode cX12_doesFit 22 = .ok (.invokevirtual 364, 3) := by decide +kernel
theorem dX12_doesFit_25 : decode cX12_doesFit 25 = .ok (.ifCond .eq 7, 3) := by decide +kernel
theorem dX12_doesFit_28 : decode cX12_doesFit 28 = .ok (.iconst 1, 1) := by decide +kernel
theorem dX12_doesFit_29 : decode cX12_doesFit 29 = .ok (.goto 4, 3) := by decide +kernel
theorem dX12_doesFit_32 : decode cX12_doesFit 32 = .ok (.iconst 0, 1) := by decide +kernel
theorem dX12_doesFit_33 : decode cX12_doesFit 33 = .ok (.istore_n 2, 1) := by decide +kernel
theorem dX12_doesFit_34 : decode cX12_doesFit 34 = .ok (.iinc 3 1, 3) := by decide +kernel
theorem dX12_doesFit_37 : decode cX12_doesFit 37 = .ok (.goto (-33), 3) := by decide +kernel
theorem dX12_doesFit_40 : decode cX12_doesFit 40 = .ok (.iload_n 2, 1) := by decide +kernel
theorem dX12_doesFit_41 : decode cX12_doesFit 41 = .ok (.ireturn, 1) := by decide +kernel
theorem dX12_allOrders_0 : decode cX12_allOrders 0 = .ok (.iconst 1, 1) := by decide +kernel
theorem dX12_allOrders_1 : decode cX12_allOrders 1 = .ok (.aload_n 0, 1) := by decide +kernel
theorem dX12_allOrders_2 : decode cX12_allOrders 2 = .ok (.getfield 20, 3) := by decide +kernel
theorem dX12_allOrders_5 : decode cX12_allOrders 5 = .ok (.bipush 6, 2) := by decide +kernel
theorem dX12_allOrders_7 : decode cX12_allOrders 7 = .ok (.iaload, 1) := by decide +kernel
theorem dX12_allOrders_8 : decode cX12_allOrders 8 = .ok (.ishl, 1) := by decide +kernel
theorem dX12_allOrders_9 : decode cX12_allOrders 9 = .ok (.iconst 1, 1) := by decide +kernel
theorem dX12_allOrders_10 : decode cX12_allOrders 10 = .ok (.isub, 1) := by decide +kernel
theorem dX12_allOrders_11 : decode cX12_allOrders 11 = .ok (.ireturn, 1) := by decide +kernel
theorem dX12_seekFits_0 : decode cX12_seekFits 0 = .ok (.aload_n 0, 1) := by decide +kernel
theorem dX12_seekFits_1 : decode cX12_seekFits 1 = .ok (.iconst 0, 1) := by decide +kernel
theorem dX12_seekFits_2 : decode cX12_seekFits 2 = .ok (.putfield 367, 3) := by decide +kernel
theorem dX12_seekFits_5 : decode cX12_seekFits 5 = .ok (.aload_n 0, 1) := by decide +kernel
theorem dX12_seekFits_6 : decode cX12_seekFits 6 = .ok (.iconst 0, 1) := by decide +kernel
theorem dX12_seekFits_7 : decode cX12_seekFits 7 = .ok (.putfield 370, 3) := by decide +kernel
theorem dX12_seekFits_10 : decode cX12_seekFits 10 = .ok (.aload_n 0, 1) := by decide +kernel
theorem dX12_seekFits_11 : decode cX12_seekFits 11 = .ok (.aload_n 0, 1) := by decide +kernel
theorem dX12_seekFits_12 : decode cX12_seekFits 12 = .ok (.invokevirtual 373, 3) := by decide +kernel
theorem dX12_seekFits_15 : decode cX12_seekFits 15 = .ok (.putfield 376, 3) := by decide +kernel
theorem dX12_seekFits_18 : decode cX12_seekFits 18 = .ok (.iconst 0, 1) := by decide +kernel
theorem dX12_seekFits_19 : decode cX12_seekFits 19 = .ok (.istore_n 1, 1) := by decide +kernel
theorem dX12_seekFits_20 : decode cX12_seekFits 20 = .ok (.iload_n 1, 1) := by decide +kernel
theorem dX12_seekFits_21 : decode cX12_seekFits 21 = .ok (.aload_n 0, 1) := by decide +kernel
theorem dX12_seekFits_22 : decode cX12_seekFits 22 = .ok (.invokevirtual 373, 3) := by decide +kernel
theorem dX12_seekFits_25 : decode cX12_seekFits 25 = .ok (.if_icmp .gt 50, 3) := by decide +kernel
theorem dX12_seekFits_28 : decode cX12_seekFits 28 = .ok (.aload_n 0, 1) := by decide +kernel
theorem dX12_seekFits_29 : decode cX12_seekFits 29 = .ok (.iload_n 1, 1) := by decide +kernel
theorem dX12_seekFits_30 : decode cX12_seekFits 30 = .ok (.invokevirtual 379, 3) := by decide +kernel
theorem dX12_seekFits_33 : decode cX12_seekFits 33 = .ok (.ifCond .ne 6, 3) := by decide +kernel
theorem dX12_seekFits_36 : decode cX12_seekFits 36 = .ok (.goto 33, 3) := by decide +kernel
theorem dX12_seekFits_39 : decode cX12_seekFits 39 = .ok (.aload_n 0, 1) := by decide +kernel
theorem dX12_seekFits_40 : decode cX12_seekFits 40 = .ok (.dup, 1) := by decide +kernel
theorem dX12_seekFits_41 : decode cX12_seekFits 41 = .ok (.getfield 367, 3) := by decide +kernel
theorem dX12_seekFits_44 : decode cX12_seekFits 44 = .ok (.iconst 1, 1) := by decide +kernel
theorem dX12_seekFits_45 : decode cX12_seekFits 45 = .ok (.iadd, 1) := by decide +kernel
theorem dX12_seekFits_46 : decode cX12_seekFits 46 = .ok (.putfield 367, 3) := by decide +kernel
theorem dX12_seekFits_49 : decode cX12_seekFits 49 = .ok (.aload_n 0, 1) := by decide +kernel
theorem dX12_seekFits_50 : decode cX12_seekFits 50 = .ok (.dup, 1) := by decide +kernel
theorem dX12_seekFits_51 : decode cX12_seekFits 51 = .ok (.getfield 370, 3) := by decide +kernel
theorem dX12_seekFits_54 : decode cX12_seekFits 54 = .ok (.iload_n 1, 1) := by decide +kernel
theorem dX12_seekFits_55 : decode cX12_seekFits 55 = .ok (.ior, 1) := by decide +kernel
theorem dX12_seekFits_56 : decode cX12_seekFits 56 = .ok (.putfield 370, 3) := by decide +kernel
theorem dX12_seekFits_59 : decode cX12_seekFits 59 = .ok (.aload_n 0, 1) := by decide +kernel
theorem dX12_seekFits_60 : decode cX12_seekFits 60 = .ok (.dup, 1) := by decide +kernel
theorem dX12_seekFits_61 : decode cX12_seekFits 61 = .ok (.getfield 376, 3) := by decide +kernel
theorem dX12_seekFits_64 : decode cX12_seekFits 64 = .ok (.iload_n 1, 1) := by decide +kernel
theorem dX12_seekFits_65 : decode cX12_seekFits 65 = .ok (.iand, 1) := by decide +kernel
theorem dX12_seekFits_66 : decode cX12_seekFits 66 = .ok (.putfield 376, 3) := by decide +kernel
theorem dX12_seekFits_69 : decode cX12_seekFits 69 = .ok (.iinc 1 1, 3) := by decide +kernel
theorem dX12_seekFits_72 : decode cX12_seekFits 72 = .ok (.goto (-52), 3) := by decide +kernel
theorem dX12_seekFits_75 : decode cX12_seekFits 75 = .ok (.aload_n 0, 1) := by decide +kernel
theorem dX12_seekFits_76 : decode cX12_seekFits 76 = .ok (.getfield 367, 3) := by decide +kernel
theorem dX12_seekFits_79 : decode cX12_seekFits 79 = .ok (.ifCond .ne 8, 3) := by decide +kernel
theorem dX12_seekFits_82 : decode cX12_seekFits 82 = .ok (.aload_n 0, 1) := by decide +kernel
theorem dX12_seekFits_83 : decode cX12_seekFits 83 = .ok (.iconst 0, 1) := by decide +kernel
theorem dX12_seekFits_84 : decode cX12_seekFits 84 = .ok (.putfield 376, 3) := by decide +kernel
theorem dX12_seekFits_87 : decode cX12_seekFits 87 = .ok (.return_, 1) := by decide +kernel
theorem dX12_fits_0 : decode cX12_fits 0 = .ok (.aload_n 0, 1) := by decide +kernel
theorem dX12_fits_1 : decode cX12_fits 1 = .ok (.invokevirtual 165, 3) := by decide +kernel
theorem dX12_fits_4 : decode cX12_fits 4 = .ok (.aload_n 0, 1) := by decide +kernel
theorem dX12_fits_5 : decode cX12_fits 5 = .ok (.getfield 178, 3) := by decide +kernel
theorem dX12_fits_8 : decode cX12_fits 8 = .ok (.ifCond .ne 9, 3) := by decide +kernel
theorem dX12_fits_11 : decode cX12_fits 11 = .ok (.aload_n 0, 1) := by decide +kernel
theorem dX12_fits_12 : decode cX12_fits 12 = .ok (.iconst 1, 1) := by decide +kernel
theorem dX12_fits_13 : decode cX12_fits 13 = .ok (.invokevirtual 168, 3) := by decide +kernel
theorem dX12_fits_16 : decode cX12_fits 16 = .ok (.ireturn, 1) := by decide +kernel
theorem dX12_fits_17 : decode cX12_fits 17 = .ok (.aload_n 0, 1) := by decide +kernel
theorem dX12_fits_18 : decode cX12_fits 18 = .ok (.invokevirtual 382, 3) := by decide +kernel
theorem dX12_fits_21 : decode cX12_fits 21 = .ok (.aload_n 0, 1) := by decide +kernel
theorem dX12_fits_22 : decode cX12_fits 22 = .ok (.getfield 367, 3) := by decide +kernel
theorem dX12_fits_25 : decode cX12_fits 25 = .ok (.ireturn, 1) := by decide +kernel
theorem dX12_could_0 : decode cX12_could 0 = .ok (.aload_n 0, 1) := by decide +kernel
theorem dX12_could_1 : decode cX12_could 1 = .ok (.invokevirtual 165, 3) := by decide +kernel
theorem dX12_could_4 : decode cX12_could 4 = .ok (.aload_n 0, 1) := by decide +kernel
theorem dX12_could_5 : decode cX12_could 5 = .ok (.getfield 178, 3) := by decide +kernel
theorem dX12_could_8 : decode cX12_could 8 = .ok (.ifCond .ne 9, 3) := by decide +kernel
theorem dX12_could_11 : decode cX12_could 11 = .ok (.aload_n 0, 1) := by decide +kernel
theorem dX12_could_12 : decode cX12_could 12 = .ok (.iconst 1, 1) := by decide +kernel
theorem dX12_could_13 : decode cX12_could 13 = .ok (.invokevirtual 168, 3) := by decide +kernel
theorem dX12_could_16 : decode cX12_could 16 = .ok (.ireturn, 1) := by decide +kernel
theorem dX12_could_17 : decode cX12_could 17 = .ok (.aload_n 0, 1) := by decide +kernel
theorem dX12_could_18 : decode cX12_could 18 = .ok (.invokevirtual 382, 3) := by decide +kernel
theorem dX12_could_21 : decode cX12_could 21 = .ok (.aload_n 0, 1) := by decide +kernel
theorem dX12_could_22 : decode cX12_could 22 = .ok (.getfield 370, 3) := by decide +kernel
theorem dX12_could_25 : decode cX12_could 25 = .ok (.ireturn, 1) := by decide +kernel
theorem dX12_surely_0 : decode cX12_surely 0 = .ok (.aload_n 0, 1) := by decide +kernel
theorem dX12_surely_1 : decode cX12_surely 1 = .ok (.invokevirtual 165, 3) := by decide +kernel
theorem dX12_surely_4 : decode cX12_surely 4 = .ok (.aload_n 0, 1) := by decide +kernel
theorem dX12_surely_5 : decode cX12_surely 5 = .ok (.getfield 178, 3) := by decide +kernel
theorem dX12_surely_8 : decode cX12_surely 8 = .ok (.ifCond .ne 9, 3) := by decide +kernel
theorem dX12_surely_11 : decode cX12_surely 11 = .ok (.aload_n 0, 1) := by decide +kernel
theorem dX12_surely_12 : decode cX12_surely 12 = .ok (.iconst 1, 1) := by decide +kernel
theorem dX12_surely_13 : decode cX12_surely 13 = .ok (.invokevirtual 168, 3) := by decide +kernel
theorem dX12_surely_16 : decode cX12_surely 16 = .ok (.ireturn, 1) := by decide +kernel
theorem dX12_surely_17 : decode cX12_surely 17 = .ok (.aload_n 0, 1) := by decide +kernel
theorem dX12_surely_18 : decode cX12_surely 18 = .ok (.invokevirtual 382, 3) := by decide +kernel
theorem dX12_surely_21 : decode cX12_surely 21 = .ok (.aload_n 0, 1) := by decide +kernel
theorem dX12_surely_22 : decode cX12_surely 22 = .ok (.getfield 376, 3) := by decide +kernel
theorem dX12_surely_25 : decode cX12_surely 25 = .ok (.ireturn, 1) := by decide +kernel
theorem dX12_wasSeen_0 : decode cX12_wasSeen 0 = .ok (.iconst 0, 1) := by decide +kernel
theorem dX12_wasSeen_1 : decode cX12_wasSeen 1 = .ok (.istore_n 2, 1) := by decide +kernel
theorem dX12_wasSeen_2 : decode cX12_wasSeen 2 = .ok (.iload_n 2, 1) := by decide +kernel
theorem dX12_wasSeen_3 : decode cX12_wasSeen 3 = .ok (.aload_n 0, 1) := by decide +kernel
theorem dX12_wasSeen_4 : decode cX12_wasSeen 4 = .ok (.getfield 20, 3) := by decide +kernel
theorem dX12_wasSeen_7 : decode cX12_wasSeen 7 = .ok (.bipush 7, 2) := by decide +kernel
theorem dX12_wasSeen_9 : decode cX12_wasSeen 9 = .ok (.iaload, 1) := by decide +kernel
theorem dX12_wasSeen_10 : decode cX12_wasSeen 10 = .ok (.if_icmp .ge 29, 3) := by decide +kernel
theorem dX12_wasSeen_13 : decode cX12_wasSeen 13 = .ok (.aload_n 0, 1) := by decide +kernel
theorem dX12_wasSeen_14 : decode cX12_wasSeen 14 = .ok (.iload_n 1, 1) := by decide +kernel
theorem dX12_wasSeen_15 : decode cX12_wasSeen 15 = .ok (.sipush 173, 3) := by decide +kernel
theorem dX12_wasSeen_18 : decode cX12_wasSeen 18 = .ok (.bipush 19, 2) := by decide +kernel
theorem dX12_wasSeen_20 : decode cX12_wasSeen 20 = .ok (.iload_n 2, 1) := by decide +kernel
theorem dX12_wasSeen_21 : decode cX12_wasSeen 21 = .ok (.imul, 1) := by decide +kernel
theorem dX12_wasSeen_22 : decode cX12_wasSeen 22 = .ok (.iadd, 1) := by decide +kernel
theorem dX12_wasSeen_23 : decode cX12_wasSeen 23 = .ok (.iconst 1, 1) := by decide +kernel
theorem dX12_wasSeen_24 : decode cX12_wasSeen 24 = .ok (.iadd, 1) := by decide +kernel
theorem dX12_wasSeen_25 : decode cX12_wasSeen 25 = .ok (.invokevirtual 355, 3) := by decide +kernel
theorem dX12_wasSeen_28 : decode cX12_wasSeen 28 = .ok (.ifCond .eq 5, 3) := by decide +kernel
theorem dX12_wasSeen_31 : decode cX12_wasSeen 31 = .ok (.iconst 1, 1) := by decide +kernel
theorem dX12_wasSeen_32 : decode cX12_wasSeen 32 = .ok (.ireturn, 1) := by decide +kernel
theorem dX12_wasSeen_33 : decode cX12_wasSeen 33 = .ok (.iinc 2 1, 3) := by decide +kernel
theorem dX12_wasSeen_36 : decode cX12_wasSeen 36 = .ok (.goto (-34), 3) := by decide +kernel
theorem dX12_wasSeen_39 : decode cX12_wasSeen 39 = .ok (.iconst 0, 1) := by decide +kernel
theorem dX12_wasSeen_40 : decode cX12_wasSeen 40 = .ok (.ireturn, 1) := by decide +kernel
theorem dX12_doAlike_0 : decode cX12_doAlike 0 = .ok (.aload_n 0, 1) := by decide +kernel
theorem dX12_doAlike_1 : decode cX12_doAlike 1 = .ok (.iload_n 1, 1) := by decide +kernel
theorem dX12_doAlike_2 : decode cX12_doAlike 2 = .ok (.iload_n 3, 1) := by decide +kernel
theorem dX12_doAlike_3 : decode cX12_doAlike 3 = .ok (.invokevirtual 361, 3) := by decide +kernel
theorem dX12_doAlike_6 : decode cX12_doAlike 6 = .ok (.istore 4, 2) := by decide +kernel
theorem dX12_doAlike_8 : decode cX12_doAlike 8 = .ok (.aload_n 0, 1) := by decide +kernel
theorem dX12_doAlike_9 : decode cX12_doAlike 9 = .ok (.iload_n 2, 1) := by decide +kernel
theorem dX12_doAlike_10 : decode cX12_doAlike 10 = .ok (.iload_n 3, 1) := by decide +kernel
theorem dX12_doAlike_11 : decode cX12_doAlike 11 = .ok (.invokevirtual 361, 3) := by decide +kernel
theorem dX12_doAlike_14 : decode cX12_doAlike 14 = .ok (.istore 5, 2) := by decide +kernel
theorem dX12_doAlike_16 : decode cX12_doAlike 16 = .ok (.iload 4, 2) := by decide +kernel
theorem dX12_doAlike_18 : decode cX12_doAlike 18 = .ok (.ifCond .lt 8, 3) := by decide +kernel
theorem dX12_doAlike_21 : decode cX12_doAlike 21 = .ok (.iload 5, 2) := by decide +kernel
theorem dX12_doAlike_23 : decode cX12_doAlike 23 = .ok (.ifCond .ge 18, 3) := by decide +kernel
theorem dX12_doAlike_26 : decode cX12_doAlike 26 = .ok (.iload 4, 2) := by decide +kernel
theorem dX12_doAlike_28 : decode cX12_doAlike 28 = .ok (.iload 5, 2) := by decide +kernel
theorem dX12_doAlike_30 : decode cX12_doAlike 30 = .ok (.if_icmp .ne 7, 3) := by decide +kernel
theorem dX12_doAlike_33 : decode cX12_doAlike 33 = .ok (.iconst 1, 1) := by decide +kernel
theorem dX12_doAlike_34 : decode cX12_doAlike 34 = .ok (.goto 36, 3) := by decide +kernel
theorem dX12_doAlike_37 : decode cX12_doAlike 37 = .ok (.iconst 0, 1) := by decide +kernel
theorem dX12_doAlike_38 : decode cX12_doAlike 38 = .ok (.goto 32, 3) := by decide +kernel
theorem dX12_doAlike_41 : decode cX12_doAlike 41 = .ok (.aload_n 0, 1) := by decide +kernel
theorem dX12_doAlike_42 : decode cX12_doAlike 42 = .ok (.getfield 20, 3) := by decide +kernel
theorem dX12_doAlike_45 : decode cX12_doAlike 45 = .ok (.bipush 59, 2) := by decide +kernel
theorem dX12_doAlike_47 : decode cX12_doAlike 47 = .ok (.bipush 19, 2) := by decide +kernel
theorem dX12_doAlike_49 : decode cX12_doAlike 49 = .ok (.iload 4, 2) := by decide +kernel
theorem dX12_doAlike_51 : decode cX12_doAlike 51 = .ok (.imul, 1) := by decide +kernel
theorem dX12_doAlike_52 : decode cX12_doAlike 52 = .ok (.iadd, 1) := by decide +kernel
theorem dX12_doAlike_53 : decode cX12_doAlike 53 = .ok (.bipush 10, 2) := by decide +kernel
theorem dX12_doAlike_55 : decode cX12_doAlike 55 = .ok (.iadd, 1) := by decide +kernel
theorem dX12_doAlike_56 : decode cX12_doAlike 56 = .ok (.bipush 59, 2) := by decide +kernel
theorem dX12_doAlike_58 : decode cX12_doAlike 58 = .ok (.bipush 19, 2) := by decide +kernel
theorem dX12_doAlike_60 : decode cX12_doAlike 60 = .ok (.iload 5, 2) := by decide +kernel
theorem dX12_doAlike_62 : decode cX12_doAlike 62 = .ok (.imul, 1) := by decide +kernel
theorem dX12_doAlike_63 : decode cX12_doAlike 63 = .ok (.iadd, 1) := by decide +kernel
theorem dX12_doAlike_64 : decode cX12_doAlike 64 = .ok (.bipush 10, 2) := by decide +kernel
theorem dX12_doAlike_66 : decode cX12_doAlike 66 = .ok (.iadd, 1) := by decide +kernel
theorem dX12_doAlike_67 : decode cX12_doAlike 67 = .ok (.invokestatic 257, 3) := by decide +kernel
theorem dX12_doAlike_70 : decode cX12_doAlike 70 = .ok (.ireturn, 1) := by decide +kernel
theorem dX12_leavesBy_0 : decode cX12_leavesBy 0 = .ok (.bipush 59, 2) := by decide +kernel
theorem dX12_leavesBy_2 : decode cX12_leavesBy 2 = .ok (.bipush 19, 2) := by decide +kernel
theorem dX12_leavesBy_4 : decode cX12_leavesBy 4 = .ok (.iload_n 1, 1) := by decide +kernel
theorem dX12_leavesBy_5 : decode cX12_leavesBy 5 = .ok (.imul, 1) := by decide +kernel
theorem dX12_leavesBy_6 : decode cX12_leavesBy 6 = .ok (.iadd, 1) := by decide +kernel
theorem dX12_leavesBy_7 : decode cX12_leavesBy 7 = .ok (.iconst 1, 1) := by decide +kernel
theorem dX12_leavesBy_8 : decode cX12_leavesBy 8 = .ok (.iadd, 1) := by decide +kernel
theorem dX12_leavesBy_9 : decode cX12_leavesBy 9 = .ok (.istore_n 2, 1) := by decide +kernel
theorem dX12_leavesBy_10 : decode cX12_leavesBy 10 = .ok (.iconst 0, 1) := by decide +kernel
theorem dX12_leavesBy_11 : decode cX12_leavesBy 11 = .ok (.istore_n 3, 1) := by decide +kernel
theorem dX12_leavesBy_12 : decode cX12_leavesBy 12 = .ok (.iconst 0, 1) := by decide +kernel
theorem dX12_leavesBy_13 : decode cX12_leavesBy 13 = .ok (.istore 4, 2) := by decide +kernel
theorem dX12_leavesBy_15 : decode cX12_leavesBy 15 = .ok (.iload 4, 2) := by decide +kernel
theorem dX12_leavesBy_17 : decode cX12_leavesBy 17 = .ok (.aload_n 0, 1) := by decide +kernel
theorem dX12_leavesBy_18 : decode cX12_leavesBy 18 = .ok (.invokevirtual 373, 3) := by decide +kernel
theorem dX12_leavesBy_21 : decode cX12_leavesBy 21 = .ok (.if_icmp .gt 86, 3) := by decide +kernel
theorem dX12_leavesBy_24 : decode cX12_leavesBy 24 = .ok (.aload_n 0, 1) := by decide +kernel
theorem dX12_leavesBy_25 : decode cX12_leavesBy 25 = .ok (.iload 4, 2) := by decide +kernel
theorem dX12_leavesBy_27 : decode cX12_leavesBy 27 = .ok (.invokevirtual 379, 3) := by decide +kernel
theorem dX12_leavesBy_30 : decode cX12_leavesBy 30 = .ok (.ifCond .ne 6, 3) := by decide +kernel
theorem dX12_leavesBy_33 : decode cX12_leavesBy 33 = .ok (.goto 68, 3) := by decide +kernel
theorem dX12_leavesBy_36 : decode cX12_leavesBy 36 = .ok (.iconst 0, 1) := by decide +kernel
theorem dX12_leavesBy_37 : decode cX12_leavesBy 37 = .ok (.istore 5, 2) := by decide +kernel
theorem dX12_leavesBy_39 : decode cX12_leavesBy 39 = .ok (.iconst 0, 1) := by decide +kernel
theorem dX12_leavesBy_40 : decode cX12_leavesBy 40 = .ok (.istore 6, 2) := by decide +kernel
theorem dX12_leavesBy_42 : decode cX12_leavesBy 42 = .ok (.iload 6, 2) := by decide +kernel
theorem dX12_leavesBy_44 : decode cX12_leavesBy 44 = .ok (.aload_n 0, 1) := by decide +kernel
theorem dX12_leavesBy_45 : decode cX12_leavesBy 45 = .ok (.invokevirtual 373, 3) := by decide +kernel
theorem dX12_leavesBy_48 : decode cX12_leavesBy 48 = .ok (.if_icmp .gt 40, 3) := by decide +kernel
theorem dX12_leavesBy_51 : decode cX12_leavesBy 51 = .ok (.iload 5, 2) := by decide +kernel
theorem dX12_leavesBy_53 : decode cX12_leavesBy 53 = .ok (.aload_n 0, 1) := by decide +kernel
theorem dX12_leavesBy_54 : decode cX12_leavesBy 54 = .ok (.iload 6, 2) := by decide +kernel
theorem dX12_leavesBy_56 : decode cX12_leavesBy 56 = .ok (.invokevirtual 379, 3) := by decide +kernel
theorem dX12_leavesBy_59 : decode cX12_leavesBy 59 = .ok (.ifCond .eq 19, 3) := by decide +kernel
theorem dX12_leavesBy_62 : decode cX12_leavesBy 62 = .ok (.aload_n 0, 1) := by decide +kernel
theorem dX12_leavesBy_63 : decode cX12_leavesBy 63 = .ok (.iload 4, 2) := by decide +kernel
theorem dX12_leavesBy_65 : decode cX12_leavesBy 65 = .ok (.iload 6, 2) := by decide +kernel
theorem dX12_leavesBy_67 : decode cX12_leavesBy 67 = .ok (.iload_n 2, 1) := by decide +kernel
theorem dX12_leavesBy_68 : decode cX12_leavesBy 68 = .ok (.invokevirtual 385, 3) := by decide +kernel
theorem dX12_leavesBy_71 : decode cX12_leavesBy 71 = .ok (.ifCond .eq 7, 3) := by decide +kernel
theorem dX12_leavesBy_74 : decode cX12_leavesBy 74 = .ok (.iconst 1, 1) := by decide +kernel
theorem dX12_leavesBy_75 : decode cX12_leavesBy 75 = .ok (.goto 4, 3) := by decide +kernel
theorem dX12_leavesBy_78 : decode cX12_leavesBy 78 = .ok (.iconst 0, 1) := by decide +kernel
theorem dX12_leavesBy_79 : decode cX12_leavesBy 79 = .ok (.iadd, 1) := by decide +kernel
theorem dX12_leavesBy_80 : decode cX12_leavesBy 80 = .ok (.istore 5, 2) := by decide +kernel
theorem dX12_leavesBy_82 : decode cX12_leavesBy 82 = .ok (.iinc 6 1, 3) := by decide +kernel
theorem dX12_leavesBy_85 : decode cX12_leavesBy 85 = .ok (.goto (-43), 3) := by decide +kernel
theorem dX12_leavesBy_88 : decode cX12_leavesBy 88 = .ok (.iload 5, 2) := by decide +kernel
theorem dX12_leavesBy_90 : decode cX12_leavesBy 90 = .ok (.iload_n 3, 1) := by decide +kernel
theorem dX12_leavesBy_91 : decode cX12_leavesBy 91 = .ok (.if_icmp .le 8, 3) := by decide +kernel
theorem dX12_leavesBy_94 : decode cX12_leavesBy 94 = .ok (.iload 5, 2) := by decide +kernel
theorem dX12_leavesBy_96 : decode cX12_leavesBy 96 = .ok (.goto 4, 3) := by decide +kernel
theorem dX12_leavesBy_99 : decode cX12_leavesBy 99 = .ok (.iload_n 3, 1) := by decide +kernel
theorem dX12_leavesBy_100 : decode cX12_leavesBy 100 = .ok (.istore_n 3, 1) := by decide +kernel
theorem dX12_leavesBy_101 : decode cX12_leavesBy 101 = .ok (.iinc 4 1, 3) := by decide +kernel
theorem dX12_leavesBy_104 : decode cX12_leavesBy 104 = .ok (.goto (-89), 3) := by decide +kernel
theorem dX12_leavesBy_107 : decode cX12_leavesBy 107 = .ok (.iload_n 3, 1) := by decide +kernel
theorem dX12_leavesBy_108 : decode cX12_leavesBy 108 = .ok (.ireturn, 1) := by decide +kernel
theorem dX12_askOf_0 : decode cX12_askOf 0 = .ok (.aload_n 0, 1) := by decide +kernel
theorem dX12_askOf_1 : decode cX12_askOf 1 = .ok (.invokevirtual 382, 3) := by decide +kernel
theorem dX12_askOf_4 : decode cX12_askOf 4 = .ok (.bipush (-2), 2) := by decide +kernel
theorem dX12_askOf_6 : decode cX12_askOf 6 = .ok (.istore_n 1, 1) := by decide +kernel
theorem dX12_askOf_7 : decode cX12_askOf 7 = .ok (.aload_n 0, 1) := by decide +kernel
theorem dX12_askOf_8 : decode cX12_askOf 8 = .ok (.bipush (-2), 2) := by decide +kernel
theorem dX12_askOf_10 : decode cX12_askOf 10 = .ok (.putfield 388, 3) := by decide +kernel
theorem dX12_askOf_13 : decode cX12_askOf 13 = .ok (.iconst 0, 1) := by decide +kernel
theorem dX12_askOf_14 : decode cX12_askOf 14 = .ok (.istore_n 2, 1) := by decide +kernel
theorem dX12_askOf_15 : decode cX12_askOf 15 = .ok (.iload_n 2, 1) := by decide +kernel
theorem dX12_askOf_16 : decode cX12_askOf 16 = .ok (.aload_n 0, 1) := by decide +kernel
theorem dX12_askOf_17 : decode cX12_askOf 17 = .ok (.getfield 20, 3) := by decide +kernel
theorem dX12_askOf_20 : decode cX12_askOf 20 = .ok (.bipush 6, 2) := by decide +kernel
theorem dX12_askOf_22 : decode cX12_askOf 22 = .ok (.iaload, 1) := by decide +kernel
theorem dX12_askOf_23 : decode cX12_askOf 23 = .ok (.if_icmp .ge 64, 3) := by decide +kernel
theorem dX12_askOf_26 : decode cX12_askOf 26 = .ok (.aload_n 0, 1) := by decide +kernel
theorem dX12_askOf_27 : decode cX12_askOf 27 = .ok (.getfield 367, 3) := by decide +kernel
theorem dX12_askOf_30 : decode cX12_askOf 30 = .ok (.ifCond .le 57, 3) := by decide +kernel
theorem dX12_askOf_33 : decode cX12_askOf 33 = .ok (.aload_n 0, 1) := by decide +kernel
theorem dX12_askOf_34 : decode cX12_askOf 34 = .ok (.iload_n 2, 1) := by decide +kernel
theorem dX12_askOf_35 : decode cX12_askOf 35 = .ok (.invokevirtual 391, 3) := by decide +kernel
theorem dX12_askOf_38 : decode cX12_askOf 38 = .ok (.ifCond .ne 43, 3) := by decide +kernel
theorem dX12_askOf_41 : decode cX12_askOf 41 = .ok (.aload_n 0, 1) := by decide +kernel
theorem dX12_askOf_42 : decode cX12_askOf 42 = .ok (.iload_n 2, 1) := by decide +kernel
theorem dX12_askOf_43 : decode cX12_askOf 43 = .ok (.invokevirtual 394, 3) := by decide +kernel
theorem dX12_askOf_46 : decode cX12_askOf 46 = .ok (.iload_n 2, 1) := by decide +kernel
theorem dX12_askOf_47 : decode cX12_askOf 47 = .ok (.if_icmp .eq 6, 3) := by decide +kernel
theorem dX12_askOf_50 : decode cX12_askOf 50 = .ok (.goto 31, 3) := by decide +kernel
theorem dX12_askOf_53 : decode cX12_askOf 53 = .ok (.aload_n 0, 1) := by decide +kernel
theorem dX12_askOf_54 : decode cX12_askOf 54 = .ok (.iload_n 2, 1) := by decide +kernel
theorem dX12_askOf_55 : decode cX12_askOf 55 = .ok (.invokevirtual 397, 3) := by decide +kernel
theorem dX12_askOf_58 : decode cX12_askOf 58 = .ok (.istore_n 3, 1) := by decide +kernel
theorem dX12_askOf_59 : decode cX12_askOf 59 = .ok (.iload_n 1, 1) := by decide +kernel
theorem dX12_askOf_60 : decode cX12_askOf 60 = .ok (.ifCond .lt 14, 3) := by decide +kernel
theorem dX12_askOf_63 : decode cX12_askOf 63 = .ok (.iload_n 3, 1) := by decide +kernel
theorem dX12_askOf_64 : decode cX12_askOf 64 = .ok (.aload_n 0, 1) := by decide +kernel
theorem dX12_askOf_65 : decode cX12_askOf 65 = .ok (.getfield 388, 3) := by decide +kernel
theorem dX12_askOf_68 : decode cX12_askOf 68 = .ok (.if_icmp .lt 6, 3) := by decide +kernel
theorem dX12_askOf_71 : decode cX12_askOf 71 = .ok (.goto 10, 3) := by decide +kernel
theorem dX12_askOf_74 : decode cX12_askOf 74 = .ok (.iload_n 2, 1) := by decide +kernel
theorem dX12_askOf_75 : decode cX12_askOf 75 = .ok (.istore_n 1, 1) := by decide +kernel
theorem dX12_askOf_76 : decode cX12_askOf 76 = .ok (.aload_n 0, 1) := by decide +kernel
theorem dX12_askOf_77 : decode cX12_askOf 77 = .ok (.iload_n 3, 1) := by decide +kernel
theorem dX12_askOf_78 : decode cX12_askOf 78 = .ok (.putfield 388, 3) := by decide +kernel
theorem dX12_askOf_81 : decode cX12_askOf 81 = .ok (.iinc 2 1, 3) := by decide +kernel
theorem dX12_askOf_84 : decode cX12_askOf 84 = .ok (.goto (-69), 3) := by decide +kernel
theorem dX12_askOf_87 : decode cX12_askOf 87 = .ok (.iload_n 1, 1) := by decide +kernel
theorem dX12_askOf_88 : decode cX12_askOf 88 = .ok (.ireturn, 1) := by decide +kernel
theorem dX12_firstOf_0 : decode cX12_firstOf 0 = .ok (.iconst 0, 1) := by decide +kernel
theorem dX12_firstOf_1 : decode cX12_firstOf 1 = .ok (.istore_n 2, 1) := by decide +kernel
theorem dX12_firstOf_2 : decode cX12_firstOf 2 = .ok (.aload_n 0, 1) := by decide +kernel
theorem dX12_firstOf_3 : decode cX12_firstOf 3 = .ok (.iload_n 2, 1) := by decide +kernel
theorem dX12_firstOf_4 : decode cX12_firstOf 4 = .ok (.bipush 59, 2) := by decide +kernel
theorem dX12_firstOf_6 : decode cX12_firstOf 6 = .ok (.bipush 19, 2) := by decide +kernel
theorem dX12_firstOf_8 : decode cX12_firstOf 8 = .ok (.iload_n 1, 1) := by decide +kernel
theorem dX12_firstOf_9 : decode cX12_firstOf 9 = .ok (.imul, 1) := by decide +kernel
theorem dX12_firstOf_10 : decode cX12_firstOf 10 = .ok (.iadd, 1) := by decide +kernel
theorem dX12_firstOf_11 : decode cX12_firstOf 11 = .ok (.iconst 1, 1) := by decide +kernel
theorem dX12_firstOf_12 : decode cX12_firstOf 12 = .ok (.iadd, 1) := by decide +kernel
theorem dX12_firstOf_13 : decode cX12_firstOf 13 = .ok (.invokevirtual 355, 3) := by decide +kernel
theorem dX12_firstOf_16 : decode cX12_firstOf 16 = .ok (.ifCond .ne 9, 3) := by decide +kernel
theorem dX12_firstOf_19 : decode cX12_firstOf 19 = .ok (.iinc 2 1, 3) := by decide +kernel
theorem dX12_firstOf_22 : decode cX12_firstOf 22 = .ok (.goto (-20), 3) := by decide +kernel
theorem dX12_firstOf_25 : decode cX12_firstOf 25 = .ok (.iload_n 2, 1) := by decide +kernel
theorem dX12_firstOf_26 : decode cX12_firstOf 26 = .ok (.ireturn, 1) := by decide +kernel
theorem dX12_ask_0 : decode cX12_ask 0 = .ok (.aload_n 0, 1) := by decide +kernel
theorem dX12_ask_1 : decode cX12_ask 1 = .ok (.invokevirtual 165, 3) := by decide +kernel
theorem dX12_ask_4 : decode cX12_ask 4 = .ok (.aload_n 0, 1) := by decide +kernel
theorem dX12_ask_5 : decode cX12_ask 5 = .ok (.getfield 178, 3) := by decide +kernel
theorem dX12_ask_8 : decode cX12_ask 8 = .ok (.ifCond .eq 10, 3) := by decide +kernel
theorem dX12_ask_11 : decode cX12_ask 11 = .ok (.aload_n 0, 1) := by decide +kernel
theorem dX12_ask_12 : decode cX12_ask 12 = .ok (.invokevirtual 400, 3) := by decide +kernel
theorem dX12_ask_15 : decode cX12_ask 15 = .ok (.goto 8, 3) := by decide +kernel
theorem dX12_ask_18 : decode cX12_ask 18 = .ok (.aload_n 0, 1) := by decide +kernel
theorem dX12_ask_19 : decode cX12_ask 19 = .ok (.iconst 1, 1) := by decide +kernel
theorem dX12_ask_20 : decode cX12_ask 20 = .ok (.invokevirtual 168, 3) := by decide +kernel
theorem dX12_ask_23 : decode cX12_ask 23 = .ok (.ireturn, 1) := by decide +kernel
theorem dX12_askLeaves_0 : decode cX12_askLeaves 0 = .ok (.aload_n 0, 1) := by decide +kernel
theorem dX12_askLeaves_1 : decode cX12_askLeaves 1 = .ok (.invokevirtual 165, 3) := by decide +kernel
theorem dX12_askLeaves_4 : decode cX12_askLeaves 4 = .ok (.aload_n 0, 1) := by decide +kernel
theorem dX12_askLeaves_5 : decode cX12_askLeaves 5 = .ok (.getfield 178, 3) := by decide +kernel
theorem dX12_askLeaves_8 : decode cX12_askLeaves 8 = .ok (.ifCond .ne 9, 3) := by decide +kernel
theorem dX12_askLeaves_11 : decode cX12_askLeaves 11 = .ok (.aload_n 0, 1) := by decide +kernel
theorem dX12_askLeaves_12 : decode cX12_askLeaves 12 = .ok (.iconst 1, 1) := by decide +kernel
theorem dX12_askLeaves_13 : decode cX12_askLeaves 13 = .ok (.invokevirtual 168, 3) := by decide +kernel
theorem dX12_askLeaves_16 : decode cX12_askLeaves 16 = .ok (.ireturn, 1) := by decide +kernel
theorem dX12_askLeaves_17 : decode cX12_askLeaves 17 = .ok (.aload_n 0, 1) := by decide +kernel
theorem dX12_askLeaves_18 : decode cX12_askLeaves 18 = .ok (.invokevirtual 400, 3) := by decide +kernel
theorem dX12_askLeaves_21 : decode cX12_askLeaves 21 = .ok (.pop, 1) := by decide +kernel
theorem dX12_askLeaves_22 : decode cX12_askLeaves 22 = .ok (.aload_n 0, 1) := by decide +kernel
theorem dX12_askLeaves_23 : decode cX12_askLeaves 23 = .ok (.getfield 388, 3) := by decide +kernel
theorem dX12_askLeaves_26 : decode cX12_askLeaves 26 = .ok (.ireturn, 1) := by decide +kernel
theorem dX12_judge_0 : decode cX12_judge 0 = .ok (.aload_n 0, 1) := by decide +kernel
theorem dX12_judge_1 : decode cX12_judge 1 = .ok (.invokevirtual 165, 3) := by decide +kernel
theorem dX12_judge_4 : decode cX12_judge 4 = .ok (.aload_n 0, 1) := by decide +kernel
theorem dX12_judge_5 : decode cX12_judge 5 = .ok (.getfield 178, 3) := by decide +kernel
theorem dX12_judge_8 : decode cX12_judge 8 = .ok (.ifCond .ne 9, 3) := by decide +kernel
theorem dX12_judge_11 : decode cX12_judge 11 = .ok (.aload_n 0, 1) := by decide +kernel
theorem dX12_judge_12 : decode cX12_judge 12 = .ok (.iconst 1, 1) := by decide +kernel
theorem dX12_judge_13 : decode cX12_judge 13 = .ok (.invokevirtual 168, 3) := by decide +kernel
theorem dX12_judge_16 : decode cX12_judge 16 = .ok (.ireturn, 1) := by decide +kernel
theorem dX12_judge_17 : decode cX12_judge 17 = .ok (.iconst 0, 1) := by decide +kernel
theorem dX12_judge_18 : decode cX12_judge 18 = .ok (.istore_n 1, 1) := by decide +kernel
theorem dX12_judge_19 : decode cX12_judge 19 = .ok (.iload_n 1, 1) := by decide +kernel
theorem dX12_judge_20 : decode cX12_judge 20 = .ok (.aload_n 0, 1) := by decide +kernel
theorem dX12_judge_21 : decode cX12_judge 21 = .ok (.getfield 20, 3) := by decide +kernel
theorem dX12_judge_24 : decode cX12_judge 24 = .ok (.bipush 7, 2) := by decide +kernel
theorem dX12_judge_26 : decode cX12_judge 26 = .ok (.iaload, 1) := by decide +kernel
theorem dX12_judge_27 : decode cX12_judge 27 = .ok (.if_icmp .ge 23, 3) := by decide +kernel
theorem dX12_judge_30 : decode cX12_judge 30 = .ok (.aload_n 0, 1) := by decide +kernel
theorem dX12_judge_31 : decode cX12_judge 31 = .ok (.aload_n 0, 1) := by decide +kernel
theorem dX12_judge_32 : decode cX12_judge 32 = .ok (.invokevirtual 373, 3) := by decide +kernel
theorem dX12_judge_35 : decode cX12_judge 35 = .ok (.iload_n 1, 1) := by decide +kernel
theorem dX12_judge_36 : decode cX12_judge 36 = .ok (.invokevirtual 364, 3) := by decide +kernel
theorem dX12_judge_39 : decode cX12_judge 39 = .ok (.ifCond .ne 5, 3) := by decide +kernel
theorem dX12_judge_42 : decode cX12_judge 42 = .ok (.iload_n 1, 1) := by decide +kernel
theorem dX12_judge_43 : decode cX12_judge 43 = .ok (.ireturn, 1) := by decide +kernel
theorem dX12_judge_44 : decode cX12_judge 44 = .ok (.iinc 1 1, 3) := by decide +kernel
theorem dX12_judge_47 : decode cX12_judge 47 = .ok (.goto (-28), 3) := by decide +kernel
theorem dX12_judge_50 : decode cX12_judge 50 = .ok (.bipush (-2), 2) := by decide +kernel
theorem dX12_judge_52 : decode cX12_judge 52 = .ok (.ireturn, 1) := by decide +kernel
theorem dX12_together_0 : decode cX12_together 0 = .ok (.aload_n 0, 1) := by decide +kernel
theorem dX12_together_1 : decode cX12_together 1 = .ok (.invokevirtual 165, 3) := by decide +kernel
theorem dX12_together_4 : decode cX12_together 4 = .ok (.aload_n 0, 1) := by decide +kernel
theorem dX12_together_5 : decode cX12_together 5 = .ok (.getfield 178, 3) := by decide +kernel
theorem dX12_together_8 : decode cX12_together 8 = .ok (.ifCond .eq 15, 3) := by decide +kernel
theorem dX12_together_11 : decode cX12_together 11 = .ok (.iload_n 1, 1) := by decide +kernel
theorem dX12_together_12 : decode cX12_together 12 = .ok (.iconst 0, 1) := by decide +kernel
theorem dX12_together_13 : decode cX12_together 13 = .ok (.aload_n 0, 1) := by decide +kernel
theorem dX12_together_14 : decode cX12_together 14 = .ok (.invokevirtual 373, 3) := by decide +kernel
theorem dX12_together_17 : decode cX12_together 17 = .ok (.invokestatic 146, 3) := by decide +kernel
theorem dX12_together_20 : decode cX12_together 20 = .ok (.ifCond .ne 9, 3) := by decide +kernel
theorem dX12_together_23 : decode cX12_together 23 = .ok (.aload_n 0, 1) := by decide +kernel
theorem dX12_together_24 : decode cX12_together 24 = .ok (.iconst 1, 1) := by decide +kernel
theorem dX12_together_25 : decode cX12_together 25 = .ok (.invokevirtual 168, 3) := by decide +kernel
theorem dX12_together_28 : decode cX12_together 28 = .ok (.ireturn, 1) := by decide +kernel
theorem dX12_together_29 : decode cX12_together 29 = .ok (.bipush (-2), 2) := by decide +kernel
theorem dX12_together_31 : decode cX12_together 31 = .ok (.istore_n 2, 1) := by decide +kernel
theorem dX12_together_32 : decode cX12_together 32 = .ok (.iconst 0, 1) := by decide +kernel
theorem dX12_together_33 : decode cX12_together 33 = .ok (.istore_n 3, 1) := by decide +kernel
theorem dX12_together_34 : decode cX12_together 34 = .ok (.iload_n 3, 1) := by decide +kernel
theorem dX12_together_35 : decode cX12_together 35 = .ok (.aload_n 0, 1) := by decide +kernel
theorem dX12_together_36 : decode cX12_together 36 = .ok (.getfield 20, 3) := by decide +kernel
theorem dX12_together_39 : decode cX12_together 39 = .ok (.bipush 6, 2) := by decide +kernel
theorem dX12_together_41 : decode cX12_together 41 = .ok (.iaload, 1) := by decide +kernel
theorem dX12_together_42 : decode cX12_together 42 = .ok (.if_icmp .ge 102, 3) := by decide +kernel
theorem dX12_together_45 : decode cX12_together 45 = .ok (.iconst 0, 1) := by decide +kernel
theorem dX12_together_46 : decode cX12_together 46 = .ok (.istore 4, 2) := by decide +kernel
theorem dX12_together_48 : decode cX12_together 48 = .ok (.iconst 0, 1) := by decide +kernel
theorem dX12_together_49 : decode cX12_together 49 = .ok (.istore 5, 2) := by decide +kernel
theorem dX12_together_51 : decode cX12_together 51 = .ok (.iload 5, 2) := by decide +kernel
theorem dX12_together_53 : decode cX12_together 53 = .ok (.aload_n 0, 1) := by decide +kernel
theorem dX12_together_54 : decode cX12_together 54 = .ok (.getfield 20, 3) := by decide +kernel
theorem dX12_together_57 : decode cX12_together 57 = .ok (.bipush 6, 2) := by decide +kernel
theorem dX12_together_59 : decode cX12_together 59 = .ok (.iaload, 1) := by decide +kernel
theorem dX12_together_60 : decode cX12_together 60 = .ok (.if_icmp .ge 48, 3) := by decide +kernel
theorem dX12_together_63 : decode cX12_together 63 = .ok (.iload 4, 2) := by decide +kernel
theorem dX12_together_65 : decode cX12_together 65 = .ok (.ifCond .ne 30, 3) := by decide +kernel
theorem dX12_together_68 : decode cX12_together 68 = .ok (.iload_n 1, 1) := by decide +kernel
theorem dX12_together_69 : decode cX12_together 69 = .ok (.iload 5, 2) := by decide +kernel
theorem dX12_together_71 : decode cX12_together 71 = .ok (.invokestatic 241, 3) := by decide +kernel
theorem dX12_together_74 : decode cX12_together 74 = .ok (.ifCond .eq 25, 3) := by decide +kernel
theorem dX12_together_77 : decode cX12_together 77 = .ok (.aload_n 0, 1) := by decide +kernel
theorem dX12_together_78 : decode cX12_together 78 = .ok (.iload_n 3, 1) := by decide +kernel
theorem dX12_together_79 : decode cX12_together 79 = .ok (.bipush 59, 2) := by decide +kernel
theorem dX12_together_81 : decode cX12_together 81 = .ok (.bipush 19, 2) := by decide +kernel
theorem dX12_together_83 : decode cX12_together 83 = .ok (.iload 5, 2) := by decide +kernel
theorem dX12_together_85 : decode cX12_together 85 = .ok (.imul, 1) := by decide +kernel
theorem dX12_together_86 : decode cX12_together 86 = .ok (.iadd, 1) := by decide +kernel
theorem dX12_together_87 : decode cX12_together 87 = .ok (.iconst 1, 1) := by decide +kernel
theorem dX12_together_88 : decode cX12_together 88 = .ok (.iadd, 1) := by decide +kernel
theorem dX12_together_89 : decode cX12_together 89 = .ok (.invokevirtual 355, 3) := by decide +kernel
theorem dX12_together_92 : decode cX12_together 92 = .ok (.ifCond .eq 7, 3) := by decide +kernel
theorem dX12_together_95 : decode cX12_together 95 = .ok (.iconst 1, 1) := by decide +kernel
theorem dX12_together_96 : decode cX12_together 96 = .ok (.goto 4, 3) := by decide +kernel
theorem dX12_together_99 : decode cX12_together 99 = .ok (.iconst 0, 1) := by decide +kernel
theorem dX12_together_100 : decode cX12_together 100 = .ok (.istore 4, 2) := by decide +kernel
theorem dX12_together_102 : decode cX12_together 102 = .ok (.iinc 5 1, 3) := by decide +kernel
theorem dX12_together_105 : decode cX12_together 105 = .ok (.goto (-54), 3) := by decide +kernel
theorem dX12_together_108 : decode cX12_together 108 = .ok (.iload 4, 2) := by decide +kernel
theorem dX12_together_110 : decode cX12_together 110 = .ok (.ifCond .eq 28, 3) := by decide +kernel
theorem dX12_together_113 : decode cX12_together 113 = .ok (.iload_n 2, 1) := by decide +kernel
theorem dX12_together_114 : decode cX12_together 114 = .ok (.ifCond .lt 22, 3) := by decide +kernel
theorem dX12_together_117 : decode cX12_together 117 = .ok (.aload_n 0, 1) := by decide +kernel
theorem dX12_together_118 : decode cX12_together 118 = .ok (.getfield 20, 3) := by decide +kernel
theorem dX12_together_121 : decode cX12_together 121 = .ok (.iload_n 3, 1) := by decide +kernel
theorem dX12_together_122 : decode cX12_together 122 = .ok (.invokestatic 358, 3) := by decide +kernel
theorem dX12_together_125 : decode cX12_together 125 = .ok (.aload_n 0, 1) := by decide +kernel
theorem dX12_together_126 : decode cX12_together 126 = .ok (.getfield 20, 3) := by decide +kernel
theorem dX12_together_129 : decode cX12_together 129 = .ok (.iload_n 2, 1) := by decide +kernel
theorem dX12_together_130 : decode cX12_together 130 = .ok (.invokestatic 358, 3) := by decide +kernel
theorem dX12_together_133 : decode cX12_together 133 = .ok (.if_icmp .lt 5, 3) := by decide +kernel
theorem dX12_together_136 : decode cX12_together 136 = .ok (.iload_n 3, 1) := by decide +kernel
theorem dX12_together_137 : decode cX12_together 137 = .ok (.istore_n 2, 1) := by decide +kernel
theorem dX12_together_138 : decode cX12_together 138 = .ok (.iinc 3 1, 3) := by decide +kernel
theorem dX12_together_141 : decode cX12_together 141 = .ok (.goto (-107), 3) := by decide +kernel
theorem dX12_together_144 : decode cX12_together 144 = .ok (.iload_n 2, 1) := by decide +kernel
theorem dX12_together_145 : decode cX12_together 145 = .ok (.ireturn, 1) := by decide +kernel
theorem dX12_clash_0 : decode cX12_clash 0 = .ok (.aload_n 0, 1) := by decide +kernel
theorem dX12_clash_1 : decode cX12_clash 1 = .ok (.invokevirtual 165, 3) := by decide +kernel
theorem dX12_clash_4 : decode cX12_clash 4 = .ok (.aload_n 0, 1) := by decide +kernel
theorem dX12_clash_5 : decode cX12_clash 5 = .ok (.getfield 178, 3) := by decide +kernel
theorem dX12_clash_8 : decode cX12_clash 8 = .ok (.ifCond .ne 9, 3) := by decide +kernel
theorem dX12_clash_11 : decode cX12_clash 11 = .ok (.aload_n 0, 1) := by decide +kernel
theorem dX12_clash_12 : decode cX12_clash 12 = .ok (.iconst 1, 1) := by decide +kernel
theorem dX12_clash_13 : decode cX12_clash 13 = .ok (.invokevirtual 168, 3) := by decide +kernel
theorem dX12_clash_16 : decode cX12_clash 16 = .ok (.ireturn, 1) := by decide +kernel
theorem dX12_clash_17 : decode cX12_clash 17 = .ok (.iconst 0, 1) := by decide +kernel
theorem dX12_clash_18 : decode cX12_clash 18 = .ok (.istore_n 1, 1) := by decide +kernel
theorem dX12_clash_19 : decode cX12_clash 19 = .ok (.iload_n 1, 1) := by decide +kernel
theorem dX12_clash_20 : decode cX12_clash 20 = .ok (.aload_n 0, 1) := by decide +kernel
theorem dX12_clash_21 : decode cX12_clash 21 = .ok (.getfield 20, 3) := by decide +kernel
theorem dX12_clash_24 : decode cX12_clash 24 = .ok (.bipush 6, 2) := by decide +kernel
theorem dX12_clash_26 : decode cX12_clash 26 = .ok (.iaload, 1) := by decide +kernel
theorem dX12_clash_27 : decode cX12_clash 27 = .ok (.if_icmp .ge 84, 3) := by decide +kernel
theorem dX12_clash_30 : decode cX12_clash 30 = .ok (.iload_n 1, 1) := by decide +kernel
theorem dX12_clash_31 : decode cX12_clash 31 = .ok (.iconst 1, 1) := by decide +kernel
theorem dX12_clash_32 : decode cX12_clash 32 = .ok (.iadd, 1) := by decide +kernel
theorem dX12_clash_33 : decode cX12_clash 33 = .ok (.istore_n 2, 1) := by decide +kernel
theorem dX12_clash_34 : decode cX12_clash 34 = .ok (.iload_n 2, 1) := by decide +kernel
theorem dX12_clash_35 : decode cX12_clash 35 = .ok (.aload_n 0, 1) := by decide +kernel
theorem dX12_clash_36 : decode cX12_clash 36 = .ok (.getfield 20, 3) := by decide +kernel
theorem dX12_clash_39 : decode cX12_clash 39 = .ok (.bipush 6, 2) := by decide +kernel
theorem dX12_clash_41 : decode cX12_clash 41 = .ok (.iaload, 1) := by decide +kernel
theorem dX12_clash_42 : decode cX12_clash 42 = .ok (.if_icmp .ge 63, 3) := by decide +kernel
theorem dX12_clash_45 : decode cX12_clash 45 = .ok (.aload_n 0, 1) := by decide +kernel
theorem dX12_clash_46 : decode cX12_clash 46 = .ok (.iload_n 1, 1) := by decide +kernel
theorem dX12_clash_47 : decode cX12_clash 47 = .ok (.bipush 59, 2) := by decide +kernel
theorem dX12_clash_49 : decode cX12_clash 49 = .ok (.bipush 19, 2) := by decide +kernel
theorem dX12_clash_51 : decode cX12_clash 51 = .ok (.iload_n 2, 1) := by decide +kernel
theorem dX12_clash_52 : decode cX12_clash 52 = .ok (.imul, 1) := by decide +kernel
theorem dX12_clash_53 : decode cX12_clash 53 = .ok (.iadd, 1) := by decide +kernel
theorem dX12_clash_54 : decode cX12_clash 54 = .ok (.iconst 1, 1) := by decide +kernel
theorem dX12_clash_55 : decode cX12_clash 55 = .ok (.iadd, 1) := by decide +kernel
theorem dX12_clash_56 : decode cX12_clash 56 = .ok (.invokevirtual 355, 3) := by decide +kernel
theorem dX12_clash_59 : decode cX12_clash 59 = .ok (.ifCond .eq 40, 3) := by decide +kernel
theorem dX12_clash_62 : decode cX12_clash 62 = .ok (.aload_n 0, 1) := by decide +kernel
theorem dX12_clash_63 : decode cX12_clash 63 = .ok (.getfield 20, 3) := by decide +kernel
theorem dX12_clash_66 : decode cX12_clash 66 = .ok (.bipush 59, 2) := by decide +kernel
theorem dX12_clash_68 : decode cX12_clash 68 = .ok (.bipush 19, 2) := by decide +kernel
theorem dX12_clash_70 : decode cX12_clash 70 = .ok (.iload_n 1, 1) := by decide +kernel
theorem dX12_clash_71 : decode cX12_clash 71 = .ok (.imul, 1) := by decide +kernel
theorem dX12_clash_72 : decode cX12_clash 72 = .ok (.iadd, 1) := by decide +kernel
theorem dX12_clash_73 : decode cX12_clash 73 = .ok (.bipush 10, 2) := by decide +kernel
theorem dX12_clash_75 : decode cX12_clash 75 = .ok (.iadd, 1) := by decide +kernel
theorem dX12_clash_76 : decode cX12_clash 76 = .ok (.bipush 59, 2) := by decide +kernel
theorem dX12_clash_78 : decode cX12_clash 78 = .ok (.bipush 19, 2) := by decide +kernel
theorem dX12_clash_80 : decode cX12_clash 80 = .ok (.iload_n 2, 1) := by decide +kernel
theorem dX12_clash_81 : decode cX12_clash 81 = .ok (.imul, 1) := by decide +kernel
theorem dX12_clash_82 : decode cX12_clash 82 = .ok (.iadd, 1) := by decide +kernel
theorem dX12_clash_83 : decode cX12_clash 83 = .ok (.bipush 10, 2) := by decide +kernel
theorem dX12_clash_85 : decode cX12_clash 85 = .ok (.iadd, 1) := by decide +kernel
theorem dX12_clash_86 : decode cX12_clash 86 = .ok (.invokestatic 257, 3) := by decide +kernel
theorem dX12_clash_89 : decode cX12_clash 89 = .ok (.ifCond .ne 10, 3) := by decide +kernel
theorem dX12_clash_92 : decode cX12_clash 92 = .ok (.bipush 10, 2) := by decide +kernel
theorem dX12_clash_94 : decode cX12_clash 94 = .ok (.iload_n 1, 1) := by decide +kernel
theorem dX12_clash_95 : decode cX12_clash 95 = .ok (.imul, 1) := by decide +kernel
theorem dX12_clash_96 : decode cX12_clash 96 = .ok (.iload_n 2, 1) := by decide +kernel
theorem dX12_clash_97 : decode cX12_clash 97 = .ok (.iadd, 1) := by decide +kernel
theorem dX12_clash_98 : decode cX12_clash 98 = .ok (.ireturn, 1) := by decide +kernel
theorem dX12_clash_99 : decode cX12_clash 99 = .ok (.iinc 2 1, 3) := by decide +kernel
theorem dX12_clash_102 : decode cX12_clash 102 = .ok (.goto (-68), 3) := by decide +kernel
theorem dX12_clash_105 : decode cX12_clash 105 = .ok (.iinc 1 1, 3) := by decide +kernel
theorem dX12_clash_108 : decode cX12_clash 108 = .ok (.goto (-89), 3) := by decide +kernel
theorem dX12_clash_111 : decode cX12_clash 111 = .ok (.bipush (-2), 2) := by decide +kernel
theorem dX12_clash_113 : decode cX12_clash 113 = .ok (.ireturn, 1) := by decide +kernel
theorem dX12_envoysOf_0 : decode cX12_envoysOf 0 = .ok (.iload_n 1, 1) := by decide +kernel
theorem dX12_envoysOf_1 : decode cX12_envoysOf 1 = .ok (.iload_n 2, 1) := by decide +kernel
theorem dX12_envoysOf_2 : decode cX12_envoysOf 2 = .ok (.iadd, 1) := by decide +kernel
theorem dX12_envoysOf_3 : decode cX12_envoysOf 3 = .ok (.ifCond .ne 7, 3) := by decide +kernel
theorem dX12_envoysOf_6 : decode cX12_envoysOf 6 = .ok (.iconst 0, 1) := by decide +kernel
theorem dX12_envoysOf_7 : decode cX12_envoysOf 7 = .ok (.goto 25, 3) := by decide +kernel
theorem dX12_envoysOf_10 : decode cX12_envoysOf 10 = .ok (.iload_n 0, 1) := by decide +kernel
theorem dX12_envoysOf_11 : decode cX12_envoysOf 11 = .ok (.iload_n 1, 1) := by decide +kernel
theorem dX12_envoysOf_12 : decode cX12_envoysOf 12 = .ok (.imul, 1) := by decide +kernel
theorem dX12_envoysOf_13 : decode cX12_envoysOf 13 = .ok (.iload_n 1, 1) := by decide +kernel
theorem dX12_envoysOf_14 : decode cX12_envoysOf 14 = .ok (.iload_n 2, 1) := by decide +kernel
theorem dX12_envoysOf_15 : decode cX12_envoysOf 15 = .ok (.iadd, 1) := by decide +kernel
theorem dX12_envoysOf_16 : decode cX12_envoysOf 16 = .ok (.idiv, 1) := by decide +kernel
theorem dX12_envoysOf_17 : decode cX12_envoysOf 17 = .ok (.iconst 3, 1) := by decide +kernel
theorem dX12_envoysOf_18 : decode cX12_envoysOf 18 = .ok (.iload_n 1, 1) := by decide +kernel
theorem dX12_envoysOf_19 : decode cX12_envoysOf 19 = .ok (.imul, 1) := by decide +kernel
theorem dX12_envoysOf_20 : decode cX12_envoysOf 20 = .ok (.isub, 1) := by decide +kernel
theorem dX12_envoysOf_21 : decode cX12_envoysOf 21 = .ok (.iload_n 1, 1) := by decide +kernel
theorem dX12_envoysOf_22 : decode cX12_envoysOf 22 = .ok (.iload_n 2, 1) := by decide +kernel
theorem dX12_envoysOf_23 : decode cX12_envoysOf 23 = .ok (.if_icmp .le 7, 3) := by decide +kernel
theorem dX12_envoysOf_26 : decode cX12_envoysOf 26 = .ok (.iconst 2, 1) := by decide +kernel
theorem dX12_envoysOf_27 : decode cX12_envoysOf 27 = .ok (.goto 4, 3) := by decide +kernel
theorem dX12_envoysOf_30 : decode cX12_envoysOf 30 = .ok (.iconst 0, 1) := by decide +kernel
theorem dX12_envoysOf_31 : decode cX12_envoysOf 31 = .ok (.iadd, 1) := by decide +kernel
theorem dX12_envoysOf_32 : decode cX12_envoysOf 32 = .ok (.ireturn, 1) := by decide +kernel
theorem dX12_worthWhy_0 : decode cX12_worthWhy 0 = .ok (.aload_n 0, 1) := by decide +kernel
theorem dX12_worthWhy_1 : decode cX12_worthWhy 1 = .ok (.getfield 178, 3) := by decide +kernel
theorem dX12_worthWhy_4 : decode cX12_worthWhy 4 = .ok (.ifCond .ne 7, 3) := by decide +kernel
theorem dX12_worthWhy_7 : decode cX12_worthWhy 7 = .ok (.iconst 1, 1) := by decide +kernel
theorem dX12_worthWhy_8 : decode cX12_worthWhy 8 = .ok (.goto 18, 3) := by decide +kernel
theorem dX12_worthWhy_11 : decode cX12_worthWhy 11 = .ok (.iload_n 1, 1) := by decide +kernel
theorem dX12_worthWhy_12 : decode cX12_worthWhy 12 = .ok (.iconst 0, 1) := by decide +kernel
theorem dX12_worthWhy_13 : decode cX12_worthWhy 13 = .ok (.bipush 99, 2) := by decide +kernel
theorem dX12_worthWhy_15 : decode cX12_worthWhy 15 = .ok (.invokestatic 146, 3) := by decide +kernel
theorem dX12_worthWhy_18 : decode cX12_worthWhy 18 = .ok (.ifCond .eq 7, 3) := by decide +kernel
theorem dX12_worthWhy_21 : decode cX12_worthWhy 21 = .ok (.iconst 0, 1) := by decide +kernel
theorem dX12_worthWhy_22 : decode cX12_worthWhy 22 = .ok (.goto 4, 3) := by decide +kernel
theorem dX12_worthWhy_25 : decode cX12_worthWhy 25 = .ok (.iconst 2, 1) := by decide +kernel
theorem dX12_worthWhy_26 : decode cX12_worthWhy 26 = .ok (.ireturn, 1) := by decide +kernel
theorem dX12_envoys_0 : decode cX12_envoys 0 = .ok (.aload_n 0, 1) := by decide +kernel
theorem dX12_envoys_1 : decode cX12_envoys 1 = .ok (.invokevirtual 165, 3) := by decide +kernel
theorem dX12_envoys_4 : decode cX12_envoys 4 = .ok (.aload_n 0, 1) := by decide +kernel
theorem dX12_envoys_5 : decode cX12_envoys 5 = .ok (.iload_n 1, 1) := by decide +kernel
theorem dX12_envoys_6 : decode cX12_envoys 6 = .ok (.invokevirtual 403, 3) := by decide +kernel
theorem dX12_envoys_9 : decode cX12_envoys 9 = .ok (.istore 5, 2) := by decide +kernel
theorem dX12_envoys_11 : decode cX12_envoys 11 = .ok (.iload 5, 2) := by decide +kernel
theorem dX12_envoys_13 : decode cX12_envoys 13 = .ok (.ifCond .ne 26, 3) := by decide +kernel
theorem dX12_envoys_16 : decode cX12_envoys 16 = .ok (.iload_n 2, 1) := by decide +kernel
theorem dX12_envoys_17 : decode cX12_envoys 17 = .ok (.iconst 0, 1) := by decide +kernel
theorem dX12_envoys_18 : decode cX12_envoys 18 = .ok (.bipush 6, 2) := by decide +kernel
theorem dX12_envoys_20 : decode cX12_envoys 20 = .ok (.invokestatic 146, 3) := by decide +kernel
theorem dX12_envoys_23 : decode cX12_envoys 23 = .ok (.ifCond .eq 13, 3) := by decide +kernel
theorem dX12_envoys_26 : decode cX12_envoys 26 = .ok (.iload_n 3, 1) := by decide +kernel
theorem dX12_envoys_27 : decode cX12_envoys 27 = .ok (.iconst 0, 1) := by decide +kernel
theorem dX12_envoys_28 : decode cX12_envoys 28 = .ok (.bipush 6, 2) := by decide +kernel
theorem dX12_envoys_30 : decode cX12_envoys 30 = .ok (.invokestatic 146, 3) := by decide +kernel
theorem dX12_envoys_33 : decode cX12_envoys 33 = .ok (.ifCond .ne 6, 3) := by decide +kernel
theorem dX12_envoys_36 : decode cX12_envoys 36 = .ok (.iconst 2, 1) := by decide +kernel
theorem dX12_envoys_37 : decode cX12_envoys 37 = .ok (.istore 5, 2) := by decide +kernel
theorem dX12_envoys_39 : decode cX12_envoys 39 = .ok (.iload 5, 2) := by decide +kernel
theorem dX12_envoys_41 : decode cX12_envoys 41 = .ok (.ifCond .ne 24, 3) := by decide +kernel
theorem dX12_envoys_44 : decode cX12_envoys 44 = .ok (.iload 4, 2) := by decide +kernel
theorem dX12_envoys_46 : decode cX12_envoys 46 = .ok (.ifCond .eq 12, 3) := by decide +kernel
theorem dX12_envoys_49 : decode cX12_envoys 49 = .ok (.iload_n 1, 1) := by decide +kernel
theorem dX12_envoys_50 : decode cX12_envoys 50 = .ok (.iload_n 3, 1) := by decide +kernel
theorem dX12_envoys_51 : decode cX12_envoys 51 = .ok (.iload_n 2, 1) := by decide +kernel
theorem dX12_envoys_52 : decode cX12_envoys 52 = .ok (.invokestatic 406, 3) := by decide +kernel
theorem dX12_envoys_55 : decode cX12_envoys 55 = .ok (.goto 9, 3) := by decide +kernel
theorem dX12_envoys_58 : decode cX12_envoys 58 = .ok (.iload_n 1, 1) := by decide +kernel
theorem dX12_envoys_59 : decode cX12_envoys 59 = .ok (.iload_n 2, 1) := by decide +kernel
theorem dX12_envoys_60 : decode cX12_envoys 60 = .ok (.iload_n 3, 1) := by decide +kernel
theorem dX12_envoys_61 : decode cX12_envoys 61 = .ok (.invokestatic 406, 3) := by decide +kernel
theorem dX12_envoys_64 : decode cX12_envoys 64 = .ok (.ireturn, 1) := by decide +kernel
theorem dX12_envoys_65 : decode cX12_envoys 65 = .ok (.aload_n 0, 1) := by decide +kernel
theorem dX12_envoys_66 : decode cX12_envoys 66 = .ok (.iload 5, 2) := by decide +kernel
theorem dX12_envoys_68 : decode cX12_envoys 68 = .ok (.putfield 56, 3) := by decide +kernel
theorem dX12_envoys_71 : decode cX12_envoys 71 = .ok (.bipush (-100), 2) := by decide +kernel
theorem dX12_envoys_73 : decode cX12_envoys 73 = .ok (.ireturn, 1) := by decide +kernel
theorem dX12_isRest_0 : decode cX12_isRest 0 = .ok (.iconst 1, 1) := by decide +kernel
theorem dX12_isRest_1 : decode cX12_isRest 1 = .ok (.istore_n 3, 1) := by decide +kernel
theorem dX12_isRest_2 : decode cX12_isRest 2 = .ok (.iconst 0, 1) := by decide +kernel
theorem dX12_isRest_3 : decode cX12_isRest 3 = .ok (.istore 4, 2) := by decide +kernel
theorem dX12_isRest_5 : decode cX12_isRest 5 = .ok (.iload 4, 2) := by decide +kernel
theorem dX12_isRest_7 : decode cX12_isRest 7 = .ok (.bipush 6, 2) := by decide +kernel
theorem dX12_isRest_9 : decode cX12_isRest 9 = .ok (.if_icmp .gt 51, 3) := by decide +kernel
theorem dX12_isRest_12 : decode cX12_isRest 12 = .ok (.iload_n 3, 1) := by decide +kernel
theorem dX12_isRest_13 : decode cX12_isRest 13 = .ok (.ifCond .eq 39, 3) := by decide +kernel
theorem dX12_isRest_16 : decode cX12_isRest 16 = .ok (.iload_n 0, 1) := by decide +kernel
theorem dX12_isRest_17 : decode cX12_isRest 17 = .ok (.iload 4, 2) := by decide +kernel
theorem dX12_isRest_19 : decode cX12_isRest 19 = .ok (.iload_n 2, 1) := by decide +kernel
theorem dX12_isRest_20 : decode cX12_isRest 20 = .ok (.invokestatic 406, 3) := by decide +kernel
theorem dX12_isRest_23 : decode cX12_isRest 23 = .ok (.iload_n 0, 1) := by decide +kernel
theorem dX12_isRest_24 : decode cX12_isRest 24 = .ok (.iload_n 1, 1) := by decide +kernel
theorem dX12_isRest_25 : decode cX12_isRest 25 = .ok (.iload_n 2, 1) := by decide +kernel
theorem dX12_isRest_26 : decode cX12_isRest 26 = .ok (.invokestatic 406, 3) := by decide +kernel
theorem dX12_isRest_29 : decode cX12_isRest 29 = .ok (.if_icmp .gt 23, 3) := by decide +kernel
theorem dX12_isRest_32 : decode cX12_isRest 32 = .ok (.iload_n 0, 1) := by decide +kernel
theorem dX12_isRest_33 : decode cX12_isRest 33 = .ok (.iload 4, 2) := by decide +kernel
theorem dX12_isRest_35 : decode cX12_isRest 35 = .ok (.iload_n 1, 1) := by decide +kernel
theorem dX12_isRest_36 : decode cX12_isRest 36 = .ok (.invokestatic 406, 3) := by decide +kernel
theorem dX12_isRest_39 : decode cX12_isRest 39 = .ok (.iload_n 0, 1) := by decide +kernel
theorem dX12_isRest_40 : decode cX12_isRest 40 = .ok (.iload_n 2, 1) := by decide +kernel
theorem dX12_isRest_41 : decode cX12_isRest 41 = .ok (.iload_n 1, 1) := by decide +kernel
theorem dX12_isRest_42 : decode cX12_isRest 42 = .ok (.invokestatic 406, 3) := by decide +kernel
theorem dX12_isRest_45 : decode cX12_isRest 45 = .ok (.if_icmp .gt 7, 3) := by decide +kernel
theorem dX12_isRest_48 : decode cX12_isRest 48 = .ok (.iconst 1, 1) := by decide +kernel
theorem dX12_isRest_49 : decode cX12_isRest 49 = .ok (.goto 4, 3) := by decide +kernel
theorem dX12_isRest_52 : decode cX12_isRest 52 = .ok (.iconst 0, 1) := by decide +kernel
theorem dX12_isRest_53 : decode cX12_isRest 53 = .ok (.istore_n 3, 1) := by decide +kernel
theorem dX12_isRest_54 : decode cX12_isRest 54 = .ok (.iinc 4 1, 3) := by decide +kernel
theorem dX12_isRest_57 : decode cX12_isRest 57 = .ok (.goto (-52), 3) := by decide +kernel
theorem dX12_isRest_60 : decode cX12_isRest 60 = .ok (.iload_n 3, 1) := by decide +kernel
theorem dX12_isRest_61 : decode cX12_isRest 61 = .ok (.ireturn, 1) := by decide +kernel
theorem dX12_seekRests_0 : decode cX12_seekRests 0 = .ok (.iconst 0, 1) := by decide +kernel
theorem dX12_seekRests_1 : decode cX12_seekRests 1 = .ok (.istore_n 2, 1) := by decide +kernel
theorem dX12_seekRests_2 : decode cX12_seekRests 2 = .ok (.aload_n 0, 1) := by decide +kernel
theorem dX12_seekRests_3 : decode cX12_seekRests 3 = .ok (.bipush (-2), 2) := by decide +kernel
theorem dX12_seekRests_5 : decode cX12_seekRests 5 = .ok (.putfield 410, 3) := by decide +kernel
theorem dX12_seekRests_8 : decode cX12_seekRests 8 = .ok (.iconst 0, 1) := by decide +kernel
theorem dX12_seekRests_9 : decode cX12_seekRests 9 = .ok (.istore_n 3, 1) := by decide +kernel
theorem dX12_seekRests_10 : decode cX12_seekRests 10 = .ok (.iload_n 3, 1) := by decide +kernel
theorem dX12_seekRests_11 : decode cX12_seekRests 11 = .ok (.bipush 6, 2) := by decide +kernel
theorem dX12_seekRests_13 : decode cX12_seekRests 13 = .ok (.if_icmp .gt 56, 3) := by decide +kernel
theorem dX12_seekRests_16 : decode cX12_seekRests 16 = .ok (.iconst 0, 1) := by decide +kernel
theorem dX12_seekRests_17 : decode cX12_seekRests 17 = .ok (.istore 4, 2) := by decide +kernel
theorem dX12_seekRests_19 : decode cX12_seekRests 19 = .ok (.iload 4, 2) := by decide +kernel
theorem dX12_seekRests_21 : decode cX12_seekRests 21 = .ok (.bipush 6, 2) := by decide +kernel
theorem dX12_seekRests_23 : decode cX12_seekRests 23 = .ok (.if_icmp .gt 40, 3) := by decide +kernel
theorem dX12_seekRests_26 : decode cX12_seekRests 26 = .ok (.iload_n 1, 1) := by decide +kernel
theorem dX12_seekRests_27 : decode cX12_seekRests 27 = .ok (.iload_n 3, 1) := by decide +kernel
theorem dX12_seekRests_28 : decode cX12_seekRests 28 = .ok (.iload 4, 2) := by decide +kernel
theorem dX12_seekRests_30 : decode cX12_seekRests 30 = .ok (.invokestatic 413, 3) := by decide +kernel
theorem dX12_seekRests_33 : decode cX12_seekRests 33 = .ok (.ifCond .ne 6, 3) := by decide +kernel
theorem dX12_seekRests_36 : decode cX12_seekRests 36 = .ok (.goto 21, 3) := by decide +kernel
theorem dX12_seekRests_39 : decode cX12_seekRests 39 = .ok (.iload_n 2, 1) := by decide +kernel
theorem dX12_seekRests_40 : decode cX12_seekRests 40 = .ok (.ifCond .ne 14, 3) := by decide +kernel
theorem dX12_seekRests_43 : decode cX12_seekRests 43 = .ok (.aload_n 0, 1) := by decide +kernel
theorem dX12_seekRests_44 : decode cX12_seekRests 44 = .ok (.bipush 10, 2) := by decide +kernel
theorem dX12_seekRests_46 : decode cX12_seekRests 46 = .ok (.iload_n 3, 1) := by decide +kernel
theorem dX12_seekRests_47 : decode cX12_seekRests 47 = .ok (.imul, 1) := by decide +kernel
theorem dX12_seekRests_48 : decode cX12_seekRests 48 = .ok (.iload 4, 2) := by decide +kernel
theorem dX12_seekRests_50 : decode cX12_seekRests 50 = .ok (.iadd, 1) := by decide +kernel
theorem dX12_seekRests_51 : decode cX12_seekRests 51 = .ok (.putfield 410, 3) := by decide +kernel
theorem dX12_seekRests_54 : decode cX12_seekRests 54 = .ok (.iinc 2 1, 3) := by decide +kernel
theorem dX12_seekRests_57 : decode cX12_seekRests 57 = .ok (.iinc 4 1, 3) := by decide +kernel
theorem dX12_seekRests_60 : decode cX12_seekRests 60 = .ok (.goto (-41), 3) := by decide +kernel
theorem dX12_seekRests_63 : decode cX12_seekRests 63 = .ok (.iinc 3 1, 3) := by decide +kernel
theorem dX12_seekRests_66 : decode cX12_seekRests 66 = .ok (.goto (-56), 3) := by decide +kernel
theorem dX12_seekRests_69 : decode cX12_seekRests 69 = .ok (.iload_n 2, 1) := by decide +kernel
theorem dX12_seekRests_70 : decode cX12_seekRests 70 = .ok (.ireturn, 1) := by decide +kernel
theorem dX12_rests_0 : decode cX12_rests 0 = .ok (.aload_n 0, 1) := by decide +kernel
theorem dX12_rests_1 : decode cX12_rests 1 = .ok (.invokevirtual 165, 3) := by decide +kernel
theorem dX12_rests_4 : decode cX12_rests 4 = .ok (.aload_n 0, 1) := by decide +kernel
theorem dX12_rests_5 : decode cX12_rests 5 = .ok (.iload_n 1, 1) := by decide +kernel
theorem dX12_rests_6 : decode cX12_rests 6 = .ok (.invokevirtual 403, 3) := by decide +kernel
theorem dX12_rests_9 : decode cX12_rests 9 = .ok (.istore_n 2, 1) := by decide +kernel
theorem dX12_rests_10 : decode cX12_rests 10 = .ok (.iload_n 2, 1) := by decide +kernel
theorem dX12_rests_11 : decode cX12_rests 11 = .ok (.ifCond .eq 11, 3) := by decide +kernel
theorem dX12_rests_14 : decode cX12_rests 14 = .ok (.aload_n 0, 1) := by decide +kernel
theorem dX12_rests_15 : decode cX12_rests 15 = .ok (.iload_n 2, 1) := by decide +kernel
theorem dX12_rests_16 : decode cX12_rests 16 = .ok (.invokevirtual 168, 3) := by decide +kernel
theorem dX12_rests_19 : decode cX12_rests 19 = .ok (.goto 8, 3) := by decide +kernel
theorem dX12_rests_22 : decode cX12_rests 22 = .ok (.aload_n 0, 1) := by decide +kernel
theorem dX12_rests_23 : decode cX12_rests 23 = .ok (.iload_n 1, 1) := by decide +kernel
theorem dX12_rests_24 : decode cX12_rests 24 = .ok (.invokevirtual 416, 3) := by decide +kernel
theorem dX12_rests_27 : decode cX12_rests 27 = .ok (.ireturn, 1) := by decide +kernel
theorem dX12_rest_0 : decode cX12_rest 0 = .ok (.aload_n 0, 1) := by decide +kernel
theorem dX12_rest_1 : decode cX12_rest 1 = .ok (.invokevirtual 165, 3) := by decide +kernel
theorem dX12_rest_4 : decode cX12_rest 4 = .ok (.aload_n 0, 1) := by decide +kernel
theorem dX12_rest_5 : decode cX12_rest 5 = .ok (.iload_n 1, 1) := by decide +kernel
theorem dX12_rest_6 : decode cX12_rest 6 = .ok (.invokevirtual 403, 3) := by decide +kernel
theorem dX12_rest_9 : decode cX12_rest 9 = .ok (.istore_n 2, 1) := by decide +kernel
theorem dX12_rest_10 : decode cX12_rest 10 = .ok (.iload_n 2, 1) := by decide +kernel
theorem dX12_rest_11 : decode cX12_rest 11 = .ok (.ifCond .eq 9, 3) := by decide +kernel
theorem dX12_rest_14 : decode cX12_rest 14 = .ok (.aload_n 0, 1) := by decide +kernel
theorem dX12_rest_15 : decode cX12_rest 15 = .ok (.iload_n 2, 1) := by decide +kernel
theorem dX12_rest_16 : decode cX12_rest 16 = .ok (.invokevirtual 168, 3) := by decide +kernel
theorem dX12_rest_19 : decode cX12_rest 19 = .ok (.ireturn, 1) := by decide +kernel
theorem dX12_rest_20 : decode cX12_rest 20 = .ok (.aload_n 0, 1) := by decide +kernel
theorem dX12_rest_21 : decode cX12_rest 21 = .ok (.iload_n 1, 1) := by decide +kernel
theorem dX12_rest_22 : decode cX12_rest 22 = .ok (.invokevirtual 416, 3) := by decide +kernel
theorem dX12_rest_25 : decode cX12_rest 25 = .ok (.pop, 1) := by decide +kernel
theorem dX12_rest_26 : decode cX12_rest 26 = .ok (.aload_n 0, 1) := by decide +kernel
theorem dX12_rest_27 : decode cX12_rest 27 = .ok (.getfield 410, 3) := by decide +kernel
theorem dX12_rest_30 : decode cX12_rest 30 = .ok (.ireturn, 1) := by decide +kernel
theorem dX12_winterWhy_0 : decode cX12_winterWhy 0 = .ok (.iload_n 1, 1) := by decide +kernel
theorem dX12_winterWhy_1 : decode cX12_winterWhy 1 = .ok (.ifCond .ne 5, 3) := by decide +kernel
theorem dX12_winterWhy_4 : decode cX12_winterWhy 4 = .ok (.iconst 1, 1) := by decide +kernel
theorem dX12_winterWhy_5 : decode cX12_winterWhy 5 = .ok (.ireturn, 1) := by decide +kernel
theorem dX12_winterWhy_6 : decode cX12_winterWhy 6 = .ok (.iload_n 2, 1) := by decide +kernel
theorem dX12_winterWhy_7 : decode cX12_winterWhy 7 = .ok (.iconst 0, 1) := by decide +kernel
theorem dX12_winterWhy_8 : decode cX12_winterWhy 8 = .ok (.sipush 9999, 3) := by decide +kernel
theorem dX12_winterWhy_11 : decode cX12_winterWhy 11 = .ok (.invokestatic 146, 3) := by decide +kernel
theorem dX12_winterWhy_14 : decode cX12_winterWhy 14 = .ok (.ifCond .eq 25, 3) := by decide +kernel
theorem dX12_winterWhy_17 : decode cX12_winterWhy 17 = .ok (.iload_n 3, 1) := by decide +kernel
theorem dX12_winterWhy_18 : decode cX12_winterWhy 18 = .ok (.iconst 0, 1) := by decide +kernel
theorem dX12_winterWhy_19 : decode cX12_winterWhy 19 = .ok (.ldc_w 419, 3) := by decide +kernel
theorem dX12_winterWhy_22 : decode cX12_winterWhy 22 = .ok (.invokestatic 146, 3) := by decide +kernel
theorem dX12_winterWhy_25 : decode cX12_winterWhy 25 = .ok (.ifCond .eq 14, 3) := by decide +kernel
theorem dX12_winterWhy_28 : decode cX12_winterWhy 28 = .ok (.iload 4, 2) := by decide +kernel
theorem dX12_winterWhy_30 : decode cX12_winterWhy 30 = .ok (.iconst 0, 1) := by decide +kernel
theorem dX12_winterWhy_31 : decode cX12_winterWhy 31 = .ok (.bipush 90, 2) := by decide +kernel
theorem dX12_winterWhy_33 : decode cX12_winterWhy 33 = .ok (.invokestatic 146, 3) := by decide +kernel
theorem dX12_winterWhy_36 : decode cX12_winterWhy 36 = .ok (.ifCond .ne 5, 3) := by decide +kernel
theorem dX12_winterWhy_39 : decode cX12_winterWhy 39 = .ok (.iconst 2, 1) := by decide +kernel
theorem dX12_winterWhy_40 : decode cX12_winterWhy 40 = .ok (.ireturn, 1) := by decide +kernel
theorem dX12_winterWhy_41 : decode cX12_winterWhy 41 = .ok (.aload_n 0, 1) := by decide +kernel
theorem dX12_winterWhy_42 : decode cX12_winterWhy 42 = .ok (.iconst (-1), 1) := by decide +kernel
theorem dX12_winterWhy_43 : decode cX12_winterWhy 43 = .ok (.iconst (-1), 1) := by decide +kernel
theorem dX12_winterWhy_44 : decode cX12_winterWhy 44 = .ok (.invokevirtual 306, 3) := by decide +kernel
theorem dX12_winterWhy_47 : decode cX12_winterWhy 47 = .ok (.pop, 1) := by decide +kernel
theorem dX12_winterWhy_48 : decode cX12_winterWhy 48 = .ok (.aload_n 0, 1) := by decide +kernel
theorem dX12_winterWhy_49 : decode cX12_winterWhy 49 = .ok (.getfield 26, 3) := by decide +kernel
theorem dX12_winterWhy_52 : decode cX12_winterWhy 52 = .ok (.iconst 0, 1) := by decide +kernel
theorem dX12_winterWhy_53 : decode cX12_winterWhy 53 = .ok (.aload_n 0, 1) := by decide +kernel
theorem dX12_winterWhy_54 : decode cX12_winterWhy 54 = .ok (.getfield 50, 3) := by decide +kernel
theorem dX12_winterWhy_57 : decode cX12_winterWhy 57 = .ok (.iconst 0, 1) := by decide +kernel
theorem dX12_winterWhy_58 : decode cX12_winterWhy 58 = .ok (.bipush 7, 2) := by decide +kernel
theorem dX12_winterWhy_60 : decode cX12_winterWhy 60 = .ok (.invokestatic 174, 3) := by decide +kernel
theorem dX12_winterWhy_63 : decode cX12_winterWhy 63 = .ok (.aload_n 0, 1) := by decide +kernel
theorem dX12_winterWhy_64 : decode cX12_winterWhy 64 = .ok (.iconst 0, 1) := by decide +kernel
theorem dX12_winterWhy_65 : decode cX12_winterWhy 65 = .ok (.putfield 420, 3) := by decide +kernel
theorem dX12_winterWhy_68 : decode cX12_winterWhy 68 = .ok (.aload_n 0, 1) := by decide +kernel
theorem dX12_winterWhy_69 : decode cX12_winterWhy 69 = .ok (.iconst 0, 1) := by decide +kernel
theorem dX12_winterWhy_70 : decode cX12_winterWhy 70 = .ok (.putfield 423, 3) := by decide +kernel
theorem dX12_winterWhy_73 : decode cX12_winterWhy 73 = .ok (.iconst 0, 1) := by decide +kernel
theorem dX12_winterWhy_74 : decode cX12_winterWhy 74 = .ok (.istore 5, 2) := by decide +kernel
theorem dX12_winterWhy_76 : decode cX12_winterWhy 76 = .ok (.iconst 0, 1) := by decide +kernel
theorem dX12_winterWhy_77 : decode cX12_winterWhy 77 = .ok (.istore 6, 2) := by decide +kernel
theorem dX12_winterWhy_79 : decode cX12_winterWhy 79 = .ok (.iload 6, 2) := by decide +kernel
theorem dX12_winterWhy_81 : decode cX12_winterWhy 81 = .ok (.aload_n 0, 1) := by decide +kernel
theorem dX12_winterWhy_82 : decode cX12_winterWhy 82 = .ok (.getfield 20, 3) := by decide +kernel
theorem dX12_winterWhy_85 : decode cX12_winterWhy 85 = .ok (.iconst 2, 1) := by decide +kernel
theorem dX12_winterWhy_86 : decode cX12_winterWhy 86 = .ok (.iaload, 1) := by decide +kernel
theorem dX12_winterWhy_87 : decode cX12_winterWhy 87 = .ok (.if_icmp .ge 21, 3) := by decide +kernel
theorem dX12_winterWhy_90 : decode cX12_winterWhy 90 = .ok (.iload 5, 2) := by decide +kernel
theorem dX12_winterWhy_92 : decode cX12_winterWhy 92 = .ok (.aload_n 0, 1) := by decide +kernel
theorem dX12_winterWhy_93 : decode cX12_winterWhy 93 = .ok (.getfield 50, 3) := by decide +kernel
theorem dX12_winterWhy_96 : decode cX12_winterWhy 96 = .ok (.iload 6, 2) := by decide +kernel
theorem dX12_winterWhy_98 : decode cX12_winterWhy 98 = .ok (.iaload, 1) := by decide +kernel
theorem dX12_winterWhy_99 : decode cX12_winterWhy 99 = .ok (.iadd, 1) := by decide +kernel
theorem dX12_winterWhy_100 : decode cX12_winterWhy 100 = .ok (.istore 5, 2) := by decide +kernel
theorem dX12_winterWhy_102 : decode cX12_winterWhy 102 = .ok (.iinc 6 1, 3) := by decide +kernel
theorem dX12_winterWhy_105 : decode cX12_winterWhy 105 = .ok (.goto (-26), 3) := by decide +kernel
theorem dX12_winterWhy_108 : decode cX12_winterWhy 108 = .ok (.iload_n 3, 1) := by decide +kernel
theorem dX12_winterWhy_109 : decode cX12_winterWhy 109 = .ok (.istore 6, 2) := by decide +kernel
theorem dX12_winterWhy_111 : decode cX12_winterWhy 111 = .ok (.iconst 1, 1) := by decide +kernel
theorem dX12_winterWhy_112 : decode cX12_winterWhy 112 = .ok (.istore 7, 2) := by decide +kernel
theorem dX12_winterWhy_114 : decode cX12_winterWhy 114 = .ok (.iload 7, 2) := by decide +kernel
theorem dX12_winterWhy_116 : decode cX12_winterWhy 116 = .ok (.iload 4, 2) := by decide +kernel
theorem dX12_winterWhy_118 : decode cX12_winterWhy 118 = .ok (.if_icmp .gt 127, 3) := by decide +kernel
theorem dX12_winterWhy_121 : decode cX12_winterWhy 121 = .ok (.bipush 75, 2) := by decide +kernel
theorem dX12_winterWhy_123 : decode cX12_winterWhy 123 = .ok (.iload 6, 2) := by decide +kernel
theorem dX12_winterWhy_125 : decode cX12_winterWhy 125 = .ok (.imul, 1) := by decide +kernel
theorem dX12_winterWhy_126 : decode cX12_winterWhy 126 = .ok (.bipush 74, 2) := by decide +kernel
theorem dX12_winterWhy_128 : decode cX12_winterWhy 128 = .ok (.iadd, 1) := by decide +kernel
theorem dX12_winterWhy_129 : decode cX12_winterWhy 129 = .ok (.ldc_w 426, 3) := by decide +kernel
theorem dX12_winterWhy_132 : decode cX12_winterWhy 132 = .ok (.irem, 1) := by decide +kernel
theorem dX12_winterWhy_133 : decode cX12_winterWhy 133 = .ok (.istore 6, 2) := by decide +kernel
theorem dX12_winterWhy_135 : decode cX12_winterWhy 135 = .ok (.iconst 0, 1) := by decide +kernel
theorem dX12_winterWhy_136 : decode cX12_winterWhy 136 = .ok (.istore 8, 2) := by decide +kernel
theorem dX12_winterWhy_138 : decode cX12_winterWhy 138 = .ok (.iload 8, 2) := by decide +kernel
theorem dX12_winterWhy_140 : decode cX12_winterWhy 140 = .ok (.aload_n 0, 1) := by decide +kernel
theorem dX12_winterWhy_141 : decode cX12_winterWhy 141 = .ok (.getfield 20, 3) := by decide +kernel
theorem dX12_winterWhy_144 : decode cX12_winterWhy 144 = .ok (.iconst 2, 1) := by decide +kernel
theorem dX12_winterWhy_145 : decode cX12_winterWhy 145 = .ok (.iaload, 1) := by decide +kernel
theorem dX12_winterWhy_146 : decode cX12_winterWhy 146 = .ok (.if_icmp .ge 69, 3) := by decide +kernel
theorem dX12_winterWhy_149 : decode cX12_winterWhy 149 = .ok (.iload 6, 2) := by decide +kernel
theorem dX12_winterWhy_151 : decode cX12_winterWhy 151 = .ok (.bipush 100, 2) := by decide +kernel
theorem dX12_winterWhy_153 : decode cX12_winterWhy 153 = .ok (.irem, 1) := by decide +kernel
theorem dX12_winterWhy_154 : decode cX12_winterWhy 154 = .ok (.aload_n 0, 1) := by decide +kernel
theorem dX12_winterWhy_155 : decode cX12_winterWhy 155 = .ok (.getfield 20, 3) := by decide +kernel
theorem dX12_winterWhy_158 : decode cX12_winterWhy 158 = .ok (.iconst 1, 1) := by decide +kernel
theorem dX12_winterWhy_159 : decode cX12_winterWhy 159 = .ok (.iaload, 1) := by decide +kernel
theorem dX12_winterWhy_160 : decode cX12_winterWhy 160 = .ok (.if_icmp .ge 55, 3) := by decide +kernel
theorem dX12_winterWhy_163 : decode cX12_winterWhy 163 = .ok (.aload_n 0, 1) := by decide +kernel
theorem dX12_winterWhy_164 : decode cX12_winterWhy 164 = .ok (.getfield 26, 3) := by decide +kernel
theorem dX12_winterWhy_167 : decode cX12_winterWhy 167 = .ok (.bipush 16, 2) := by decide +kernel
theorem dX12_winterWhy_169 : decode cX12_winterWhy 169 = .ok (.iaload, 1) := by decide +kernel
theorem dX12_winterWhy_170 : decode cX12_winterWhy 170 = .ok (.ifCond .ne 45, 3) := by decide +kernel
theorem dX12_winterWhy_173 : decode cX12_winterWhy 173 = .ok (.aload_n 0, 1) := by decide +kernel
theorem dX12_winterWhy_174 : decode cX12_winterWhy 174 = .ok (.aload_n 0, 1) := by decide +kernel
theorem dX12_winterWhy_175 : decode cX12_winterWhy 175 = .ok (.getfield 38, 3) := by decide +kernel
theorem dX12_winterWhy_178 : decode cX12_winterWhy 178 = .ok (.iconst 0, 1) := by decide +kernel
theorem dX12_winterWhy_179 : decode cX12_winterWhy 179 = .ok (.iload 8, 2) := by decide +kernel
theorem dX12_winterWhy_181 : decode cX12_winterWhy 181 = .ok (.invokevirtual 290, 3) := by decide +kernel
theorem dX12_winterWhy_184 : decode cX12_winterWhy 184 = .ok (.istore 9, 2) := by decide +kernel
theorem dX12_winterWhy_186 : decode cX12_winterWhy 186 = .ok (.aload_n 0, 1) := by decide +kernel
theorem dX12_winterWhy_187 : decode cX12_winterWhy 187 = .ok (.getfield 50, 3) := by decide +kernel
theorem dX12_winterWhy_190 : decode cX12_winterWhy 190 = .ok (.iload 8, 2) := by decide +kernel
theorem dX12_winterWhy_192 : decode cX12_winterWhy 192 = .ok (.dup2, 1) := by decide +kernel
theorem dX12_winterWhy_193 : decode cX12_winterWhy 193 = .ok (.iaload, 1) := by decide +kernel
theorem dX12_winterWhy_194 : decode cX12_winterWhy 194 = .ok (.iload 9, 2) := by decide +kernel
theorem dX12_winterWhy_196 : decode cX12_winterWhy 196 = .ok (.iadd, 1) := by decide +kernel
theorem dX12_winterWhy_197 : decode cX12_winterWhy 197 = .ok (.iastore, 1) := by decide +kernel
theorem dX12_winterWhy_198 : decode cX12_winterWhy 198 = .ok (.aload_n 0, 1) := by decide +kernel
theorem dX12_winterWhy_199 : decode cX12_winterWhy 199 = .ok (.dup, 1) := by decide +kernel
theorem dX12_winterWhy_200 : decode cX12_winterWhy 200 = .ok (.getfield 420, 3) := by decide +kernel
theorem dX12_winterWhy_203 : decode cX12_winterWhy 203 = .ok (.iload 9, 2) := by decide +kernel
theorem dX12_winterWhy_205 : decode cX12_winterWhy 205 = .ok (.iadd, 1) := by decide +kernel
theorem dX12_winterWhy_206 : decode cX12_winterWhy 206 = .ok (.putfield 420, 3) := by decide +kernel
theorem dX12_winterWhy_209 : decode cX12_winterWhy 209 = .ok (.iinc 8 1, 3) := by decide +kernel
theorem dX12_winterWhy_212 : decode cX12_winterWhy 212 = .ok (.goto (-74), 3) := by decide +kernel
theorem dX12_winterWhy_215 : decode cX12_winterWhy 215 = .ok (.aload_n 0, 1) := by decide +kernel
theorem dX12_winterWhy_216 : decode cX12_winterWhy 216 = .ok (.getfield 423, 3) := by decide +kernel
theorem dX12_winterWhy_219 : decode cX12_winterWhy 219 = .ok (.ifCond .ne 20, 3) := by decide +kernel
theorem dX12_winterWhy_222 : decode cX12_winterWhy 222 = .ok (.iload 5, 2) := by decide +kernel
theorem dX12_winterWhy_224 : decode cX12_winterWhy 224 = .ok (.aload_n 0, 1) := by decide +kernel
theorem dX12_winterWhy_225 : decode cX12_winterWhy 225 = .ok (.getfield 420, 3) := by decide +kernel
theorem dX12_winterWhy_228 : decode cX12_winterWhy 228 = .ok (.iadd, 1) := by decide +kernel
theorem dX12_winterWhy_229 : decode cX12_winterWhy 229 = .ok (.iload_n 2, 1) := by decide +kernel
theorem dX12_winterWhy_230 : decode cX12_winterWhy 230 = .ok (.if_icmp .le 9, 3) := by decide +kernel
theorem dX12_winterWhy_233 : decode cX12_winterWhy 233 = .ok (.aload_n 0, 1) := by decide +kernel
theorem dX12_winterWhy_234 : decode cX12_winterWhy 234 = .ok (.iload 7, 2) := by decide +kernel
theorem dX12_winterWhy_236 : decode cX12_winterWhy 236 = .ok (.putfield 423, 3) := by decide +kernel
theorem dX12_winterWhy_239 : decode cX12_winterWhy 239 = .ok (.iinc 7 1, 3) := by decide +kernel
theorem dX12_winterWhy_242 : decode cX12_winterWhy 242 = .ok (.goto (-128), 3) := by decide +kernel
theorem dX12_winterWhy_245 : decode cX12_winterWhy 245 = .ok (.iconst 0, 1) := by decide +kernel
theorem dX12_winterWhy_246 : decode cX12_winterWhy 246 = .ok (.ireturn, 1) := by decide +kernel
theorem dX12_winters_0 : decode cX12_winters 0 = .ok (.aload_n 0, 1) := by decide +kernel
theorem dX12_winters_1 : decode cX12_winters 1 = .ok (.invokevirtual 165, 3) := by decide +kernel
theorem dX12_winters_4 : decode cX12_winters 4 = .ok (.aload_n 0, 1) := by decide +kernel
theorem dX12_winters_5 : decode cX12_winters 5 = .ok (.aload_n 0, 1) := by decide +kernel
theorem dX12_winters_6 : decode cX12_winters 6 = .ok (.getfield 178, 3) := by decide +kernel
theorem dX12_winters_9 : decode cX12_winters 9 = .ok (.iconst 0, 1) := by decide +kernel
theorem dX12_winters_10 : decode cX12_winters 10 = .ok (.iload_n 1, 1) := by decide +kernel
theorem dX12_winters_11 : decode cX12_winters 11 = .ok (.iload_n 2, 1) := by decide +kernel
theorem dX12_winters_12 : decode cX12_winters 12 = .ok (.invokevirtual 427, 3) := by decide +kernel
theorem dX12_winters_15 : decode cX12_winters 15 = .ok (.istore_n 3, 1) := by decide +kernel
theorem dX12_winters_16 : decode cX12_winters 16 = .ok (.iload_n 3, 1) := by decide +kernel
theorem dX12_winters_17 : decode cX12_winters 17 = .ok (.ifCond .eq 11, 3) := by decide +kernel
theorem dX12_winters_20 : decode cX12_winters 20 = .ok (.aload_n 0, 1) := by decide +kernel
theorem dX12_winters_21 : decode cX12_winters 21 = .ok (.iload_n 3, 1) := by decide +kernel
theorem dX12_winters_22 : decode cX12_winters 22 = .ok (.invokevirtual 168, 3) := by decide +kernel
theorem dX12_winters_25 : decode cX12_winters 25 = .ok (.goto 7, 3) := by decide +kernel
theorem dX12_winters_28 : decode cX12_winters 28 = .ok (.aload_n 0, 1) := by decide +kernel
theorem dX12_winters_29 : decode cX12_winters 29 = .ok (.getfield 420, 3) := by decide +kernel
theorem dX12_winters_32 : decode cX12_winters 32 = .ok (.ireturn, 1) := by decide +kernel
theorem dX12_wintersOf_0 : decode cX12_wintersOf 0 = .ok (.aload_n 0, 1) := by decide +kernel
theorem dX12_wintersOf_1 : decode cX12_wintersOf 1 = .ok (.invokevirtual 165, 3) := by decide +kernel
theorem dX12_wintersOf_4 : decode cX12_wintersOf 4 = .ok (.aload_n 0, 1) := by decide +kernel
theorem dX12_wintersOf_5 : decode cX12_wintersOf 5 = .ok (.aload_n 0, 1) := by decide +kernel
theorem dX12_wintersOf_6 : decode cX12_wintersOf 6 = .ok (.iload_n 1, 1) := by decide +kernel
theorem dX12_wintersOf_7 : decode cX12_wintersOf 7 = .ok (.invokevirtual 275, 3) := by decide +kernel
theorem dX12_wintersOf_10 : decode cX12_wintersOf 10 = .ok (.iconst 0, 1) := by decide +kernel
theorem dX12_wintersOf_11 : decode cX12_wintersOf 11 = .ok (.iload_n 2, 1) := by decide +kernel
theorem dX12_wintersOf_12 : decode cX12_wintersOf 12 = .ok (.iload_n 3, 1) := by decide +kernel
theorem dX12_wintersOf_13 : decode cX12_wintersOf 13 = .ok (.invokevirtual 427, 3) := by decide +kernel
theorem dX12_wintersOf_16 : decode cX12_wintersOf 16 = .ok (.istore 4, 2) := by decide +kernel
theorem dX12_wintersOf_18 : decode cX12_wintersOf 18 = .ok (.iload 4, 2) := by decide +kernel
theorem dX12_wintersOf_20 : decode cX12_wintersOf 20 = .ok (.ifCond .eq 12, 3) := by decide +kernel
theorem dX12_wintersOf_23 : decode cX12_wintersOf 23 = .ok (.aload_n 0, 1) := by decide +kernel
theorem dX12_wintersOf_24 : decode cX12_wintersOf 24 = .ok (.iload 4, 2) := by decide +kernel
theorem dX12_wintersOf_26 : decode cX12_wintersOf 26 = .ok (.invokevirtual 168, 3) := by decide +kernel
theorem dX12_wintersOf_29 : decode cX12_wintersOf 29 = .ok (.goto 9, 3) := by decide +kernel
theorem dX12_wintersOf_32 : decode cX12_wintersOf 32 = .ok (.aload_n 0, 1) := by decide +kernel
theorem dX12_wintersOf_33 : decode cX12_wintersOf 33 = .ok (.getfield 50, 3) := by decide +kernel
theorem dX12_wintersOf_36 : decode cX12_wintersOf 36 = .ok (.iload_n 1, 1) := by decide +kernel
theorem dX12_wintersOf_37 : decode cX12_wintersOf 37 = .ok (.iaload, 1) := by decide +kernel
theorem dX12_wintersOf_38 : decode cX12_wintersOf 38 = .ok (.ireturn, 1) := by decide +kernel
theorem dX12_above_0 : decode cX12_above 0 = .ok (.aload_n 0, 1) := by decide +kernel
theorem dX12_above_1 : decode cX12_above 1 = .ok (.invokevirtual 165, 3) := by decide +kernel
theorem dX12_above_4 : decode cX12_above 4 = .ok (.aload_n 0, 1) := by decide +kernel
theorem dX12_above_5 : decode cX12_above 5 = .ok (.aload_n 0, 1) := by decide +kernel
theorem dX12_above_6 : decode cX12_above 6 = .ok (.getfield 178, 3) := by decide +kernel
theorem dX12_above_9 : decode cX12_above 9 = .ok (.iload_n 1, 1) := by decide +kernel
theorem dX12_above_10 : decode cX12_above 10 = .ok (.iload_n 2, 1) := by decide +kernel
theorem dX12_above_11 : decode cX12_above 11 = .ok (.iload_n 3, 1) := by decide +kernel
theorem dX12_above_12 : decode cX12_above 12 = .ok (.invokevirtual 427, 3) := by decide +kernel
theorem dX12_above_15 : decode cX12_above 15 = .ok (.istore 4, 2) := by decide +kernel
theorem dX12_above_17 : decode cX12_above 17 = .ok (.iload 4, 2) := by decide +kernel
theorem dX12_above_19 : decode cX12_above 19 = .ok (.ifCond .eq 12, 3) := by decide +kernel
theorem dX12_above_22 : decode cX12_above 22 = .ok (.aload_n 0, 1) := by decide +kernel
theorem dX12_above_23 : decode cX12_above 23 = .ok (.iload 4, 2) := by decide +kernel
theorem dX12_above_25 : decode cX12_above 25 = .ok (.invokevirtual 168, 3) := by decide +kernel
theorem dX12_above_28 : decode cX12_above 28 = .ok (.goto 7, 3) := by decide +kernel
theorem dX12_above_31 : decode cX12_above 31 = .ok (.aload_n 0, 1) := by decide +kernel
theorem dX12_above_32 : decode cX12_above 32 = .ok (.getfield 423, 3) := by decide +kernel
theorem dX12_above_35 : decode cX12_above 35 = .ok (.ireturn, 1) := by decide +kernel
theorem dX12_note_0 : decode cX12_note 0 = .ok (.aload_n 0, 1) := by decide +kernel
theorem dX12_note_1 : decode cX12_note 1 = .ok (.getfield 181, 3) := by decide +kernel
theorem dX12_note_4 : decode cX12_note 4 = .ok (.bipush 16, 2) := by decide +kernel
theorem dX12_note_6 : decode cX12_note 6 = .ok (.if_icmp .ne 43, 3) := by decide +kernel
theorem dX12_note_9 : decode cX12_note 9 = .ok (.iconst 0, 1) := by decide +kernel
theorem dX12_note_10 : decode cX12_note 10 = .ok (.istore_n 1, 1) := by decide +kernel
theorem dX12_note_11 : decode cX12_note 11 = .ok (.iload_n 1, 1) := by decide +kernel
theorem dX12_note_12 : decode cX12_note 12 = .ok (.sipush 270, 3) := by decide +kernel
theorem dX12_note_15 : decode cX12_note 15 = .ok (.if_icmp .ge 24, 3) := by decide +kernel
theorem dX12_note_18 : decode cX12_note 18 = .ok (.aload_n 0, 1) := by decide +kernel
theorem dX12_note_19 : decode cX12_note 19 = .ok (.getfield 29, 3) := by decide +kernel
theorem dX12_note_22 : decode cX12_note 22 = .ok (.iload_n 1, 1) := by decide +kernel
theorem dX12_note_23 : decode cX12_note 23 = .ok (.aload_n 0, 1) := by decide +kernel
theorem dX12_note_24 : decode cX12_note 24 = .ok (.getfield 29, 3) := by decide +kernel
theorem dX12_note_27 : decode cX12_note 27 = .ok (.iload_n 1, 1) := by decide +kernel
theorem dX12_note_28 : decode cX12_note 28 = .ok (.bipush 18, 2) := by decide +kernel
theorem dX12_note_30 : decode cX12_note 30 = .ok (.iadd, 1) := by decide +kernel
theorem dX12_note_31 : decode cX12_note 31 = .ok (.iaload, 1) := by decide +kernel
theorem dX12_note_32 : decode cX12_note 32 = .ok (.iastore, 1) := by decide +kernel
theorem dX12_note_33 : decode cX12_note 33 = .ok (.iinc 1 1, 3) := by decide +kernel
theorem dX12_note_36 : decode cX12_note 36 = .ok (.goto (-25), 3) := by decide +kernel
theorem dX12_note_39 : decode cX12_note 39 = .ok (.aload_n 0, 1) := by decide +kernel
theorem dX12_note_40 : decode cX12_note 40 = .ok (.dup, 1) := by decide +kernel
theorem dX12_note_41 : decode cX12_note 41 = .ok (.getfield 181, 3) := by decide +kernel
theorem dX12_note_44 : decode cX12_note 44 = .ok (.iconst 1, 1) := by decide +kernel
theorem dX12_note_45 : decode cX12_note 45 = .ok (.isub, 1) := by decide +kernel
theorem dX12_note_46 : decode cX12_note 46 = .ok (.putfield 181, 3) := by decide +kernel
theorem dX12_note_49 : decode cX12_note 49 = .ok (.aload_n 0, 1) := by decide +kernel
theorem dX12_note_50 : decode cX12_note 50 = .ok (.getfield 26, 3) := by decide +kernel
theorem dX12_note_53 : decode cX12_note 53 = .ok (.iconst 0, 1) := by decide +kernel
theorem dX12_note_54 : decode cX12_note 54 = .ok (.aload_n 0, 1) := by decide +kernel
theorem dX12_note_55 : decode cX12_note 55 = .ok (.getfield 29, 3) := by decide +kernel
theorem dX12_note_58 : decode cX12_note 58 = .ok (.bipush 18, 2) := by decide +kernel
theorem dX12_note_60 : decode cX12_note 60 = .ok (.aload_n 0, 1) := by decide +kernel
theorem dX12_note_61 : decode cX12_note 61 = .ok (.getfield 181, 3) := by decide +kernel
theorem dX12_note_64 : decode cX12_note 64 = .ok (.imul, 1) := by decide +kernel
theorem dX12_note_65 : decode cX12_note 65 = .ok (.bipush 18, 2) := by decide +kernel
theorem dX12_note_67 : decode cX12_note 67 = .ok (.invokestatic 174, 3) := by decide +kernel
theorem dX12_note_70 : decode cX12_note 70 = .ok (.aload_n 0, 1) := by decide +kernel
theorem dX12_note_71 : decode cX12_note 71 = .ok (.dup, 1) := by decide +kernel
theorem dX12_note_72 : decode cX12_note 72 = .ok (.getfield 181, 3) := by decide +kernel
theorem dX12_note_75 : decode cX12_note 75 = .ok (.iconst 1, 1) := by decide +kernel
theorem dX12_note_76 : decode cX12_note 76 = .ok (.iadd, 1) := by decide +kernel
theorem dX12_note_77 : decode cX12_note 77 = .ok (.putfield 181, 3) := by decide +kernel
theorem dX12_note_80 : decode cX12_note 80 = .ok (.return_, 1) := by decide +kernel
theorem dX12_tend_0 : decode cX12_tend 0 = .ok (.aload_n 0, 1) := by decide +kernel
theorem dX12_tend_1 : decode cX12_tend 1 = .ok (.invokevirtual 165, 3) := by decide +kernel
theorem dX12_tend_4 : decode cX12_tend 4 = .ok (.aload_n 0, 1) := by decide +kernel
theorem dX12_tend_5 : decode cX12_tend 5 = .ok (.iload_n 1, 1) := by decide +kernel
theorem dX12_tend_6 : decode cX12_tend 6 = .ok (.invokevirtual 281, 3) := by decide +kernel
theorem dX12_tend_9 : decode cX12_tend 9 = .ok (.ifCond .eq 11, 3) := by decide +kernel
theorem dX12_tend_12 : decode cX12_tend 12 = .ok (.aload_n 0, 1) := by decide +kernel
theorem dX12_tend_13 : decode cX12_tend 13 = .ok (.iload_n 2, 1) := by decide +kernel
theorem dX12_tend_14 : decode cX12_tend 14 = .ok (.invokevirtual 275, 3) := by decide +kernel
theorem dX12_tend_17 : decode cX12_tend 17 = .ok (.ifCond .ne 9, 3) := by decide +kernel
theorem dX12_tend_20 : decode cX12_tend 20 = .ok (.aload_n 0, 1) := by decide +kernel
theorem dX12_tend_21 : decode cX12_tend 21 = .ok (.iconst 1, 1) := by decide +kernel
theorem dX12_tend_22 : decode cX12_tend 22 = .ok (.invokevirtual 431, 3) := by decide +kernel
theorem dX12_tend_25 : decode cX12_tend 25 = .ok (.ireturn, 1) := by decide +kernel
theorem dX12_tend_26 : decode cX12_tend 26 = .ok (.aload_n 0, 1) := by decide +kernel
theorem dX12_tend_27 : decode cX12_tend 27 = .ok (.getfield 26, 3) := by decide +kernel
theorem dX12_tend_30 : decode cX12_tend 30 = .ok (.bipush 7, 2) := by decide +kernel
theorem dX12_tend_32 : decode cX12_tend 32 = .ok (.iload_n 2, 1) := by decide +kernel
theorem dX12_tend_33 : decode cX12_tend 33 = .ok (.iadd, 1) := by decide +kernel
theorem dX12_tend_34 : decode cX12_tend 34 = .ok (.iaload, 1) := by decide +kernel
theorem dX12_tend_35 : decode cX12_tend 35 = .ok (.ifCond .gt 22, 3) := by decide +kernel
theorem dX12_tend_38 : decode cX12_tend 38 = .ok (.aload_n 0, 1) := by decide +kernel
theorem dX12_tend_39 : decode cX12_tend 39 = .ok (.iload_n 1, 1) := by decide +kernel
theorem dX12_tend_40 : decode cX12_tend 40 = .ok (.iload_n 2, 1) := by decide +kernel
theorem dX12_tend_41 : decode cX12_tend 41 = .ok (.invokevirtual 278, 3) := by decide +kernel
theorem dX12_tend_44 : decode cX12_tend 44 = .ok (.ifCond .eq 13, 3) := by decide +kernel
theorem dX12_tend_47 : decode cX12_tend 47 = .ok (.aload_n 0, 1) := by decide +kernel
theorem dX12_tend_48 : decode cX12_tend 48 = .ok (.getfield 26, 3) := by decide +kernel
theorem dX12_tend_51 : decode cX12_tend 51 = .ok (.bipush 16, 2) := by decide +kernel
theorem dX12_tend_53 : decode cX12_tend 53 = .ok (.iaload, 1) := by decide +kernel
theorem dX12_tend_54 : decode cX12_tend 54 = .ok (.ifCond .le 9, 3) := by decide +kernel
theorem dX12_tend_57 : decode cX12_tend 57 = .ok (.aload_n 0, 1) := by decide +kernel
theorem dX12_tend_58 : decode cX12_tend 58 = .ok (.iconst 5, 1) := by decide +kernel
theorem dX12_tend_59 : decode cX12_tend 59 = .ok (.invokevirtual 431, 3) := by decide +kernel
theorem dX12_tend_62 : decode cX12_tend 62 = .ok (.ireturn, 1) := by decide +kernel
theorem dX12_tend_63 : decode cX12_tend 63 = .ok (.aload_n 0, 1) := by decide +kernel
theorem dX12_tend_64 : decode cX12_tend 64 = .ok (.iload_n 1, 1) := by decide +kernel
theorem dX12_tend_65 : decode cX12_tend 65 = .ok (.invokevirtual 284, 3) := by decide +kernel
theorem dX12_tend_68 : decode cX12_tend 68 = .ok (.invokestatic 287, 3) := by decide +kernel
theorem dX12_tend_71 : decode cX12_tend 71 = .ok (.aload_n 0, 1) := by decide +kernel
theorem dX12_tend_72 : decode cX12_tend 72 = .ok (.getfield 20, 3) := by decide +kernel
theorem dX12_tend_75 : decode cX12_tend 75 = .ok (.bipush 29, 2) := by decide +kernel
theorem dX12_tend_77 : decode cX12_tend 77 = .ok (.iconst 3, 1) := by decide +kernel
theorem dX12_tend_78 : decode cX12_tend 78 = .ok (.iload_n 1, 1) := by decide +kernel
theorem dX12_tend_79 : decode cX12_tend 79 = .ok (.imul, 1) := by decide +kernel
theorem dX12_tend_80 : decode cX12_tend 80 = .ok (.iadd, 1) := by decide +kernel
theorem dX12_tend_81 : decode cX12_tend 81 = .ok (.iconst 1, 1) := by decide +kernel
theorem dX12_tend_82 : decode cX12_tend 82 = .ok (.iadd, 1) := by decide +kernel
theorem dX12_tend_83 : decode cX12_tend 83 = .ok (.iaload, 1) := by decide +kernel
theorem dX12_tend_84 : decode cX12_tend 84 = .ok (.if_icmp .ne 9, 3) := by decide +kernel
theorem dX12_tend_87 : decode cX12_tend 87 = .ok (.aload_n 0, 1) := by decide +kernel
theorem dX12_tend_88 : decode cX12_tend 88 = .ok (.iconst 3, 1) := by decide +kernel
theorem dX12_tend_89 : decode cX12_tend 89 = .ok (.invokevirtual 431, 3) := by decide +kernel
theorem dX12_tend_92 : decode cX12_tend 92 = .ok (.ireturn, 1) := by decide +kernel
theorem dX12_tend_93 : decode cX12_tend 93 = .ok (.aload_n 0, 1) := by decide +kernel
theorem dX12_tend_94 : decode cX12_tend 94 = .ok (.invokevirtual 434, 3) := by decide +kernel
theorem dX12_tend_97 : decode cX12_tend 97 = .ok (.aload_n 0, 1) := by decide +kernel
theorem dX12_tend_98 : decode cX12_tend 98 = .ok (.getfield 26, 3) := by decide +kernel
theorem dX12_tend_101 : decode cX12_tend 101 = .ok (.bipush 7, 2) := by decide +kernel
theorem dX12_tend_103 : decode cX12_tend 103 = .ok (.iload_n 2, 1) := by decide +kernel
theorem dX12_tend_104 : decode cX12_tend 104 = .ok (.iadd, 1) := by decide +kernel
theorem dX12_tend_105 : decode cX12_tend 105 = .ok (.iload_n 1, 1) := by decide +kernel
theorem dX12_tend_106 : decode cX12_tend 106 = .ok (.iconst 1, 1) := by decide +kernel
theorem dX12_tend_107 : decode cX12_tend 107 = .ok (.iadd, 1) := by decide +kernel
theorem dX12_tend_108 : decode cX12_tend 108 = .ok (.iastore, 1) := by decide +kernel
theorem dX12_tend_109 : decode cX12_tend 109 = .ok (.iconst 1, 1) := by decide +kernel
theorem dX12_tend_110 : decode cX12_tend 110 = .ok (.ireturn, 1) := by decide +kernel
theorem dX12_day_0 : decode cX12_day 0 = .ok (.aload_n 0, 1) := by decide +kernel
theorem dX12_day_1 : decode cX12_day 1 = .ok (.invokevirtual 165, 3) := by decide +kernel
theorem dX12_day_4 : decode cX12_day 4 = .ok (.aload_n 0, 1) := by decide +kernel
theorem dX12_day_5 : decode cX12_day 5 = .ok (.getfield 178, 3) := by decide +kernel
theorem dX12_day_8 : decode cX12_day 8 = .ok (.ifCond .ne 9, 3) := by decide +kernel
theorem dX12_day_11 : decode cX12_day 11 = .ok (.aload_n 0, 1) := by decide +kernel
theorem dX12_day_12 : decode cX12_day 12 = .ok (.iconst 1, 1) := by decide +kernel
theorem dX12_day_13 : decode cX12_day 13 = .ok (.invokevirtual 168, 3) := by decide +kernel
theorem dX12_day_16 : decode cX12_day 16 = .ok (.ireturn, 1) := by decide +kernel
theorem dX12_day_17 : decode cX12_day 17 = .ok (.aload_n 0, 1) := by decide +kernel
theorem dX12_day_18 : decode cX12_day 18 = .ok (.getfield 26, 3) := by decide +kernel
theorem dX12_day_21 : decode cX12_day 21 = .ok (.bipush 15, 2) := by decide +kernel
theorem dX12_day_23 : decode cX12_day 23 = .ok (.iaload, 1) := by decide +kernel
theorem dX12_day_24 : decode cX12_day 24 = .ok (.sipush 999, 3) := by decide +kernel
theorem dX12_day_27 : decode cX12_day 27 = .ok (.if_icmp .ne 9, 3) := by decide +kernel
theorem dX12_day_30 : decode cX12_day 30 = .ok (.aload_n 0, 1) := by decide +kernel
theorem dX12_day_31 : decode cX12_day 31 = .ok (.iconst 3, 1) := by decide +kernel
theorem dX12_day_32 : decode cX12_day 32 = .ok (.invokevirtual 168, 3) := by decide +kernel
theorem dX12_day_35 : decode cX12_day 35 = .ok (.ireturn, 1) := by decide +kernel
theorem dX12_day_36 : decode cX12_day 36 = .ok (.aload_n 0, 1) := by decide +kernel
theorem dX12_day_37 : decode cX12_day 37 = .ok (.getfield 26, 3) := by decide +kernel
theorem dX12_day_40 : decode cX12_day 40 = .ok (.bipush 16, 2) := by decide +kernel
theorem dX12_day_42 : decode cX12_day 42 = .ok (.iaload, 1) := by decide +kernel
theorem dX12_day_43 : decode cX12_day 43 = .ok (.ifCond .le 9, 3) := by decide +kernel
theorem dX12_day_46 : decode cX12_day 46 = .ok (.aload_n 0, 1) := by decide +kernel
theorem dX12_day_47 : decode cX12_day 47 = .ok (.iconst 5, 1) := by decide +kernel
theorem dX12_day_48 : decode cX12_day 48 = .ok (.invokevirtual 168, 3) := by decide +kernel
theorem dX12_day_51 : decode cX12_day 51 = .ok (.ireturn, 1) := by decide +kernel
theorem dX12_day_52 : decode cX12_day 52 = .ok (.aload_n 0, 1) := by decide +kernel
theorem dX12_day_53 : decode cX12_day 53 = .ok (.invokevirtual 434, 3) := by decide +kernel
theorem dX12_day_56 : decode cX12_day 56 = .ok (.aload_n 0, 1) := by decide +kernel
theorem dX12_day_57 : decode cX12_day 57 = .ok (.invokevirtual 297, 3) := by decide +kernel
theorem dX12_day_60 : decode cX12_day 60 = .ok (.istore_n 1, 1) := by decide +kernel
theorem dX12_day_61 : decode cX12_day 61 = .ok (.iconst 0, 1) := by decide +kernel
theorem dX12_day_62 : decode cX12_day 62 = .ok (.istore_n 2, 1) := by decide +kernel
theorem dX12_day_63 : decode cX12_day 63 = .ok (.iload_n 2, 1) := by decide +kernel
theorem dX12_day_64 : decode cX12_day 64 = .ok (.aload_n 0, 1) := by decide +kernel
theorem dX12_day_65 : decode cX12_day 65 = .ok (.getfield 20, 3) := by decide +kernel
theorem dX12_day_68 : decode cX12_day 68 = .ok (.iconst 2, 1) := by decide +kernel
theorem dX12_day_69 : decode cX12_day 69 = .ok (.iaload, 1) := by decide +kernel
theorem dX12_day_70 : decode cX12_day 70 = .ok (.if_icmp .ge 23, 3) := by decide +kernel
theorem dX12_day_73 : decode cX12_day 73 = .ok (.aload_n 0, 1) := by decide +kernel
theorem dX12_day_74 : decode cX12_day 74 = .ok (.getfield 26, 3) := by decide +kernel
theorem dX12_day_77 : decode cX12_day 77 = .ok (.iload_n 2, 1) := by decide +kernel
theorem dX12_day_78 : decode cX12_day 78 = .ok (.dup2, 1) := by decide +kernel
theorem dX12_day_79 : decode cX12_day 79 = .ok (.iaload, 1) := by decide +kernel
theorem dX12_day_80 : decode cX12_day 80 = .ok (.aload_n 0, 1) := by decide +kernel
theorem dX12_day_81 : decode cX12_day 81 = .ok (.iload_n 2, 1) := by decide +kernel
theorem dX12_day_82 : decode cX12_day 82 = .ok (.invokevirtual 294, 3) := by decide +kernel
theorem dX12_day_85 : decode cX12_day 85 = .ok (.iadd, 1) := by decide +kernel
theorem dX12_day_86 : decode cX12_day 86 = .ok (.iastore, 1) := by decide +kernel
theorem dX12_day_87 : decode cX12_day 87 = .ok (.iinc 2 1, 3) := by decide +kernel
theorem dX12_day_90 : decode cX12_day 90 = .ok (.goto (-27), 3) := by decide +kernel
theorem dX12_day_93 : decode cX12_day 93 = .ok (.iconst 0, 1) := by decide +kernel
theorem dX12_day_94 : decode cX12_day 94 = .ok (.istore_n 2, 1) := by decide +kernel
theorem dX12_day_95 : decode cX12_day 95 = .ok (.iload_n 2, 1) := by decide +kernel
theorem dX12_day_96 : decode cX12_day 96 = .ok (.bipush 7, 2) := by decide +kernel
theorem dX12_day_98 : decode cX12_day 98 = .ok (.if_icmp .ge 19, 3) := by decide +kernel
theorem dX12_day_101 : decode cX12_day 101 = .ok (.aload_n 0, 1) := by decide +kernel
theorem dX12_day_102 : decode cX12_day 102 = .ok (.getfield 26, 3) := by decide +kernel
theorem dX12_day_105 : decode cX12_day 105 = .ok (.bipush 7, 2) := by decide +kernel
theorem dX12_day_107 : decode cX12_day 107 = .ok (.iload_n 2, 1) := by decide +kernel
theorem dX12_day_108 : decode cX12_day 108 = .ok (.iadd, 1) := by decide +kernel
theorem dX12_day_109 : decode cX12_day 109 = .ok (.iconst 0, 1) := by decide +kernel
theorem dX12_day_110 : decode cX12_day 110 = .ok (.iastore, 1) := by decide +kernel
theorem dX12_day_111 : decode cX12_day 111 = .ok (.iinc 2 1, 3) := by decide +kernel
theorem dX12_day_114 : decode cX12_day 114 = .ok (.goto (-19), 3) := by decide +kernel
theorem dX12_day_117 : decode cX12_day 117 = .ok (.aload_n 0, 1) := by decide +kernel
theorem dX12_day_118 : decode cX12_day 118 = .ok (.getfield 26, 3) := by decide +kernel
theorem dX12_day_121 : decode cX12_day 121 = .ok (.bipush 15, 2) := by decide +kernel
theorem dX12_day_123 : decode cX12_day 123 = .ok (.dup2, 1) := by decide +kernel
theorem dX12_day_124 : decode cX12_day 124 = .ok (.iaload, 1) := by decide +kernel
theorem dX12_day_125 : decode cX12_day 125 = .ok (.iconst 1, 1) := by decide +kernel
theorem dX12_day_126 : decode cX12_day 126 = .ok (.iadd, 1) := by decide +kernel
theorem dX12_day_127 : decode cX12_day 127 = .ok (.iastore, 1) := by decide +kernel
theorem dX12_day_128 : decode cX12_day 128 = .ok (.iload_n 1, 1) := by decide +kernel
theorem dX12_day_129 : decode cX12_day 129 = .ok (.ireturn, 1) := by decide +kernel
theorem dX12_say_0 : decode cX12_say 0 = .ok (.aload_n 0, 1) := by decide +kernel
theorem dX12_say_1 : decode cX12_say 1 = .ok (.invokevirtual 165, 3) := by decide +kernel
theorem dX12_say_4 : decode cX12_say 4 = .ok (.aload_n 0, 1) := by decide +kernel
theorem dX12_say_5 : decode cX12_say 5 = .ok (.iload_n 1, 1) := by decide +kernel
theorem dX12_say_6 : decode cX12_say 6 = .ok (.invokevirtual 312, 3) := by decide +kernel
theorem dX12_say_9 : decode cX12_say 9 = .ok (.ifCond .ne 9, 3) := by decide +kernel
theorem dX12_say_12 : decode cX12_say 12 = .ok (.aload_n 0, 1) := by decide +kernel
theorem dX12_say_13 : decode cX12_say 13 = .ok (.iconst 1, 1) := by decide +kernel
theorem dX12_say_14 : decode cX12_say 14 = .ok (.invokevirtual 168, 3) := by decide +kernel
theorem dX12_say_17 : decode cX12_say 17 = .ok (.ireturn, 1) := by decide +kernel
theorem dX12_say_18 : decode cX12_say 18 = .ok (.aload_n 0, 1) := by decide +kernel
theorem dX12_say_19 : decode cX12_say 19 = .ok (.iload_n 1, 1) := by decide +kernel
theorem dX12_say_20 : decode cX12_say 20 = .ok (.invokevirtual 352, 3) := by decide +kernel
theorem dX12_say_23 : decode cX12_say 23 = .ok (.ifCond .ne 9, 3) := by decide +kernel
theorem dX12_say_26 : decode cX12_say 26 = .ok (.aload_n 0, 1) := by decide +kernel
theorem dX12_say_27 : decode cX12_say 27 = .ok (.iconst 5, 1) := by decide +kernel
theorem dX12_say_28 : decode cX12_say 28 = .ok (.invokevirtual 168, 3) := by decide +kernel
theorem dX12_say_31 : decode cX12_say 31 = .ok (.ireturn, 1) := by decide +kernel
theorem dX12_say_32 : decode cX12_say 32 = .ok (.aload_n 0, 1) := by decide +kernel
theorem dX12_say_33 : decode cX12_say 33 = .ok (.invokevirtual 434, 3) := by decide +kernel
theorem dX12_say_36 : decode cX12_say 36 = .ok (.aload_n 0, 1) := by decide +kernel
theorem dX12_say_37 : decode cX12_say 37 = .ok (.aload_n 0, 1) := by decide +kernel
theorem dX12_say_38 : decode cX12_say 38 = .ok (.invokevirtual 319, 3) := by decide +kernel
theorem dX12_say_41 : decode cX12_say 41 = .ok (.invokevirtual 322, 3) := by decide +kernel
theorem dX12_say_44 : decode cX12_say 44 = .ok (.istore_n 2, 1) := by decide +kernel
theorem dX12_say_45 : decode cX12_say 45 = .ok (.aload_n 0, 1) := by decide +kernel
theorem dX12_say_46 : decode cX12_say 46 = .ok (.getfield 26, 3) := by decide +kernel
theorem dX12_say_49 : decode cX12_say 49 = .ok (.bipush 17, 2) := by decide +kernel
theorem dX12_say_51 : decode cX12_say 51 = .ok (.bipush 75, 2) := by decide +kernel
theorem dX12_say_53 : decode cX12_say 53 = .ok (.aload_n 0, 1) := by decide +kernel
theorem dX12_say_54 : decode cX12_say 54 = .ok (.getfield 26, 3) := by decide +kernel
theorem dX12_say_57 : decode cX12_say 57 = .ok (.bipush 17, 2) := by decide +kernel
theorem dX12_say_59 : decode cX12_say 59 = .ok (.iaload, 1) := by decide +kernel
theorem dX12_say_60 : decode cX12_say 60 = .ok (.imul, 1) := by decide +kernel
theorem dX12_say_61 : decode cX12_say 61 = .ok (.bipush 74, 2) := by decide +kernel
theorem dX12_say_63 : decode cX12_say 63 = .ok (.iadd, 1) := by decide +kernel
theorem dX12_say_64 : decode cX12_say 64 = .ok (.ldc_w 426, 3) := by decide +kernel
theorem dX12_say_67 : decode cX12_say 67 = .ok (.irem, 1) := by decide +kernel
theorem dX12_say_68 : decode cX12_say 68 = .ok (.iastore, 1) := by decide +kernel
theorem dX12_say_69 : decode cX12_say 69 = .ok (.aload_n 0, 1) := by decide +kernel
theorem dX12_say_70 : decode cX12_say 70 = .ok (.getfield 26, 3) := by decide +kernel
theorem dX12_say_73 : decode cX12_say 73 = .ok (.bipush 14, 2) := by decide +kernel
theorem dX12_say_75 : decode cX12_say 75 = .ok (.dup2, 1) := by decide +kernel
theorem dX12_say_76 : decode cX12_say 76 = .ok (.iaload, 1) := by decide +kernel
theorem dX12_say_77 : decode cX12_say 77 = .ok (.iconst 1, 1) := by decide +kernel
theorem dX12_say_78 : decode cX12_say 78 = .ok (.iload_n 1, 1) := by decide +kernel
theorem dX12_say_79 : decode cX12_say 79 = .ok (.ishl, 1) := by decide +kernel
theorem dX12_say_80 : decode cX12_say 80 = .ok (.ior, 1) := by decide +kernel
theorem dX12_say_81 : decode cX12_say 81 = .ok (.iastore, 1) := by decide +kernel
theorem dX12_say_82 : decode cX12_say 82 = .ok (.aload_n 0, 1) := by decide +kernel
theorem dX12_say_83 : decode cX12_say 83 = .ok (.getfield 26, 3) := by decide +kernel
theorem dX12_say_86 : decode cX12_say 86 = .ok (.bipush 16, 2) := by decide +kernel
theorem dX12_say_88 : decode cX12_say 88 = .ok (.aload_n 0, 1) := by decide +kernel
theorem dX12_say_89 : decode cX12_say 89 = .ok (.getfield 26, 3) := by decide +kernel
theorem dX12_say_92 : decode cX12_say 92 = .ok (.bipush 17, 2) := by decide +kernel
theorem dX12_say_94 : decode cX12_say 94 = .ok (.iaload, 1) := by decide +kernel
theorem dX12_say_95 : decode cX12_say 95 = .ok (.iload_n 2, 1) := by decide +kernel
theorem dX12_say_96 : decode cX12_say 96 = .ok (.irem, 1) := by decide +kernel
theorem dX12_say_97 : decode cX12_say 97 = .ok (.aload_n 0, 1) := by decide +kernel
theorem dX12_say_98 : decode cX12_say 98 = .ok (.iload_n 1, 1) := by decide +kernel
theorem dX12_say_99 : decode cX12_say 99 = .ok (.invokevirtual 309, 3) := by decide +kernel
theorem dX12_say_102 : decode cX12_say 102 = .ok (.if_icmp .ge 7, 3) := by decide +kernel
theorem dX12_say_105 : decode cX12_say 105 = .ok (.iconst 1, 1) := by decide +kernel
theorem dX12_say_106 : decode cX12_say 106 = .ok (.goto 4, 3) := by decide +kernel
theorem dX12_say_109 : decode cX12_say 109 = .ok (.iconst 0, 1) := by decide +kernel
theorem dX12_say_110 : decode cX12_say 110 = .ok (.iastore, 1) := by decide +kernel
theorem dX12_say_111 : decode cX12_say 111 = .ok (.aload_n 0, 1) := by decide +kernel
theorem dX12_say_112 : decode cX12_say 112 = .ok (.getfield 26, 3) := by decide +kernel
theorem dX12_say_115 : decode cX12_say 115 = .ok (.bipush 16, 2) := by decide +kernel
theorem dX12_say_117 : decode cX12_say 117 = .ok (.iaload, 1) := by decide +kernel
theorem dX12_say_118 : decode cX12_say 118 = .ok (.ireturn, 1) := by decide +kernel
theorem dX12_seed_0 : decode cX12_seed 0 = .ok (.aload_n 0, 1) := by decide +kernel
theorem dX12_seed_1 : decode cX12_seed 1 = .ok (.invokevirtual 165, 3) := by decide +kernel
theorem dX12_seed_4 : decode cX12_seed 4 = .ok (.aload_n 0, 1) := by decide +kernel
theorem dX12_seed_5 : decode cX12_seed 5 = .ok (.getfield 178, 3) := by decide +kernel
theorem dX12_seed_8 : decode cX12_seed 8 = .ok (.ifCond .ne 9, 3) := by decide +kernel
theorem dX12_seed_11 : decode cX12_seed 11 = .ok (.aload_n 0, 1) := by decide +kernel
theorem dX12_seed_12 : decode cX12_seed 12 = .ok (.iconst 1, 1) := by decide +kernel
theorem dX12_seed_13 : decode cX12_seed 13 = .ok (.invokevirtual 431, 3) := by decide +kernel
theorem dX12_seed_16 : decode cX12_seed 16 = .ok (.ireturn, 1) := by decide +kernel
theorem dX12_seed_17 : decode cX12_seed 17 = .ok (.iload_n 1, 1) := by decide +kernel
theorem dX12_seed_18 : decode cX12_seed 18 = .ok (.iconst 0, 1) := by decide +kernel
theorem dX12_seed_19 : decode cX12_seed 19 = .ok (.ldc_w 419, 3) := by decide +kernel
theorem dX12_seed_22 : decode cX12_seed 22 = .ok (.invokestatic 146, 3) := by decide +kernel
theorem dX12_seed_25 : decode cX12_seed 25 = .ok (.ifCond .ne 9, 3) := by decide +kernel
theorem dX12_seed_28 : decode cX12_seed 28 = .ok (.aload_n 0, 1) := by decide +kernel
theorem dX12_seed_29 : decode cX12_seed 29 = .ok (.iconst 2, 1) := by decide +kernel
theorem dX12_seed_30 : decode cX12_seed 30 = .ok (.invokevirtual 431, 3) := by decide +kernel
theorem dX12_seed_33 : decode cX12_seed 33 = .ok (.ireturn, 1) := by decide +kernel
theorem dX12_seed_34 : decode cX12_seed 34 = .ok (.aload_n 0, 1) := by decide +kernel
theorem dX12_seed_35 : decode cX12_seed 35 = .ok (.getfield 26, 3) := by decide +kernel
theorem dX12_seed_38 : decode cX12_seed 38 = .ok (.bipush 17, 2) := by decide +kernel
theorem dX12_seed_40 : decode cX12_seed 40 = .ok (.iload_n 1, 1) := by decide +kernel
theorem dX12_seed_41 : decode cX12_seed 41 = .ok (.iastore, 1) := by decide +kernel
theorem dX12_seed_42 : decode cX12_seed 42 = .ok (.iconst 1, 1) := by decide +kernel
theorem dX12_seed_43 : decode cX12_seed 43 = .ok (.ireturn, 1) := by decide +kernel
theorem dX12_undo_0 : decode cX12_undo 0 = .ok (.aload_n 0, 1) := by decide +kernel
theorem dX12_undo_1 : decode cX12_undo 1 = .ok (.invokevirtual 165, 3) := by decide +kernel
theorem dX12_undo_4 : decode cX12_undo 4 = .ok (.aload_n 0, 1) := by decide +kernel
theorem dX12_undo_5 : decode cX12_undo 5 = .ok (.getfield 181, 3) := by decide +kernel
theorem dX12_undo_8 : decode cX12_undo 8 = .ok (.ifCond .ne 10, 3) := by decide +kernel
theorem dX12_undo_11 : decode cX12_undo 11 = .ok (.aload_n 0, 1) := by decide +kernel
theorem dX12_undo_12 : decode cX12_undo 12 = .ok (.bipush 6, 2) := by decide +kernel
theorem dX12_undo_14 : decode cX12_undo 14 = .ok (.invokevirtual 431, 3) := by decide +kernel
theorem dX12_undo_17 : decode cX12_undo 17 = .ok (.ireturn, 1) := by decide +kernel
theorem dX12_undo_18 : decode cX12_undo 18 = .ok (.aload_n 0, 1) := by decide +kernel
theorem dX12_undo_19 : decode cX12_undo 19 = .ok (.dup, 1) := by decide +kernel
theorem dX12_undo_20 : decode cX12_undo 20 = .ok (.getfield 181, 3) := by decide +kernel
theorem dX12_undo_23 : decode cX12_undo 23 = .ok (.iconst 1, 1) := by decide +kernel
theorem dX12_undo_24 : decode cX12_undo 24 = .ok (.isub, 1) := by decide +kernel
theorem dX12_undo_25 : decode cX12_undo 25 = .ok (.putfield 181, 3) := by decide +kernel
theorem dX12_undo_28 : decode cX12_undo 28 = .ok (.aload_n 0, 1) := by decide +kernel
theorem dX12_undo_29 : decode cX12_undo 29 = .ok (.getfield 29, 3) := by decide +kernel
theorem dX12_undo_32 : decode cX12_undo 32 = .ok (.bipush 18, 2) := by decide +kernel
theorem dX12_undo_34 : decode cX12_undo 34 = .ok (.aload_n 0, 1) := by decide +kernel
theorem dX12_undo_35 : decode cX12_undo 35 = .ok (.getfield 181, 3) := by decide +kernel
theorem dX12_undo_38 : decode cX12_undo 38 = .ok (.imul, 1) := by decide +kernel
theorem dX12_undo_39 : decode cX12_undo 39 = .ok (.aload_n 0, 1) := by decide +kernel
theorem dX12_undo_40 : decode cX12_undo 40 = .ok (.getfield 26, 3) := by decide +kernel
theorem dX12_undo_43 : decode cX12_undo 43 = .ok (.iconst 0, 1) := by decide +kernel
theorem dX12_undo_44 : decode cX12_undo 44 = .ok (.bipush 18, 2) := by decide +kernel
theorem dX12_undo_46 : decode cX12_undo 46 = .ok (.invokestatic 174, 3) := by decide +kernel
theorem dX12_undo_49 : decode cX12_undo 49 = .ok (.iconst 1, 1) := by decide +kernel
theorem dX12_undo_50 : decode cX12_undo 50 = .ok (.ireturn, 1) := by decide +kernel
theorem dX12_image_0 : decode cX12_image 0 = .ok (.aload_n 0, 1) := by decide +kernel
theorem dX12_image_1 : decode cX12_image 1 = .ok (.invokevirtual 165, 3) := by decide +kernel
theorem dX12_image_4 : decode cX12_image 4 = .ok (.aload_n 0, 1) := by decide +kernel
theorem dX12_image_5 : decode cX12_image 5 = .ok (.getfield 178, 3) := by decide +kernel
theorem dX12_image_8 : decode cX12_image 8 = .ok (.ifCond .ne 9, 3) := by decide +kernel
theorem dX12_image_11 : decode cX12_image 11 = .ok (.aload_n 0, 1) := by decide +kernel
theorem dX12_image_12 : decode cX12_image 12 = .ok (.iconst 1, 1) := by decide +kernel
theorem dX12_image_13 : decode cX12_image 13 = .ok (.invokevirtual 168, 3) := by decide +kernel
theorem dX12_image_16 : decode cX12_image 16 = .ok (.ireturn, 1) := by decide +kernel
theorem dX12_image_17 : decode cX12_image 17 = .ok (.aload_n 0, 1) := by decide +kernel
theorem dX12_image_18 : decode cX12_image 18 = .ok (.getfield 184, 3) := by decide +kernel
theorem dX12_image_21 : decode cX12_image 21 = .ok (.iconst 3, 1) := by decide +kernel
theorem dX12_image_22 : decode cX12_image 22 = .ok (.if_icmp .ne 9, 3) := by decide +kernel
theorem dX12_image_25 : decode cX12_image 25 = .ok (.aload_n 0, 1) := by decide +kernel
theorem dX12_image_26 : decode cX12_image 26 = .ok (.iconst 3, 1) := by decide +kernel
theorem dX12_image_27 : decode cX12_image 27 = .ok (.invokevirtual 168, 3) := by decide +kernel
theorem dX12_image_30 : decode cX12_image 30 = .ok (.ireturn, 1) := by decide +kernel
theorem dX12_image_31 : decode cX12_image 31 = .ok (.aload_n 0, 1) := by decide +kernel
theorem dX12_image_32 : decode cX12_image 32 = .ok (.getfield 26, 3) := by decide +kernel
theorem dX12_image_35 : decode cX12_image 35 = .ok (.iconst 0, 1) := by decide +kernel
theorem dX12_image_36 : decode cX12_image 36 = .ok (.aload_n 0, 1) := by decide +kernel
theorem dX12_image_37 : decode cX12_image 37 = .ok (.getfield 32, 3) := by decide +kernel
theorem dX12_image_40 : decode cX12_image 40 = .ok (.bipush 18, 2) := by decide +kernel
theorem dX12_image_42 : decode cX12_image 42 = .ok (.aload_n 0, 1) := by decide +kernel
theorem dX12_image_43 : decode cX12_image 43 = .ok (.getfield 184, 3) := by decide +kernel
theorem dX12_image_46 : decode cX12_image 46 = .ok (.imul, 1) := by decide +kernel
theorem dX12_image_47 : decode cX12_image 47 = .ok (.bipush 18, 2) := by decide +kernel
theorem dX12_image_49 : decode cX12_image 49 = .ok (.invokestatic 174, 3) := by decide +kernel
theorem dX12_image_52 : decode cX12_image 52 = .ok (.aload_n 0, 1) := by decide +kernel
theorem dX12_image_53 : decode cX12_image 53 = .ok (.dup, 1) := by decide +kernel
theorem dX12_image_54 : decode cX12_image 54 = .ok (.getfield 184, 3) := by decide +kernel
theorem dX12_image_57 : decode cX12_image 57 = .ok (.iconst 1, 1) := by decide +kernel
theorem dX12_image_58 : decode cX12_image 58 = .ok (.iadd, 1) := by decide +kernel
theorem dX12_image_59 : decode cX12_image 59 = .ok (.putfield 184, 3) := by decide +kernel
theorem dX12_image_62 : decode cX12_image 62 = .ok (.aload_n 0, 1) := by decide +kernel
theorem dX12_image_63 : decode cX12_image 63 = .ok (.getfield 184, 3) := by decide +kernel
theorem dX12_image_66 : decode cX12_image 66 = .ok (.iconst 1, 1) := by decide +kernel
theorem dX12_image_67 : decode cX12_image 67 = .ok (.isub, 1) := by decide +kernel
theorem dX12_image_68 : decode cX12_image 68 = .ok (.ireturn, 1) := by decide +kernel
theorem dX12_back_0 : decode cX12_back 0 = .ok (.aload_n 0, 1) := by decide +kernel
theorem dX12_back_1 : decode cX12_back 1 = .ok (.invokevirtual 165, 3) := by decide +kernel
theorem dX12_back_4 : decode cX12_back 4 = .ok (.iload_n 1, 1) := by decide +kernel
theorem dX12_back_5 : decode cX12_back 5 = .ok (.iconst 0, 1) := by decide +kernel
theorem dX12_back_6 : decode cX12_back 6 = .ok (.aload_n 0, 1) := by decide +kernel
theorem dX12_back_7 : decode cX12_back 7 = .ok (.getfield 184, 3) := by decide +kernel
theorem dX12_back_10 : decode cX12_back 10 = .ok (.iconst 1, 1) := by decide +kernel
theorem dX12_back_11 : decode cX12_back 11 = .ok (.isub, 1) := by decide +kernel
theorem dX12_back_12 : decode cX12_back 12 = .ok (.invokestatic 146, 3) := by decide +kernel
theorem dX12_back_15 : decode cX12_back 15 = .ok (.ifCond .ne 9, 3) := by decide +kernel
theorem dX12_back_18 : decode cX12_back 18 = .ok (.aload_n 0, 1) := by decide +kernel
theorem dX12_back_19 : decode cX12_back 19 = .ok (.iconst 1, 1) := by decide +kernel
theorem dX12_back_20 : decode cX12_back 20 = .ok (.invokevirtual 431, 3) := by decide +kernel
theorem dX12_back_23 : decode cX12_back 23 = .ok (.ireturn, 1) := by decide +kernel
theorem dX12_back_24 : decode cX12_back 24 = .ok (.aload_n 0, 1) := by decide +kernel
theorem dX12_back_25 : decode cX12_back 25 = .ok (.getfield 32, 3) := by decide +kernel
theorem dX12_back_28 : decode cX12_back 28 = .ok (.bipush 18, 2) := by decide +kernel
theorem dX12_back_30 : decode cX12_back 30 = .ok (.iload_n 1, 1) := by decide +kernel
theorem dX12_back_31 : decode cX12_back 31 = .ok (.imul, 1) := by decide +kernel
theorem dX12_back_32 : decode cX12_back 32 = .ok (.aload_n 0, 1) := by decide +kernel
theorem dX12_back_33 : decode cX12_back 33 = .ok (.getfield 26, 3) := by decide +kernel
theorem dX12_back_36 : decode cX12_back 36 = .ok (.iconst 0, 1) := by decide +kernel
theorem dX12_back_37 : decode cX12_back 37 = .ok (.bipush 18, 2) := by decide +kernel
theorem dX12_back_39 : decode cX12_back 39 = .ok (.invokestatic 174, 3) := by decide +kernel
theorem dX12_back_42 : decode cX12_back 42 = .ok (.aload_n 0, 1) := by decide +kernel
theorem dX12_back_43 : decode cX12_back 43 = .ok (.iconst 0, 1) := by decide +kernel
theorem dX12_back_44 : decode cX12_back 44 = .ok (.putfield 181, 3) := by decide +kernel
theorem dX12_back_47 : decode cX12_back 47 = .ok (.iconst 1, 1) := by decide +kernel
theorem dX12_back_48 : decode cX12_back 48 = .ok (.ireturn, 1) := by decide +kernel
theorem dX12_led_0 : decode cX12_led 0 = .ok (.iconst 0, 1) := by decide +kernel
theorem dX12_led_1 : decode cX12_led 1 = .ok (.istore_n 2, 1) := by decide +kernel
theorem dX12_led_2 : decode cX12_led 2 = .ok (.iconst 0, 1) := by decide +kernel
theorem dX12_led_3 : decode cX12_led 3 = .ok (.istore_n 3, 1) := by decide +kernel
theorem dX12_led_4 : decode cX12_led 4 = .ok (.aload_n 0, 1) := by decide +kernel
theorem dX12_led_5 : decode cX12_led 5 = .ok (.getfield 178, 3) := by decide +kernel
theorem dX12_led_8 : decode cX12_led 8 = .ok (.ifCond .eq 51, 3) := by decide +kernel
theorem dX12_led_11 : decode cX12_led 11 = .ok (.iload_n 3, 1) := by decide +kernel
theorem dX12_led_12 : decode cX12_led 12 = .ok (.aload_n 0, 1) := by decide +kernel
theorem dX12_led_13 : decode cX12_led 13 = .ok (.getfield 20, 3) := by decide +kernel
theorem dX12_led_16 : decode cX12_led 16 = .ok (.iconst 4, 1) := by decide +kernel
theorem dX12_led_17 : decode cX12_led 17 = .ok (.iaload, 1) := by decide +kernel
theorem dX12_led_18 : decode cX12_led 18 = .ok (.if_icmp .ge 41, 3) := by decide +kernel
theorem dX12_led_21 : decode cX12_led 21 = .ok (.aload_n 0, 1) := by decide +kernel
theorem dX12_led_22 : decode cX12_led 22 = .ok (.getfield 26, 3) := by decide +kernel
theorem dX12_led_25 : decode cX12_led 25 = .ok (.bipush 14, 2) := by decide +kernel
theorem dX12_led_27 : decode cX12_led 27 = .ok (.iaload, 1) := by decide +kernel
theorem dX12_led_28 : decode cX12_led 28 = .ok (.iload_n 3, 1) := by decide +kernel
theorem dX12_led_29 : decode cX12_led 29 = .ok (.invokestatic 241, 3) := by decide +kernel
theorem dX12_led_32 : decode cX12_led 32 = .ok (.ifCond .ne 6, 3) := by decide +kernel
theorem dX12_led_35 : decode cX12_led 35 = .ok (.goto 18, 3) := by decide +kernel
theorem dX12_led_38 : decode cX12_led 38 = .ok (.iload_n 2, 1) := by decide +kernel
theorem dX12_led_39 : decode cX12_led 39 = .ok (.iload_n 1, 1) := by decide +kernel
theorem dX12_led_40 : decode cX12_led 40 = .ok (.if_icmp .ne 10, 3) := by decide +kernel
theorem dX12_led_43 : decode cX12_led 43 = .ok (.aload_n 0, 1) := by decide +kernel
theorem dX12_led_44 : decode cX12_led 44 = .ok (.iconst 0, 1) := by decide +kernel
theorem dX12_led_45 : decode cX12_led 45 = .ok (.putfield 53, 3) := by decide +kernel
theorem dX12_led_48 : decode cX12_led 48 = .ok (.iload_n 3, 1) := by decide +kernel
theorem dX12_led_49 : decode cX12_led 49 = .ok (.ireturn, 1) := by decide +kernel
theorem dX12_led_50 : decode cX12_led 50 = .ok (.iinc 2 1, 3) := by decide +kernel
theorem dX12_led_53 : decode cX12_led 53 = .ok (.iinc 3 1, 3) := by decide +kernel
theorem dX12_led_56 : decode cX12_led 56 = .ok (.goto (-52), 3) := by decide +kernel
theorem dX12_led_59 : decode cX12_led 59 = .ok (.aload_n 0, 1) := by decide +kernel
theorem dX12_led_60 : decode cX12_led 60 = .ok (.iconst 1, 1) := by decide +kernel
theorem dX12_led_61 : decode cX12_led 61 = .ok (.putfield 53, 3) := by decide +kernel
theorem dX12_led_64 : decode cX12_led 64 = .ok (.iconst 0, 1) := by decide +kernel
theorem dX12_led_65 : decode cX12_led 65 = .ok (.ireturn, 1) := by decide +kernel
theorem dX12_size_0 : decode cX12_size 0 = .ok (.aload_n 0, 1) := by decide +kernel
theorem dX12_size_1 : decode cX12_size 1 = .ok (.iconst 0, 1) := by decide +kernel
theorem dX12_size_2 : decode cX12_size 2 = .ok (.putfield 53, 3) := by decide +kernel
theorem dX12_size_5 : decode cX12_size 5 = .ok (.iload_n 1, 1) := by decide +kernel
theorem dX12_size_6 : decode cX12_size 6 = .ok (.bipush 13, 2) := by decide +kernel
theorem dX12_size_8 : decode cX12_size 8 = .ok (.if_icmp .ne 8, 3) := by decide +kernel
theorem dX12_size_11 : decode cX12_size 11 = .ok (.aload_n 0, 1) := by decide +kernel
theorem dX12_size_12 : decode cX12_size 12 = .ok (.getfield 59, 3) := by decide +kernel
theorem dX12_size_15 : decode cX12_size 15 = .ok (.ireturn, 1) := by decide +kernel
theorem dX12_size_16 : decode cX12_size 16 = .ok (.aload_n 0, 1) := by decide +kernel
theorem dX12_size_17 : decode cX12_size 17 = .ok (.getfield 178, 3) := by decide +kernel
theorem dX12_size_20 : decode cX12_size 20 = .ok (.ifCond .ne 19, 3) := by decide +kernel
theorem dX12_size_23 : decode cX12_size 23 = .ok (.iload_n 1, 1) := by decide +kernel
theorem dX12_size_24 : decode cX12_size 24 = .ok (.iconst 0, 1) := by decide +kernel
theorem dX12_size_25 : decode cX12_size 25 = .ok (.bipush 12, 2) := by decide +kernel
theorem dX12_size_27 : decode cX12_size 27 = .ok (.invokestatic 146, 3) := by decide +kernel
theorem dX12_size_30 : decode cX12_size 30 = .ok (.ifCond .eq 7, 3) := by decide +kernel
theorem dX12_size_33 : decode cX12_size 33 = .ok (.iconst 0, 1) := by decide +kernel
theorem dX12_size_34 : decode cX12_size 34 = .ok (.goto 4, 3) := by decide +kernel
theorem dX12_size_37 : decode cX12_size 37 = .ok (.iconst (-1), 1) := by decide +kernel
theorem dX12_size_38 : decode cX12_size 38 = .ok (.ireturn, 1) := by decide +kernel
theorem dX12_size_39 : decode cX12_size 39 = .ok (.iload_n 1, 1) := by decide +kernel
theorem dX12_size_40 : decode cX12_size 40 = .ok (.iconst 0, 1) := by decide +kernel
theorem dX12_size_41 : decode cX12_size 41 = .ok (.bipush 7, 2) := by decide +kernel
theorem dX12_size_43 : decode cX12_size 43 = .ok (.invokestatic 146, 3) := by decide +kernel
theorem dX12_size_46 : decode cX12_size 46 = .ok (.ifCond .eq 10, 3) := by decide +kernel
theorem dX12_size_49 : decode cX12_size 49 = .ok (.aload_n 0, 1) := by decide +kernel
theorem dX12_size_50 : decode cX12_size 50 = .ok (.getfield 20, 3) := by decide +kernel
theorem dX12_size_53 : decode cX12_size 53 = .ok (.iload_n 1, 1) := by decide +kernel
theorem dX12_size_54 : decode cX12_size 54 = .ok (.iaload, 1) := by decide +kernel
theorem dX12_size_55 : decode cX12_size 55 = .ok (.ireturn, 1) := by decide +kernel
theorem dX12_size_56 : decode cX12_size 56 = .ok (.iload_n 1, 1) := by decide +kernel
theorem dX12_size_57 : decode cX12_size 57 = .ok (.tableswitch 69 8 12 #[35, 43, 51, 59, 64], 35) := by decide +kernel
theorem dX12_size_92 : decode cX12_size 92 = .ok (.aload_n 0, 1) := by decide +kernel
theorem dX12_size_93 : decode cX12_size 93 = .ok (.getfield 26, 3) := by decide +kernel
theorem dX12_size_96 : decode cX12_size 96 = .ok (.bipush 15, 2) := by decide +kernel
theorem dX12_size_98 : decode cX12_size 98 = .ok (.iaload, 1) := by decide +kernel
theorem dX12_size_99 : decode cX12_size 99 = .ok (.ireturn, 1) := by decide +kernel
theorem dX12_size_100 : decode cX12_size 100 = .ok (.aload_n 0, 1) := by decide +kernel
theorem dX12_size_101 : decode cX12_size 101 = .ok (.getfield 26, 3) := by decide +kernel
theorem dX12_size_104 : decode cX12_size 104 = .ok (.bipush 16, 2) := by decide +kernel
theorem dX12_size_106 : decode cX12_size 106 = .ok (.iaload, 1) := by decide +kernel
theorem dX12_size_107 : decode cX12_size 107 = .ok (.ireturn, 1) := by decide +kernel
theorem dX12_size_108 : decode cX12_size 108 = .ok (.aload_n 0, 1) := by decide +kernel
theorem dX12_size_109 : decode cX12_size 109 = .ok (.getfield 26, 3) := by decide +kernel
theorem dX12_size_112 : decode cX12_size 112 = .ok (.bipush 17, 2) := by decide +kernel
theorem dX12_size_114 : decode cX12_size 114 = .ok (.iaload, 1) := by decide +kernel
theorem dX12_size_115 : decode cX12_size 115 = .ok (.ireturn, 1) := by decide +kernel
theorem dX12_size_116 : decode cX12_size 116 = .ok (.aload_n 0, 1) := by decide +kernel
theorem dX12_size_117 : decode cX12_size 117 = .ok (.getfield 181, 3) := by decide +kernel
theorem dX12_size_120 : decode cX12_size 120 = .ok (.ireturn, 1) := by decide +kernel
theorem dX12_size_121 : decode cX12_size 121 = .ok (.aload_n 0, 1) := by decide +kernel
theorem dX12_size_122 : decode cX12_size 122 = .ok (.getfield 184, 3) := by decide +kernel
theorem dX12_size_125 : decode cX12_size 125 = .ok (.ireturn, 1) := by decide +kernel
theorem dX12_size_126 : decode cX12_size 126 = .ok (.iconst (-1), 1) := by decide +kernel
theorem dX12_size_127 : decode cX12_size 127 = .ok (.ireturn, 1) := by decide +kernel
theorem dX12_trouble_0 : decode cX12_trouble 0 = .ok (.aload_n 0, 1) := by decide +kernel
theorem dX12_trouble_1 : decode cX12_trouble 1 = .ok (.iconst 0, 1) := by decide +kernel
theorem dX12_trouble_2 : decode cX12_trouble 2 = .ok (.putfield 53, 3) := by decide +kernel
theorem dX12_trouble_5 : decode cX12_trouble 5 = .ok (.aload_n 0, 1) := by decide +kernel
theorem dX12_trouble_6 : decode cX12_trouble 6 = .ok (.getfield 56, 3) := by decide +kernel
theorem dX12_trouble_9 : decode cX12_trouble 9 = .ok (.ireturn, 1) := by decide +kernel
