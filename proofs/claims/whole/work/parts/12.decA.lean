theorem dX0_init_0 : decode cX0_init 0 = .ok (.aload_n 0, 1) := by decide +kernel
theorem dX0_init_1 : decode cX0_init 1 = .ok (.invokespecial 3, 3) := by decide +kernel
theorem dX0_init_4 : decode cX0_init 4 = .ok (.aload_n 0, 1) := by decide +kernel
theorem dX0_init_5 : decode cX0_init 5 = .ok (.new 9, 3) := by decide +kernel
theorem dX0_init_8 : decode cX0_init 8 = .ok (.dup, 1) := by decide +kernel
theorem dX0_init_9 : decode cX0_init 9 = .ok (.invokespecial 11, 3) := by decide +kernel
theorem dX0_init_12 : decode cX0_init 12 = .ok (.putfield 12, 3) := by decide +kernel
theorem dX0_init_15 : decode cX0_init 15 = .ok (.aload_n 0, 1) := by decide +kernel
theorem dX0_init_16 : decode cX0_init 16 = .ok (.new 18, 3) := by decide +kernel
theorem dX0_init_19 : decode cX0_init 19 = .ok (.dup, 1) := by decide +kernel
theorem dX0_init_20 : decode cX0_init 20 = .ok (.invokespecial 20, 3) := by decide +kernel
theorem dX0_init_23 : decode cX0_init 23 = .ok (.putfield 21, 3) := by decide +kernel
theorem dX0_init_26 : decode cX0_init 26 = .ok (.aload_n 0, 1) := by decide +kernel
theorem dX0_init_27 : decode cX0_init 27 = .ok (.new 25, 3) := by decide +kernel
theorem dX0_init_30 : decode cX0_init 30 = .ok (.dup, 1) := by decide +kernel
theorem dX0_init_31 : decode cX0_init 31 = .ok (.invokespecial 27, 3) := by decide +kernel
theorem dX0_init_34 : decode cX0_init 34 = .ok (.putfield 28, 3) := by decide +kernel
theorem dX0_init_37 : decode cX0_init 37 = .ok (.aload_n 0, 1) := by decide +kernel
theorem dX0_init_38 : decode cX0_init 38 = .ok (.new 32, 3) := by decide +kernel
theorem dX0_init_41 : decode cX0_init 41 = .ok (.dup, 1) := by decide +kernel
theorem dX0_init_42 : decode cX0_init 42 = .ok (.invokespecial 34, 3) := by decide +kernel
theorem dX0_init_45 : decode cX0_init 45 = .ok (.putfield 35, 3) := by decide +kernel
theorem dX0_init_48 : decode cX0_init 48 = .ok (.return_, 1) := by decide +kernel
theorem dX0_clear_0 : decode cX0_clear 0 = .ok (.aload_n 0, 1) := by decide +kernel
theorem dX0_clear_1 : decode cX0_clear 1 = .ok (.iconst 0, 1) := by decide +kernel
theorem dX0_clear_2 : decode cX0_clear 2 = .ok (.putfield 39, 3) := by decide +kernel
theorem dX0_clear_5 : decode cX0_clear 5 = .ok (.aload_n 0, 1) := by decide +kernel
theorem dX0_clear_6 : decode cX0_clear 6 = .ok (.iconst 0, 1) := by decide +kernel
theorem dX0_clear_7 : decode cX0_clear 7 = .ok (.putfield 43, 3) := by decide +kernel
theorem dX0_clear_10 : decode cX0_clear 10 = .ok (.aload_n 0, 1) := by decide +kernel
theorem dX0_clear_11 : decode cX0_clear 11 = .ok (.iconst 0, 1) := by decide +kernel
theorem dX0_clear_12 : decode cX0_clear 12 = .ok (.putfield 47, 3) := by decide +kernel
theorem dX0_clear_15 : decode cX0_clear 15 = .ok (.aload_n 0, 1) := by decide +kernel
theorem dX0_clear_16 : decode cX0_clear 16 = .ok (.getfield 12, 3) := by decide +kernel
theorem dX0_clear_19 : decode cX0_clear 19 = .ok (.iconst 0, 1) := by decide +kernel
theorem dX0_clear_20 : decode cX0_clear 20 = .ok (.putfield 50, 3) := by decide +kernel
theorem dX0_clear_23 : decode cX0_clear 23 = .ok (.aload_n 0, 1) := by decide +kernel
theorem dX0_clear_24 : decode cX0_clear 24 = .ok (.getfield 21, 3) := by decide +kernel
theorem dX0_clear_27 : decode cX0_clear 27 = .ok (.iconst 0, 1) := by decide +kernel
theorem dX0_clear_28 : decode cX0_clear 28 = .ok (.putfield 53, 3) := by decide +kernel
theorem dX0_clear_31 : decode cX0_clear 31 = .ok (.aload_n 0, 1) := by decide +kernel
theorem dX0_clear_32 : decode cX0_clear 32 = .ok (.getfield 28, 3) := by decide +kernel
theorem dX0_clear_35 : decode cX0_clear 35 = .ok (.iconst 0, 1) := by decide +kernel
theorem dX0_clear_36 : decode cX0_clear 36 = .ok (.putfield 54, 3) := by decide +kernel
theorem dX0_clear_39 : decode cX0_clear 39 = .ok (.aload_n 0, 1) := by decide +kernel
theorem dX0_clear_40 : decode cX0_clear 40 = .ok (.getfield 28, 3) := by decide +kernel
theorem dX0_clear_43 : decode cX0_clear 43 = .ok (.iconst 0, 1) := by decide +kernel
theorem dX0_clear_44 : decode cX0_clear 44 = .ok (.putfield 55, 3) := by decide +kernel
theorem dX0_clear_47 : decode cX0_clear 47 = .ok (.aload_n 0, 1) := by decide +kernel
theorem dX0_clear_48 : decode cX0_clear 48 = .ok (.getfield 35, 3) := by decide +kernel
theorem dX0_clear_51 : decode cX0_clear 51 = .ok (.iconst 0, 1) := by decide +kernel
theorem dX0_clear_52 : decode cX0_clear 52 = .ok (.putfield 58, 3) := by decide +kernel
theorem dX0_clear_55 : decode cX0_clear 55 = .ok (.aload_n 0, 1) := by decide +kernel
theorem dX0_clear_56 : decode cX0_clear 56 = .ok (.getfield 35, 3) := by decide +kernel
theorem dX0_clear_59 : decode cX0_clear 59 = .ok (.iconst 0, 1) := by decide +kernel
theorem dX0_clear_60 : decode cX0_clear 60 = .ok (.putfield 59, 3) := by decide +kernel
theorem dX0_clear_63 : decode cX0_clear 63 = .ok (.return_, 1) := by decide +kernel
theorem dX0_hasName_0 : decode cX0_hasName 0 = .ok (.iconst 0, 1) := by decide +kernel
theorem dX0_hasName_1 : decode cX0_hasName 1 = .ok (.istore_n 3, 1) := by decide +kernel
theorem dX0_hasName_2 : decode cX0_hasName 2 = .ok (.iload_n 3, 1) := by decide +kernel
theorem dX0_hasName_3 : decode cX0_hasName 3 = .ok (.aload_n 0, 1) := by decide +kernel
theorem dX0_hasName_4 : decode cX0_hasName 4 = .ok (.getfield 12, 3) := by decide +kernel
theorem dX0_hasName_7 : decode cX0_hasName 7 = .ok (.getfield 50, 3) := by decide +kernel
theorem dX0_hasName_10 : decode cX0_hasName 10 = .ok (.if_icmp .ge 25, 3) := by decide +kernel
theorem dX0_hasName_13 : decode cX0_hasName 13 = .ok (.aload_n 0, 1) := by decide +kernel
theorem dX0_hasName_14 : decode cX0_hasName 14 = .ok (.getfield 12, 3) := by decide +kernel
theorem dX0_hasName_17 : decode cX0_hasName 17 = .ok (.getfield 62, 3) := by decide +kernel
theorem dX0_hasName_20 : decode cX0_hasName 20 = .ok (.iload_n 3, 1) := by decide +kernel
theorem dX0_hasName_21 : decode cX0_hasName 21 = .ok (.laload, 1) := by decide +kernel
theorem dX0_hasName_22 : decode cX0_hasName 22 = .ok (.lload_n 1, 1) := by decide +kernel
theorem dX0_hasName_23 : decode cX0_hasName 23 = .ok (.lcmp, 1) := by decide +kernel
theorem dX0_hasName_24 : decode cX0_hasName 24 = .ok (.ifCond .ne 5, 3) := by decide +kernel
theorem dX0_hasName_27 : decode cX0_hasName 27 = .ok (.iconst 1, 1) := by decide +kernel
theorem dX0_hasName_28 : decode cX0_hasName 28 = .ok (.ireturn, 1) := by decide +kernel
theorem dX0_hasName_29 : decode cX0_hasName 29 = .ok (.iinc 3 1, 3) := by decide +kernel
theorem dX0_hasName_32 : decode cX0_hasName 32 = .ok (.goto (-30), 3) := by decide +kernel
theorem dX0_hasName_35 : decode cX0_hasName 35 = .ok (.iconst 0, 1) := by decide +kernel
theorem dX0_hasName_36 : decode cX0_hasName 36 = .ok (.istore_n 3, 1) := by decide +kernel
theorem dX0_hasName_37 : decode cX0_hasName 37 = .ok (.iload_n 3, 1) := by decide +kernel
theorem dX0_hasName_38 : decode cX0_hasName 38 = .ok (.aload_n 0, 1) := by decide +kernel
theorem dX0_hasName_39 : decode cX0_hasName 39 = .ok (.getfield 21, 3) := by decide +kernel
theorem dX0_hasName_42 : decode cX0_hasName 42 = .ok (.getfield 53, 3) := by decide +kernel
theorem dX0_hasName_45 : decode cX0_hasName 45 = .ok (.if_icmp .ge 25, 3) := by decide +kernel
theorem dX0_hasName_48 : decode cX0_hasName 48 = .ok (.aload_n 0, 1) := by decide +kernel
theorem dX0_hasName_49 : decode cX0_hasName 49 = .ok (.getfield 21, 3) := by decide +kernel
theorem dX0_hasName_52 : decode cX0_hasName 52 = .ok (.getfield 66, 3) := by decide +kernel
theorem dX0_hasName_55 : decode cX0_hasName 55 = .ok (.iload_n 3, 1) := by decide +kernel
theorem dX0_hasName_56 : decode cX0_hasName 56 = .ok (.laload, 1) := by decide +kernel
theorem dX0_hasName_57 : decode cX0_hasName 57 = .ok (.lload_n 1, 1) := by decide +kernel
theorem dX0_hasName_58 : decode cX0_hasName 58 = .ok (.lcmp, 1) := by decide +kernel
theorem dX0_hasName_59 : decode cX0_hasName 59 = .ok (.ifCond .ne 5, 3) := by decide +kernel
theorem dX0_hasName_62 : decode cX0_hasName 62 = .ok (.iconst 1, 1) := by decide +kernel
theorem dX0_hasName_63 : decode cX0_hasName 63 = .ok (.ireturn, 1) := by decide +kernel
theorem dX0_hasName_64 : decode cX0_hasName 64 = .ok (.iinc 3 1, 3) := by decide +kernel
theorem dX0_hasName_67 : decode cX0_hasName 67 = .ok (.goto (-30), 3) := by decide +kernel
theorem dX0_hasName_70 : decode cX0_hasName 70 = .ok (.aload_n 0, 1) := by decide +kernel
theorem dX0_hasName_71 : decode cX0_hasName 71 = .ok (.getfield 28, 3) := by decide +kernel
theorem dX0_hasName_74 : decode cX0_hasName 74 = .ok (.lload_n 1, 1) := by decide +kernel
theorem dX0_hasName_75 : decode cX0_hasName 75 = .ok (.invokevirtual 67, 3) := by decide +kernel
theorem dX0_hasName_78 : decode cX0_hasName 78 = .ok (.iconst (-1), 1) := by decide +kernel
theorem dX0_hasName_79 : decode cX0_hasName 79 = .ok (.if_icmp .eq 7, 3) := by decide +kernel
theorem dX0_hasName_82 : decode cX0_hasName 82 = .ok (.iconst 1, 1) := by decide +kernel
theorem dX0_hasName_83 : decode cX0_hasName 83 = .ok (.goto 4, 3) := by decide +kernel
theorem dX0_hasName_86 : decode cX0_hasName 86 = .ok (.iconst 0, 1) := by decide +kernel
theorem dX0_hasName_87 : decode cX0_hasName 87 = .ok (.ireturn, 1) := by decide +kernel
theorem dX0_toldFor_0 : decode cX0_toldFor 0 = .ok (.iconst 0, 1) := by decide +kernel
theorem dX0_toldFor_1 : decode cX0_toldFor 1 = .ok (.istore_n 2, 1) := by decide +kernel
theorem dX0_toldFor_2 : decode cX0_toldFor 2 = .ok (.iconst 1, 1) := by decide +kernel
theorem dX0_toldFor_3 : decode cX0_toldFor 3 = .ok (.istore_n 3, 1) := by decide +kernel
theorem dX0_toldFor_4 : decode cX0_toldFor 4 = .ok (.iload_n 1, 1) := by decide +kernel
theorem dX0_toldFor_5 : decode cX0_toldFor 5 = .ok (.istore 4, 2) := by decide +kernel
theorem dX0_toldFor_7 : decode cX0_toldFor 7 = .ok (.iload 4, 2) := by decide +kernel
theorem dX0_toldFor_9 : decode cX0_toldFor 9 = .ok (.ifCond .le 48, 3) := by decide +kernel
theorem dX0_toldFor_12 : decode cX0_toldFor 12 = .ok (.iload 4, 2) := by decide +kernel
theorem dX0_toldFor_14 : decode cX0_toldFor 14 = .ok (.bipush 9, 2) := by decide +kernel
theorem dX0_toldFor_16 : decode cX0_toldFor 16 = .ok (.irem, 1) := by decide +kernel
theorem dX0_toldFor_17 : decode cX0_toldFor 17 = .ok (.istore 5, 2) := by decide +kernel
theorem dX0_toldFor_19 : decode cX0_toldFor 19 = .ok (.iload_n 2, 1) := by decide +kernel
theorem dX0_toldFor_20 : decode cX0_toldFor 20 = .ok (.iload 5, 2) := by decide +kernel
theorem dX0_toldFor_22 : decode cX0_toldFor 22 = .ok (.aload_n 0, 1) := by decide +kernel
theorem dX0_toldFor_23 : decode cX0_toldFor 23 = .ok (.getfield 43, 3) := by decide +kernel
theorem dX0_toldFor_26 : decode cX0_toldFor 26 = .ok (.if_icmp .lt 10, 3) := by decide +kernel
theorem dX0_toldFor_29 : decode cX0_toldFor 29 = .ok (.iload 5, 2) := by decide +kernel
theorem dX0_toldFor_31 : decode cX0_toldFor 31 = .ok (.iconst 1, 1) := by decide +kernel
theorem dX0_toldFor_32 : decode cX0_toldFor 32 = .ok (.iadd, 1) := by decide +kernel
theorem dX0_toldFor_33 : decode cX0_toldFor 33 = .ok (.goto 5, 3) := by decide +kernel
theorem dX0_toldFor_36 : decode cX0_toldFor 36 = .ok (.iload 5, 2) := by decide +kernel
theorem dX0_toldFor_38 : decode cX0_toldFor 38 = .ok (.iload_n 3, 1) := by decide +kernel
theorem dX0_toldFor_39 : decode cX0_toldFor 39 = .ok (.imul, 1) := by decide +kernel
theorem dX0_toldFor_40 : decode cX0_toldFor 40 = .ok (.iadd, 1) := by decide +kernel
theorem dX0_toldFor_41 : decode cX0_toldFor 41 = .ok (.istore_n 2, 1) := by decide +kernel
theorem dX0_toldFor_42 : decode cX0_toldFor 42 = .ok (.iload_n 3, 1) := by decide +kernel
theorem dX0_toldFor_43 : decode cX0_toldFor 43 = .ok (.bipush 10, 2) := by decide +kernel
theorem dX0_toldFor_45 : decode cX0_toldFor 45 = .ok (.imul, 1) := by decide +kernel
theorem dX0_toldFor_46 : decode cX0_toldFor 46 = .ok (.istore_n 3, 1) := by decide +kernel
theorem dX0_toldFor_47 : decode cX0_toldFor 47 = .ok (.iload 4, 2) := by decide +kernel
theorem dX0_toldFor_49 : decode cX0_toldFor 49 = .ok (.bipush 9, 2) := by decide +kernel
theorem dX0_toldFor_51 : decode cX0_toldFor 51 = .ok (.idiv, 1) := by decide +kernel
theorem dX0_toldFor_52 : decode cX0_toldFor 52 = .ok (.istore 4, 2) := by decide +kernel
theorem dX0_toldFor_54 : decode cX0_toldFor 54 = .ok (.goto (-47), 3) := by decide +kernel
theorem dX0_toldFor_57 : decode cX0_toldFor 57 = .ok (.iload_n 2, 1) := by decide +kernel
theorem dX0_toldFor_58 : decode cX0_toldFor 58 = .ok (.ireturn, 1) := by decide +kernel
theorem dX0_thingsFor_0 : decode cX0_thingsFor 0 = .ok (.iconst 0, 1) := by decide +kernel
theorem dX0_thingsFor_1 : decode cX0_thingsFor 1 = .ok (.istore_n 2, 1) := by decide +kernel
theorem dX0_thingsFor_2 : decode cX0_thingsFor 2 = .ok (.iconst 1, 1) := by decide +kernel
theorem dX0_thingsFor_3 : decode cX0_thingsFor 3 = .ok (.istore_n 3, 1) := by decide +kernel
theorem dX0_thingsFor_4 : decode cX0_thingsFor 4 = .ok (.iload_n 1, 1) := by decide +kernel
theorem dX0_thingsFor_5 : decode cX0_thingsFor 5 = .ok (.istore 4, 2) := by decide +kernel
theorem dX0_thingsFor_7 : decode cX0_thingsFor 7 = .ok (.iload 4, 2) := by decide +kernel
theorem dX0_thingsFor_9 : decode cX0_thingsFor 9 = .ok (.ifCond .le 60, 3) := by decide +kernel
theorem dX0_thingsFor_12 : decode cX0_thingsFor 12 = .ok (.iload 4, 2) := by decide +kernel
theorem dX0_thingsFor_14 : decode cX0_thingsFor 14 = .ok (.bipush 10, 2) := by decide +kernel
theorem dX0_thingsFor_16 : decode cX0_thingsFor 16 = .ok (.irem, 1) := by decide +kernel
theorem dX0_thingsFor_17 : decode cX0_thingsFor 17 = .ok (.istore 5, 2) := by decide +kernel
theorem dX0_thingsFor_19 : decode cX0_thingsFor 19 = .ok (.iload 5, 2) := by decide +kernel
theorem dX0_thingsFor_21 : decode cX0_thingsFor 21 = .ok (.aload_n 0, 1) := by decide +kernel
theorem dX0_thingsFor_22 : decode cX0_thingsFor 22 = .ok (.getfield 43, 3) := by decide +kernel
theorem dX0_thingsFor_25 : decode cX0_thingsFor 25 = .ok (.if_icmp .ne 6, 3) := by decide +kernel
theorem dX0_thingsFor_28 : decode cX0_thingsFor 28 = .ok (.bipush (-2), 2) := by decide +kernel
theorem dX0_thingsFor_30 : decode cX0_thingsFor 30 = .ok (.ireturn, 1) := by decide +kernel
theorem dX0_thingsFor_31 : decode cX0_thingsFor 31 = .ok (.iload_n 2, 1) := by decide +kernel
theorem dX0_thingsFor_32 : decode cX0_thingsFor 32 = .ok (.iload 5, 2) := by decide +kernel
theorem dX0_thingsFor_34 : decode cX0_thingsFor 34 = .ok (.aload_n 0, 1) := by decide +kernel
theorem dX0_thingsFor_35 : decode cX0_thingsFor 35 = .ok (.getfield 43, 3) := by decide +kernel
theorem dX0_thingsFor_38 : decode cX0_thingsFor 38 = .ok (.if_icmp .le 10, 3) := by decide +kernel
theorem dX0_thingsFor_41 : decode cX0_thingsFor 41 = .ok (.iload 5, 2) := by decide +kernel
theorem dX0_thingsFor_43 : decode cX0_thingsFor 43 = .ok (.iconst 1, 1) := by decide +kernel
theorem dX0_thingsFor_44 : decode cX0_thingsFor 44 = .ok (.isub, 1) := by decide +kernel
theorem dX0_thingsFor_45 : decode cX0_thingsFor 45 = .ok (.goto 5, 3) := by decide +kernel
theorem dX0_thingsFor_48 : decode cX0_thingsFor 48 = .ok (.iload 5, 2) := by decide +kernel
theorem dX0_thingsFor_50 : decode cX0_thingsFor 50 = .ok (.iload_n 3, 1) := by decide +kernel
theorem dX0_thingsFor_51 : decode cX0_thingsFor 51 = .ok (.imul, 1) := by decide +kernel
theorem dX0_thingsFor_52 : decode cX0_thingsFor 52 = .ok (.iadd, 1) := by decide +kernel
theorem dX0_thingsFor_53 : decode cX0_thingsFor 53 = .ok (.istore_n 2, 1) := by decide +kernel
theorem dX0_thingsFor_54 : decode cX0_thingsFor 54 = .ok (.iload_n 3, 1) := by decide +kernel
theorem dX0_thingsFor_55 : decode cX0_thingsFor 55 = .ok (.bipush 9, 2) := by decide +kernel
theorem dX0_thingsFor_57 : decode cX0_thingsFor 57 = .ok (.imul, 1) := by decide +kernel
theorem dX0_thingsFor_58 : decode cX0_thingsFor 58 = .ok (.istore_n 3, 1) := by decide +kernel
theorem dX0_thingsFor_59 : decode cX0_thingsFor 59 = .ok (.iload 4, 2) := by decide +kernel
theorem dX0_thingsFor_61 : decode cX0_thingsFor 61 = .ok (.bipush 10, 2) := by decide +kernel
theorem dX0_thingsFor_63 : decode cX0_thingsFor 63 = .ok (.idiv, 1) := by decide +kernel
theorem dX0_thingsFor_64 : decode cX0_thingsFor 64 = .ok (.istore 4, 2) := by decide +kernel
theorem dX0_thingsFor_66 : decode cX0_thingsFor 66 = .ok (.goto (-59), 3) := by decide +kernel
theorem dX0_thingsFor_69 : decode cX0_thingsFor 69 = .ok (.iload_n 2, 1) := by decide +kernel
theorem dX0_thingsFor_70 : decode cX0_thingsFor 70 = .ok (.ireturn, 1) := by decide +kernel
theorem dX0_reaches_0 : decode cX0_reaches 0 = .ok (.aload_n 0, 1) := by decide +kernel
theorem dX0_reaches_1 : decode cX0_reaches 1 = .ok (.getfield 21, 3) := by decide +kernel
theorem dX0_reaches_4 : decode cX0_reaches 4 = .ok (.getfield 71, 3) := by decide +kernel
theorem dX0_reaches_7 : decode cX0_reaches 7 = .ok (.iload_n 1, 1) := by decide +kernel
theorem dX0_reaches_8 : decode cX0_reaches 8 = .ok (.iaload, 1) := by decide +kernel
theorem dX0_reaches_9 : decode cX0_reaches 9 = .ok (.aload_n 0, 1) := by decide +kernel
theorem dX0_reaches_10 : decode cX0_reaches 10 = .ok (.getfield 12, 3) := by decide +kernel
theorem dX0_reaches_13 : decode cX0_reaches 13 = .ok (.getfield 75, 3) := by decide +kernel
theorem dX0_reaches_16 : decode cX0_reaches 16 = .ok (.iload_n 2, 1) := by decide +kernel
theorem dX0_reaches_17 : decode cX0_reaches 17 = .ok (.iaload, 1) := by decide +kernel
theorem dX0_reaches_18 : decode cX0_reaches 18 = .ok (.isub, 1) := by decide +kernel
theorem dX0_reaches_19 : decode cX0_reaches 19 = .ok (.invokestatic 76, 3) := by decide +kernel
theorem dX0_reaches_22 : decode cX0_reaches 22 = .ok (.aload_n 0, 1) := by decide +kernel
theorem dX0_reaches_23 : decode cX0_reaches 23 = .ok (.getfield 21, 3) := by decide +kernel
theorem dX0_reaches_26 : decode cX0_reaches 26 = .ok (.getfield 82, 3) := by decide +kernel
theorem dX0_reaches_29 : decode cX0_reaches 29 = .ok (.iload_n 1, 1) := by decide +kernel
theorem dX0_reaches_30 : decode cX0_reaches 30 = .ok (.iaload, 1) := by decide +kernel
theorem dX0_reaches_31 : decode cX0_reaches 31 = .ok (.if_icmp .gt 7, 3) := by decide +kernel
theorem dX0_reaches_34 : decode cX0_reaches 34 = .ok (.iconst 1, 1) := by decide +kernel
theorem dX0_reaches_35 : decode cX0_reaches 35 = .ok (.goto 4, 3) := by decide +kernel
theorem dX0_reaches_38 : decode cX0_reaches 38 = .ok (.iconst 0, 1) := by decide +kernel
theorem dX0_reaches_39 : decode cX0_reaches 39 = .ok (.ireturn, 1) := by decide +kernel
theorem dX0_tendersOf_0 : decode cX0_tendersOf 0 = .ok (.iconst 0, 1) := by decide +kernel
theorem dX0_tendersOf_1 : decode cX0_tendersOf 1 = .ok (.istore_n 2, 1) := by decide +kernel
theorem dX0_tendersOf_2 : decode cX0_tendersOf 2 = .ok (.iconst 0, 1) := by decide +kernel
theorem dX0_tendersOf_3 : decode cX0_tendersOf 3 = .ok (.istore_n 3, 1) := by decide +kernel
theorem dX0_tendersOf_4 : decode cX0_tendersOf 4 = .ok (.iload_n 3, 1) := by decide +kernel
theorem dX0_tendersOf_5 : decode cX0_tendersOf 5 = .ok (.aload_n 0, 1) := by decide +kernel
theorem dX0_tendersOf_6 : decode cX0_tendersOf 6 = .ok (.getfield 21, 3) := by decide +kernel
theorem dX0_tendersOf_9 : decode cX0_tendersOf 9 = .ok (.getfield 53, 3) := by decide +kernel
theorem dX0_tendersOf_12 : decode cX0_tendersOf 12 = .ok (.if_icmp .ge 25, 3) := by decide +kernel
theorem dX0_tendersOf_15 : decode cX0_tendersOf 15 = .ok (.aload_n 0, 1) := by decide +kernel
theorem dX0_tendersOf_16 : decode cX0_tendersOf 16 = .ok (.iload_n 3, 1) := by decide +kernel
theorem dX0_tendersOf_17 : decode cX0_tendersOf 17 = .ok (.iload_n 1, 1) := by decide +kernel
theorem dX0_tendersOf_18 : decode cX0_tendersOf 18 = .ok (.invokevirtual 85, 3) := by decide +kernel
theorem dX0_tendersOf_21 : decode cX0_tendersOf 21 = .ok (.ifCond .eq 10, 3) := by decide +kernel
theorem dX0_tendersOf_24 : decode cX0_tendersOf 24 = .ok (.iload_n 2, 1) := by decide +kernel
theorem dX0_tendersOf_25 : decode cX0_tendersOf 25 = .ok (.iload_n 3, 1) := by decide +kernel
theorem dX0_tendersOf_26 : decode cX0_tendersOf 26 = .ok (.invokestatic 89, 3) := by decide +kernel
theorem dX0_tendersOf_29 : decode cX0_tendersOf 29 = .ok (.ior, 1) := by decide +kernel
theorem dX0_tendersOf_30 : decode cX0_tendersOf 30 = .ok (.istore_n 2, 1) := by decide +kernel
theorem dX0_tendersOf_31 : decode cX0_tendersOf 31 = .ok (.iinc 3 1, 3) := by decide +kernel
theorem dX0_tendersOf_34 : decode cX0_tendersOf 34 = .ok (.goto (-30), 3) := by decide +kernel
theorem dX0_tendersOf_37 : decode cX0_tendersOf 37 = .ok (.iload_n 2, 1) := by decide +kernel
theorem dX0_tendersOf_38 : decode cX0_tendersOf 38 = .ok (.ireturn, 1) := by decide +kernel
theorem dX0_dayHarm_0 : decode cX0_dayHarm 0 = .ok (.iload_n 2, 1) := by decide +kernel
theorem dX0_dayHarm_1 : decode cX0_dayHarm 1 = .ok (.iload_n 1, 1) := by decide +kernel
theorem dX0_dayHarm_2 : decode cX0_dayHarm 2 = .ok (.invokestatic 89, 3) := by decide +kernel
theorem dX0_dayHarm_5 : decode cX0_dayHarm 5 = .ok (.iand, 1) := by decide +kernel
theorem dX0_dayHarm_6 : decode cX0_dayHarm 6 = .ok (.ifCond .eq 5, 3) := by decide +kernel
theorem dX0_dayHarm_9 : decode cX0_dayHarm 9 = .ok (.iconst 0, 1) := by decide +kernel
theorem dX0_dayHarm_10 : decode cX0_dayHarm 10 = .ok (.ireturn, 1) := by decide +kernel
theorem dX0_dayHarm_11 : decode cX0_dayHarm 11 = .ok (.aload_n 0, 1) := by decide +kernel
theorem dX0_dayHarm_12 : decode cX0_dayHarm 12 = .ok (.getfield 12, 3) := by decide +kernel
theorem dX0_dayHarm_15 : decode cX0_dayHarm 15 = .ok (.getfield 92, 3) := by decide +kernel
theorem dX0_dayHarm_18 : decode cX0_dayHarm 18 = .ok (.iload_n 1, 1) := by decide +kernel
theorem dX0_dayHarm_19 : decode cX0_dayHarm 19 = .ok (.iaload, 1) := by decide +kernel
theorem dX0_dayHarm_20 : decode cX0_dayHarm 20 = .ok (.iconst 3, 1) := by decide +kernel
theorem dX0_dayHarm_21 : decode cX0_dayHarm 21 = .ok (.if_icmp .ne 16, 3) := by decide +kernel
theorem dX0_dayHarm_24 : decode cX0_dayHarm 24 = .ok (.aload_n 0, 1) := by decide +kernel
theorem dX0_dayHarm_25 : decode cX0_dayHarm 25 = .ok (.getfield 12, 3) := by decide +kernel
theorem dX0_dayHarm_28 : decode cX0_dayHarm 28 = .ok (.iload_n 2, 1) := by decide +kernel
theorem dX0_dayHarm_29 : decode cX0_dayHarm 29 = .ok (.invokevirtual 95, 3) := by decide +kernel
theorem dX0_dayHarm_32 : decode cX0_dayHarm 32 = .ok (.ifCond .eq 5, 3) := by decide +kernel
theorem dX0_dayHarm_35 : decode cX0_dayHarm 35 = .ok (.iconst 0, 1) := by decide +kernel
theorem dX0_dayHarm_36 : decode cX0_dayHarm 36 = .ok (.ireturn, 1) := by decide +kernel
theorem dX0_dayHarm_37 : decode cX0_dayHarm 37 = .ok (.aload_n 0, 1) := by decide +kernel
theorem dX0_dayHarm_38 : decode cX0_dayHarm 38 = .ok (.getfield 12, 3) := by decide +kernel
theorem dX0_dayHarm_41 : decode cX0_dayHarm 41 = .ok (.iload_n 1, 1) := by decide +kernel
theorem dX0_dayHarm_42 : decode cX0_dayHarm 42 = .ok (.invokevirtual 99, 3) := by decide +kernel
theorem dX0_dayHarm_45 : decode cX0_dayHarm 45 = .ok (.ireturn, 1) := by decide +kernel
theorem dX0_dayHarmOfAll_0 : decode cX0_dayHarmOfAll 0 = .ok (.iconst 0, 1) := by decide +kernel
theorem dX0_dayHarmOfAll_1 : decode cX0_dayHarmOfAll 1 = .ok (.istore_n 2, 1) := by decide +kernel
theorem dX0_dayHarmOfAll_2 : decode cX0_dayHarmOfAll 2 = .ok (.iconst 0, 1) := by decide +kernel
theorem dX0_dayHarmOfAll_3 : decode cX0_dayHarmOfAll 3 = .ok (.istore_n 3, 1) := by decide +kernel
theorem dX0_dayHarmOfAll_4 : decode cX0_dayHarmOfAll 4 = .ok (.iload_n 3, 1) := by decide +kernel
theorem dX0_dayHarmOfAll_5 : decode cX0_dayHarmOfAll 5 = .ok (.aload_n 0, 1) := by decide +kernel
theorem dX0_dayHarmOfAll_6 : decode cX0_dayHarmOfAll 6 = .ok (.getfield 12, 3) := by decide +kernel
theorem dX0_dayHarmOfAll_9 : decode cX0_dayHarmOfAll 9 = .ok (.getfield 50, 3) := by decide +kernel
theorem dX0_dayHarmOfAll_12 : decode cX0_dayHarmOfAll 12 = .ok (.if_icmp .ge 18, 3) := by decide +kernel
theorem dX0_dayHarmOfAll_15 : decode cX0_dayHarmOfAll 15 = .ok (.iload_n 2, 1) := by decide +kernel
theorem dX0_dayHarmOfAll_16 : decode cX0_dayHarmOfAll 16 = .ok (.aload_n 0, 1) := by decide +kernel
theorem dX0_dayHarmOfAll_17 : decode cX0_dayHarmOfAll 17 = .ok (.iload_n 3, 1) := by decide +kernel
theorem dX0_dayHarmOfAll_18 : decode cX0_dayHarmOfAll 18 = .ok (.iload_n 1, 1) := by decide +kernel
theorem dX0_dayHarmOfAll_19 : decode cX0_dayHarmOfAll 19 = .ok (.invokevirtual 102, 3) := by decide +kernel
theorem dX0_dayHarmOfAll_22 : decode cX0_dayHarmOfAll 22 = .ok (.iadd, 1) := by decide +kernel
theorem dX0_dayHarmOfAll_23 : decode cX0_dayHarmOfAll 23 = .ok (.istore_n 2, 1) := by decide +kernel
theorem dX0_dayHarmOfAll_24 : decode cX0_dayHarmOfAll 24 = .ok (.iinc 3 1, 3) := by decide +kernel
theorem dX0_dayHarmOfAll_27 : decode cX0_dayHarmOfAll 27 = .ok (.goto (-23), 3) := by decide +kernel
theorem dX0_dayHarmOfAll_30 : decode cX0_dayHarmOfAll 30 = .ok (.iload_n 2, 1) := by decide +kernel
theorem dX0_dayHarmOfAll_31 : decode cX0_dayHarmOfAll 31 = .ok (.ireturn, 1) := by decide +kernel
theorem dX1_init_0 : decode cX1_init 0 = .ok (.aload_n 0, 1) := by decide +kernel
theorem dX1_init_1 : decode cX1_init 1 = .ok (.invokespecial 3, 3) := by decide +kernel
theorem dX1_init_4 : decode cX1_init 4 = .ok (.aload_n 0, 1) := by decide +kernel
theorem dX1_init_5 : decode cX1_init 5 = .ok (.bipush 64, 2) := by decide +kernel
theorem dX1_init_7 : decode cX1_init 7 = .ok (.newarray .boolean, 2) := by decide +kernel
theorem dX1_init_9 : decode cX1_init 9 = .ok (.putfield 9, 3) := by decide +kernel
theorem dX1_init_12 : decode cX1_init 12 = .ok (.aload_n 0, 1) := by decide +kernel
theorem dX1_init_13 : decode cX1_init 13 = .ok (.bipush 7, 2) := by decide +kernel
theorem dX1_init_15 : decode cX1_init 15 = .ok (.newarray .int, 2) := by decide +kernel
theorem dX1_init_17 : decode cX1_init 17 = .ok (.putfield 15, 3) := by decide +kernel
theorem dX1_init_20 : decode cX1_init 20 = .ok (.return_, 1) := by decide +kernel
theorem dX1_learn_0 : decode cX1_learn 0 = .ok (.aload_n 0, 1) := by decide +kernel
theorem dX1_learn_1 : decode cX1_learn 1 = .ok (.getfield 19, 3) := by decide +kernel
theorem dX1_learn_4 : decode cX1_learn 4 = .ok (.ifCond .eq 4, 3) := by decide +kernel
theorem dX1_learn_7 : decode cX1_learn 7 = .ok (.return_, 1) := by decide +kernel
theorem dX1_learn_8 : decode cX1_learn 8 = .ok (.aload_n 0, 1) := by decide +kernel
theorem dX1_learn_9 : decode cX1_learn 9 = .ok (.iconst 0, 1) := by decide +kernel
theorem dX1_learn_10 : decode cX1_learn 10 = .ok (.putfield 23, 3) := by decide +kernel
theorem dX1_learn_13 : decode cX1_learn 13 = .ok (.aload_n 0, 1) := by decide +kernel
theorem dX1_learn_14 : decode cX1_learn 14 = .ok (.iconst 0, 1) := by decide +kernel
theorem dX1_learn_15 : decode cX1_learn 15 = .ok (.putfield 27, 3) := by decide +kernel
theorem dX1_learn_18 : decode cX1_learn 18 = .ok (.aload_n 0, 1) := by decide +kernel
theorem dX1_learn_19 : decode cX1_learn 19 = .ok (.aload_n 1, 1) := by decide +kernel
theorem dX1_learn_20 : decode cX1_learn 20 = .ok (.getfield 30, 3) := by decide +kernel
theorem dX1_learn_23 : decode cX1_learn 23 = .ok (.invokestatic 33, 3) := by decide +kernel
theorem dX1_learn_26 : decode cX1_learn 26 = .ok (.putfield 37, 3) := by decide +kernel
theorem dX1_learn_29 : decode cX1_learn 29 = .ok (.iconst 0, 1) := by decide +kernel
theorem dX1_learn_30 : decode cX1_learn 30 = .ok (.istore_n 2, 1) := by decide +kernel
theorem dX1_learn_31 : decode cX1_learn 31 = .ok (.iload_n 2, 1) := by decide +kernel
theorem dX1_learn_32 : decode cX1_learn 32 = .ok (.aload_n 1, 1) := by decide +kernel
theorem dX1_learn_33 : decode cX1_learn 33 = .ok (.getfield 30, 3) := by decide +kernel
theorem dX1_learn_36 : decode cX1_learn 36 = .ok (.invokestatic 33, 3) := by decide +kernel
theorem dX1_learn_39 : decode cX1_learn 39 = .ok (.if_icmp .gt 69, 3) := by decide +kernel
theorem dX1_learn_42 : decode cX1_learn 42 = .ok (.aload_n 0, 1) := by decide +kernel
theorem dX1_learn_43 : decode cX1_learn 43 = .ok (.getfield 9, 3) := by decide +kernel
theorem dX1_learn_46 : decode cX1_learn 46 = .ok (.iload_n 2, 1) := by decide +kernel
theorem dX1_learn_47 : decode cX1_learn 47 = .ok (.aload_n 1, 1) := by decide +kernel
theorem dX1_learn_48 : decode cX1_learn 48 = .ok (.iload_n 2, 1) := by decide +kernel
theorem dX1_learn_49 : decode cX1_learn 49 = .ok (.invokevirtual 40, 3) := by decide +kernel
theorem dX1_learn_52 : decode cX1_learn 52 = .ok (.bipush (-2), 2) := by decide +kernel
theorem dX1_learn_54 : decode cX1_learn 54 = .ok (.if_icmp .ne 7, 3) := by decide +kernel
theorem dX1_learn_57 : decode cX1_learn 57 = .ok (.iconst 1, 1) := by decide +kernel
theorem dX1_learn_58 : decode cX1_learn 58 = .ok (.goto 4, 3) := by decide +kernel
theorem dX1_learn_61 : decode cX1_learn 61 = .ok (.iconst 0, 1) := by decide +kernel
theorem dX1_learn_62 : decode cX1_learn 62 = .ok (.bastore, 1) := by decide +kernel
theorem dX1_learn_63 : decode cX1_learn 63 = .ok (.aload_n 0, 1) := by decide +kernel
theorem dX1_learn_64 : decode cX1_learn 64 = .ok (.getfield 9, 3) := by decide +kernel
theorem dX1_learn_67 : decode cX1_learn 67 = .ok (.iload_n 2, 1) := by decide +kernel
theorem dX1_learn_68 : decode cX1_learn 68 = .ok (.baload, 1) := by decide +kernel
theorem dX1_learn_69 : decode cX1_learn 69 = .ok (.ifCond .eq 33, 3) := by decide +kernel
theorem dX1_learn_72 : decode cX1_learn 72 = .ok (.aload_n 0, 1) := by decide +kernel
theorem dX1_learn_73 : decode cX1_learn 73 = .ok (.dup, 1) := by decide +kernel
theorem dX1_learn_74 : decode cX1_learn 74 = .ok (.getfield 23, 3) := by decide +kernel
theorem dX1_learn_77 : decode cX1_learn 77 = .ok (.iconst 1, 1) := by decide +kernel
theorem dX1_learn_78 : decode cX1_learn 78 = .ok (.iadd, 1) := by decide +kernel
theorem dX1_learn_79 : decode cX1_learn 79 = .ok (.putfield 23, 3) := by decide +kernel
theorem dX1_learn_82 : decode cX1_learn 82 = .ok (.aload_n 0, 1) := by decide +kernel
theorem dX1_learn_83 : decode cX1_learn 83 = .ok (.dup, 1) := by decide +kernel
theorem dX1_learn_84 : decode cX1_learn 84 = .ok (.getfield 27, 3) := by decide +kernel
theorem dX1_learn_87 : decode cX1_learn 87 = .ok (.iload_n 2, 1) := by decide +kernel
theorem dX1_learn_88 : decode cX1_learn 88 = .ok (.ior, 1) := by decide +kernel
theorem dX1_learn_89 : decode cX1_learn 89 = .ok (.putfield 27, 3) := by decide +kernel
theorem dX1_learn_92 : decode cX1_learn 92 = .ok (.aload_n 0, 1) := by decide +kernel
theorem dX1_learn_93 : decode cX1_learn 93 = .ok (.dup, 1) := by decide +kernel
theorem dX1_learn_94 : decode cX1_learn 94 = .ok (.getfield 37, 3) := by decide +kernel
theorem dX1_learn_97 : decode cX1_learn 97 = .ok (.iload_n 2, 1) := by decide +kernel
theorem dX1_learn_98 : decode cX1_learn 98 = .ok (.iand, 1) := by decide +kernel
theorem dX1_learn_99 : decode cX1_learn 99 = .ok (.putfield 37, 3) := by decide +kernel
theorem dX1_learn_102 : decode cX1_learn 102 = .ok (.iinc 2 1, 3) := by decide +kernel
theorem dX1_learn_105 : decode cX1_learn 105 = .ok (.goto (-74), 3) := by decide +kernel
theorem dX1_learn_108 : decode cX1_learn 108 = .ok (.aload_n 0, 1) := by decide +kernel
theorem dX1_learn_109 : decode cX1_learn 109 = .ok (.getfield 23, 3) := by decide +kernel
theorem dX1_learn_112 : decode cX1_learn 112 = .ok (.ifCond .ne 8, 3) := by decide +kernel
theorem dX1_learn_115 : decode cX1_learn 115 = .ok (.aload_n 0, 1) := by decide +kernel
theorem dX1_learn_116 : decode cX1_learn 116 = .ok (.iconst 0, 1) := by decide +kernel
theorem dX1_learn_117 : decode cX1_learn 117 = .ok (.putfield 37, 3) := by decide +kernel
theorem dX1_learn_120 : decode cX1_learn 120 = .ok (.aload_n 0, 1) := by decide +kernel
theorem dX1_learn_121 : decode cX1_learn 121 = .ok (.aload_n 1, 1) := by decide +kernel
theorem dX1_learn_122 : decode cX1_learn 122 = .ok (.invokevirtual 43, 3) := by decide +kernel
theorem dX1_learn_125 : decode cX1_learn 125 = .ok (.aload_n 0, 1) := by decide +kernel
theorem dX1_learn_126 : decode cX1_learn 126 = .ok (.iconst 1, 1) := by decide +kernel
theorem dX1_learn_127 : decode cX1_learn 127 = .ok (.putfield 19, 3) := by decide +kernel
theorem dX1_learn_130 : decode cX1_learn 130 = .ok (.return_, 1) := by decide +kernel
theorem dX1_chooseSign_0 : decode cX1_chooseSign 0 = .ok (.aload_n 0, 1) := by decide +kernel
theorem dX1_chooseSign_1 : decode cX1_chooseSign 1 = .ok (.bipush (-2), 2) := by decide +kernel
theorem dX1_chooseSign_3 : decode cX1_chooseSign 3 = .ok (.putfield 47, 3) := by decide +kernel
theorem dX1_chooseSign_6 : decode cX1_chooseSign 6 = .ok (.aload_n 0, 1) := by decide +kernel
theorem dX1_chooseSign_7 : decode cX1_chooseSign 7 = .ok (.bipush (-2), 2) := by decide +kernel
theorem dX1_chooseSign_9 : decode cX1_chooseSign 9 = .ok (.putfield 50, 3) := by decide +kernel
theorem dX1_chooseSign_12 : decode cX1_chooseSign 12 = .ok (.aload_n 0, 1) := by decide +kernel
theorem dX1_chooseSign_13 : decode cX1_chooseSign 13 = .ok (.getfield 23, 3) := by decide +kernel
theorem dX1_chooseSign_16 : decode cX1_chooseSign 16 = .ok (.ifCond .ne 4, 3) := by decide +kernel
theorem dX1_chooseSign_19 : decode cX1_chooseSign 19 = .ok (.return_, 1) := by decide +kernel
theorem dX1_chooseSign_20 : decode cX1_chooseSign 20 = .ok (.iconst 0, 1) := by decide +kernel
theorem dX1_chooseSign_21 : decode cX1_chooseSign 21 = .ok (.istore_n 2, 1) := by decide +kernel
theorem dX1_chooseSign_22 : decode cX1_chooseSign 22 = .ok (.iload_n 2, 1) := by decide +kernel
theorem dX1_chooseSign_23 : decode cX1_chooseSign 23 = .ok (.aload_n 1, 1) := by decide +kernel
theorem dX1_chooseSign_24 : decode cX1_chooseSign 24 = .ok (.getfield 30, 3) := by decide +kernel
theorem dX1_chooseSign_27 : decode cX1_chooseSign 27 = .ok (.if_icmp .ge 69, 3) := by decide +kernel
theorem dX1_chooseSign_30 : decode cX1_chooseSign 30 = .ok (.aload_n 1, 1) := by decide +kernel
theorem dX1_chooseSign_31 : decode cX1_chooseSign 31 = .ok (.iload_n 2, 1) := by decide +kernel
theorem dX1_chooseSign_32 : decode cX1_chooseSign 32 = .ok (.invokevirtual 53, 3) := by decide +kernel
theorem dX1_chooseSign_35 : decode cX1_chooseSign 35 = .ok (.ifCond .eq 55, 3) := by decide +kernel
theorem dX1_chooseSign_38 : decode cX1_chooseSign 38 = .ok (.aload_n 1, 1) := by decide +kernel
theorem dX1_chooseSign_39 : decode cX1_chooseSign 39 = .ok (.aload_n 1, 1) := by decide +kernel
theorem dX1_chooseSign_40 : decode cX1_chooseSign 40 = .ok (.getfield 57, 3) := by decide +kernel
theorem dX1_chooseSign_43 : decode cX1_chooseSign 43 = .ok (.iload_n 2, 1) := by decide +kernel
theorem dX1_chooseSign_44 : decode cX1_chooseSign 44 = .ok (.laload, 1) := by decide +kernel
theorem dX1_chooseSign_45 : decode cX1_chooseSign 45 = .ok (.invokevirtual 61, 3) := by decide +kernel
theorem dX1_chooseSign_48 : decode cX1_chooseSign 48 = .ok (.ifCond .ne 42, 3) := by decide +kernel
theorem dX1_chooseSign_51 : decode cX1_chooseSign 51 = .ok (.aload_n 0, 1) := by decide +kernel
theorem dX1_chooseSign_52 : decode cX1_chooseSign 52 = .ok (.aload_n 1, 1) := by decide +kernel
theorem dX1_chooseSign_53 : decode cX1_chooseSign 53 = .ok (.aload_n 1, 1) := by decide +kernel
theorem dX1_chooseSign_54 : decode cX1_chooseSign 54 = .ok (.getfield 57, 3) := by decide +kernel
theorem dX1_chooseSign_57 : decode cX1_chooseSign 57 = .ok (.iload_n 2, 1) := by decide +kernel
theorem dX1_chooseSign_58 : decode cX1_chooseSign 58 = .ok (.laload, 1) := by decide +kernel
theorem dX1_chooseSign_59 : decode cX1_chooseSign 59 = .ok (.invokevirtual 65, 3) := by decide +kernel
theorem dX1_chooseSign_62 : decode cX1_chooseSign 62 = .ok (.istore_n 3, 1) := by decide +kernel
theorem dX1_chooseSign_63 : decode cX1_chooseSign 63 = .ok (.aload_n 0, 1) := by decide +kernel
theorem dX1_chooseSign_64 : decode cX1_chooseSign 64 = .ok (.getfield 47, 3) := by decide +kernel
theorem dX1_chooseSign_67 : decode cX1_chooseSign 67 = .ok (.bipush (-2), 2) := by decide +kernel
theorem dX1_chooseSign_69 : decode cX1_chooseSign 69 = .ok (.if_icmp .eq 11, 3) := by decide +kernel
theorem dX1_chooseSign_72 : decode cX1_chooseSign 72 = .ok (.iload_n 3, 1) := by decide +kernel
theorem dX1_chooseSign_73 : decode cX1_chooseSign 73 = .ok (.aload_n 0, 1) := by decide +kernel
theorem dX1_chooseSign_74 : decode cX1_chooseSign 74 = .ok (.getfield 50, 3) := by decide +kernel
theorem dX1_chooseSign_77 : decode cX1_chooseSign 77 = .ok (.if_icmp .ge 13, 3) := by decide +kernel
theorem dX1_chooseSign_80 : decode cX1_chooseSign 80 = .ok (.aload_n 0, 1) := by decide +kernel
theorem dX1_chooseSign_81 : decode cX1_chooseSign 81 = .ok (.iload_n 2, 1) := by decide +kernel
theorem dX1_chooseSign_82 : decode cX1_chooseSign 82 = .ok (.putfield 47, 3) := by decide +kernel
theorem dX1_chooseSign_85 : decode cX1_chooseSign 85 = .ok (.aload_n 0, 1) := by decide +kernel
theorem dX1_chooseSign_86 : decode cX1_chooseSign 86 = .ok (.iload_n 3, 1) := by decide +kernel
theorem dX1_chooseSign_87 : decode cX1_chooseSign 87 = .ok (.putfield 50, 3) := by decide +kernel
theorem dX1_chooseSign_90 : decode cX1_chooseSign 90 = .ok (.iinc 2 1, 3) := by decide +kernel
theorem dX1_chooseSign_93 : decode cX1_chooseSign 93 = .ok (.goto (-71), 3) := by decide +kernel
theorem dX1_chooseSign_96 : decode cX1_chooseSign 96 = .ok (.return_, 1) := by decide +kernel
theorem dX1_mostLeft_0 : decode cX1_mostLeft 0 = .ok (.iconst 0, 1) := by decide +kernel
theorem dX1_mostLeft_1 : decode cX1_mostLeft 1 = .ok (.istore 4, 2) := by decide +kernel
theorem dX1_mostLeft_3 : decode cX1_mostLeft 3 = .ok (.iload 4, 2) := by decide +kernel
theorem dX1_mostLeft_5 : decode cX1_mostLeft 5 = .ok (.bipush 6, 2) := by decide +kernel
theorem dX1_mostLeft_7 : decode cX1_mostLeft 7 = .ok (.if_icmp .gt 17, 3) := by decide +kernel
theorem dX1_mostLeft_10 : decode cX1_mostLeft 10 = .ok (.aload_n 0, 1) := by decide +kernel
theorem dX1_mostLeft_11 : decode cX1_mostLeft 11 = .ok (.getfield 15, 3) := by decide +kernel
theorem dX1_mostLeft_14 : decode cX1_mostLeft 14 = .ok (.iload 4, 2) := by decide +kernel
theorem dX1_mostLeft_16 : decode cX1_mostLeft 16 = .ok (.iconst 0, 1) := by decide +kernel
theorem dX1_mostLeft_17 : decode cX1_mostLeft 17 = .ok (.iastore, 1) := by decide +kernel
theorem dX1_mostLeft_18 : decode cX1_mostLeft 18 = .ok (.iinc 4 1, 3) := by decide +kernel
theorem dX1_mostLeft_21 : decode cX1_mostLeft 21 = .ok (.goto (-18), 3) := by decide +kernel
theorem dX1_mostLeft_24 : decode cX1_mostLeft 24 = .ok (.iconst 0, 1) := by decide +kernel
theorem dX1_mostLeft_25 : decode cX1_mostLeft 25 = .ok (.istore 4, 2) := by decide +kernel
theorem dX1_mostLeft_27 : decode cX1_mostLeft 27 = .ok (.iload 4, 2) := by decide +kernel
theorem dX1_mostLeft_29 : decode cX1_mostLeft 29 = .ok (.aload_n 1, 1) := by decide +kernel
theorem dX1_mostLeft_30 : decode cX1_mostLeft 30 = .ok (.getfield 30, 3) := by decide +kernel
theorem dX1_mostLeft_33 : decode cX1_mostLeft 33 = .ok (.invokestatic 33, 3) := by decide +kernel
theorem dX1_mostLeft_36 : decode cX1_mostLeft 36 = .ok (.if_icmp .gt 55, 3) := by decide +kernel
theorem dX1_mostLeft_39 : decode cX1_mostLeft 39 = .ok (.aload_n 0, 1) := by decide +kernel
theorem dX1_mostLeft_40 : decode cX1_mostLeft 40 = .ok (.getfield 9, 3) := by decide +kernel
theorem dX1_mostLeft_43 : decode cX1_mostLeft 43 = .ok (.iload 4, 2) := by decide +kernel
theorem dX1_mostLeft_45 : decode cX1_mostLeft 45 = .ok (.baload, 1) := by decide +kernel
theorem dX1_mostLeft_46 : decode cX1_mostLeft 46 = .ok (.ifCond .eq 39, 3) := by decide +kernel
theorem dX1_mostLeft_49 : decode cX1_mostLeft 49 = .ok (.aload_n 1, 1) := by decide +kernel
theorem dX1_mostLeft_50 : decode cX1_mostLeft 50 = .ok (.lload_n 2, 1) := by decide +kernel
theorem dX1_mostLeft_51 : decode cX1_mostLeft 51 = .ok (.aload_n 1, 1) := by decide +kernel
theorem dX1_mostLeft_52 : decode cX1_mostLeft 52 = .ok (.lload_n 2, 1) := by decide +kernel
theorem dX1_mostLeft_53 : decode cX1_mostLeft 53 = .ok (.iload 4, 2) := by decide +kernel
theorem dX1_mostLeft_55 : decode cX1_mostLeft 55 = .ok (.invokevirtual 69, 3) := by decide +kernel
theorem dX1_mostLeft_58 : decode cX1_mostLeft 58 = .ok (.invokevirtual 73, 3) := by decide +kernel
theorem dX1_mostLeft_61 : decode cX1_mostLeft 61 = .ok (.istore 5, 2) := by decide +kernel
theorem dX1_mostLeft_63 : decode cX1_mostLeft 63 = .ok (.aload_n 0, 1) := by decide +kernel
theorem dX1_mostLeft_64 : decode cX1_mostLeft 64 = .ok (.getfield 15, 3) := by decide +kernel
theorem dX1_mostLeft_67 : decode cX1_mostLeft 67 = .ok (.iload 5, 2) := by decide +kernel
theorem dX1_mostLeft_69 : decode cX1_mostLeft 69 = .ok (.iconst (-1), 1) := by decide +kernel
theorem dX1_mostLeft_70 : decode cX1_mostLeft 70 = .ok (.if_icmp .ne 8, 3) := by decide +kernel
theorem dX1_mostLeft_73 : decode cX1_mostLeft 73 = .ok (.bipush 6, 2) := by decide +kernel
theorem dX1_mostLeft_75 : decode cX1_mostLeft 75 = .ok (.goto 5, 3) := by decide +kernel
theorem dX1_mostLeft_78 : decode cX1_mostLeft 78 = .ok (.iload 5, 2) := by decide +kernel
theorem dX1_mostLeft_80 : decode cX1_mostLeft 80 = .ok (.dup2, 1) := by decide +kernel
theorem dX1_mostLeft_81 : decode cX1_mostLeft 81 = .ok (.iaload, 1) := by decide +kernel
theorem dX1_mostLeft_82 : decode cX1_mostLeft 82 = .ok (.iconst 1, 1) := by decide +kernel
theorem dX1_mostLeft_83 : decode cX1_mostLeft 83 = .ok (.iadd, 1) := by decide +kernel
theorem dX1_mostLeft_84 : decode cX1_mostLeft 84 = .ok (.iastore, 1) := by decide +kernel
theorem dX1_mostLeft_85 : decode cX1_mostLeft 85 = .ok (.iinc 4 1, 3) := by decide +kernel
theorem dX1_mostLeft_88 : decode cX1_mostLeft 88 = .ok (.goto (-61), 3) := by decide +kernel
theorem dX1_mostLeft_91 : decode cX1_mostLeft 91 = .ok (.iconst 0, 1) := by decide +kernel
theorem dX1_mostLeft_92 : decode cX1_mostLeft 92 = .ok (.istore 4, 2) := by decide +kernel
theorem dX1_mostLeft_94 : decode cX1_mostLeft 94 = .ok (.iconst 0, 1) := by decide +kernel
theorem dX1_mostLeft_95 : decode cX1_mostLeft 95 = .ok (.istore 5, 2) := by decide +kernel
theorem dX1_mostLeft_97 : decode cX1_mostLeft 97 = .ok (.iload 5, 2) := by decide +kernel
theorem dX1_mostLeft_99 : decode cX1_mostLeft 99 = .ok (.bipush 6, 2) := by decide +kernel
theorem dX1_mostLeft_101 : decode cX1_mostLeft 101 = .ok (.if_icmp .gt 23, 3) := by decide +kernel
theorem dX1_mostLeft_104 : decode cX1_mostLeft 104 = .ok (.iload 4, 2) := by decide +kernel
theorem dX1_mostLeft_106 : decode cX1_mostLeft 106 = .ok (.aload_n 0, 1) := by decide +kernel
theorem dX1_mostLeft_107 : decode cX1_mostLeft 107 = .ok (.getfield 15, 3) := by decide +kernel
theorem dX1_mostLeft_110 : decode cX1_mostLeft 110 = .ok (.iload 5, 2) := by decide +kernel
theorem dX1_mostLeft_112 : decode cX1_mostLeft 112 = .ok (.iaload, 1) := by decide +kernel
theorem dX1_mostLeft_113 : decode cX1_mostLeft 113 = .ok (.invokestatic 77, 3) := by decide +kernel
theorem dX1_mostLeft_116 : decode cX1_mostLeft 116 = .ok (.istore 4, 2) := by decide +kernel
theorem dX1_mostLeft_118 : decode cX1_mostLeft 118 = .ok (.iinc 5 1, 3) := by decide +kernel
theorem dX1_mostLeft_121 : decode cX1_mostLeft 121 = .ok (.goto (-24), 3) := by decide +kernel
theorem dX1_mostLeft_124 : decode cX1_mostLeft 124 = .ok (.iload 4, 2) := by decide +kernel
theorem dX1_mostLeft_126 : decode cX1_mostLeft 126 = .ok (.ireturn, 1) := by decide +kernel
theorem dX2_init_0 : decode cX2_init 0 = .ok (.aload_n 0, 1) := by decide +kernel
theorem dX2_init_1 : decode cX2_init 1 = .ok (.invokespecial 3, 3) := by decide +kernel
theorem dX2_init_4 : decode cX2_init 4 = .ok (.aload_n 0, 1) := by decide +kernel
theorem dX2_init_5 : decode cX2_init 5 = .ok (.iconst 3, 1) := by decide +kernel
theorem dX2_init_6 : decode cX2_init 6 = .ok (.newarray .long, 2) := by decide +kernel
theorem dX2_init_8 : decode cX2_init 8 = .ok (.putfield 9, 3) := by decide +kernel
theorem dX2_init_11 : decode cX2_init 11 = .ok (.aload_n 0, 1) := by decide +kernel
theorem dX2_init_12 : decode cX2_init 12 = .ok (.iconst 3, 1) := by decide +kernel
theorem dX2_init_13 : decode cX2_init 13 = .ok (.newarray .int, 2) := by decide +kernel
theorem dX2_init_15 : decode cX2_init 15 = .ok (.putfield 15, 3) := by decide +kernel
theorem dX2_init_18 : decode cX2_init 18 = .ok (.aload_n 0, 1) := by decide +kernel
theorem dX2_init_19 : decode cX2_init 19 = .ok (.iconst 3, 1) := by decide +kernel
theorem dX2_init_20 : decode cX2_init 20 = .ok (.newarray .int, 2) := by decide +kernel
theorem dX2_init_22 : decode cX2_init 22 = .ok (.putfield 19, 3) := by decide +kernel
theorem dX2_init_25 : decode cX2_init 25 = .ok (.aload_n 0, 1) := by decide +kernel
theorem dX2_init_26 : decode cX2_init 26 = .ok (.iconst 3, 1) := by decide +kernel
theorem dX2_init_27 : decode cX2_init 27 = .ok (.newarray .int, 2) := by decide +kernel
theorem dX2_init_29 : decode cX2_init 29 = .ok (.putfield 22, 3) := by decide +kernel
theorem dX2_init_32 : decode cX2_init 32 = .ok (.return_, 1) := by decide +kernel
theorem dX3_init_0 : decode cX3_init 0 = .ok (.aload_n 0, 1) := by decide +kernel
theorem dX3_init_1 : decode cX3_init 1 = .ok (.invokespecial 3, 3) := by decide +kernel
theorem dX3_init_4 : decode cX3_init 4 = .ok (.aload_n 0, 1) := by decide +kernel
theorem dX3_init_5 : decode cX3_init 5 = .ok (.bipush 7, 2) := by decide +kernel
theorem dX3_init_7 : decode cX3_init 7 = .ok (.newarray .int, 2) := by decide +kernel
theorem dX3_init_9 : decode cX3_init 9 = .ok (.putfield 9, 3) := by decide +kernel
theorem dX3_init_12 : decode cX3_init 12 = .ok (.aload_n 0, 1) := by decide +kernel
theorem dX3_init_13 : decode cX3_init 13 = .ok (.bipush 7, 2) := by decide +kernel
theorem dX3_init_15 : decode cX3_init 15 = .ok (.newarray .int, 2) := by decide +kernel
theorem dX3_init_17 : decode cX3_init 17 = .ok (.putfield 15, 3) := by decide +kernel
theorem dX3_init_20 : decode cX3_init 20 = .ok (.return_, 1) := by decide +kernel
theorem dX3_reset_0 : decode cX3_reset 0 = .ok (.aload_n 0, 1) := by decide +kernel
theorem dX3_reset_1 : decode cX3_reset 1 = .ok (.iconst 0, 1) := by decide +kernel
theorem dX3_reset_2 : decode cX3_reset 2 = .ok (.putfield 18, 3) := by decide +kernel
theorem dX3_reset_5 : decode cX3_reset 5 = .ok (.aload_n 0, 1) := by decide +kernel
theorem dX3_reset_6 : decode cX3_reset 6 = .ok (.iconst 0, 1) := by decide +kernel
theorem dX3_reset_7 : decode cX3_reset 7 = .ok (.putfield 22, 3) := by decide +kernel
theorem dX3_reset_10 : decode cX3_reset 10 = .ok (.aload_n 0, 1) := by decide +kernel
theorem dX3_reset_11 : decode cX3_reset 11 = .ok (.iconst 0, 1) := by decide +kernel
theorem dX3_reset_12 : decode cX3_reset 12 = .ok (.putfield 25, 3) := by decide +kernel
theorem dX3_reset_15 : decode cX3_reset 15 = .ok (.aload_n 0, 1) := by decide +kernel
theorem dX3_reset_16 : decode cX3_reset 16 = .ok (.iconst 0, 1) := by decide +kernel
theorem dX3_reset_17 : decode cX3_reset 17 = .ok (.putfield 28, 3) := by decide +kernel
theorem dX3_reset_20 : decode cX3_reset 20 = .ok (.iconst 0, 1) := by decide +kernel
theorem dX3_reset_21 : decode cX3_reset 21 = .ok (.istore_n 1, 1) := by decide +kernel
theorem dX3_reset_22 : decode cX3_reset 22 = .ok (.iload_n 1, 1) := by decide +kernel
theorem dX3_reset_23 : decode cX3_reset 23 = .ok (.bipush 7, 2) := by decide +kernel
theorem dX3_reset_25 : decode cX3_reset 25 = .ok (.if_icmp .ge 16, 3) := by decide +kernel
theorem dX3_reset_28 : decode cX3_reset 28 = .ok (.aload_n 0, 1) := by decide +kernel
theorem dX3_reset_29 : decode cX3_reset 29 = .ok (.getfield 9, 3) := by decide +kernel
theorem dX3_reset_32 : decode cX3_reset 32 = .ok (.iload_n 1, 1) := by decide +kernel
theorem dX3_reset_33 : decode cX3_reset 33 = .ok (.iconst 0, 1) := by decide +kernel
theorem dX3_reset_34 : decode cX3_reset 34 = .ok (.iastore, 1) := by decide +kernel
theorem dX3_reset_35 : decode cX3_reset 35 = .ok (.iinc 1 1, 3) := by decide +kernel
theorem dX3_reset_38 : decode cX3_reset 38 = .ok (.goto (-16), 3) := by decide +kernel
theorem dX3_reset_41 : decode cX3_reset 41 = .ok (.aload_n 0, 1) := by decide +kernel
theorem dX3_reset_42 : decode cX3_reset 42 = .ok (.invokevirtual 32, 3) := by decide +kernel
theorem dX3_reset_45 : decode cX3_reset 45 = .ok (.return_, 1) := by decide +kernel
theorem dX3_tendNobody_0 : decode cX3_tendNobody 0 = .ok (.iconst 0, 1) := by decide +kernel
theorem dX3_tendNobody_1 : decode cX3_tendNobody 1 = .ok (.istore_n 1, 1) := by decide +kernel
theorem dX3_tendNobody_2 : decode cX3_tendNobody 2 = .ok (.iload_n 1, 1) := by decide +kernel
theorem dX3_tendNobody_3 : decode cX3_tendNobody 3 = .ok (.bipush 7, 2) := by decide +kernel
theorem dX3_tendNobody_5 : decode cX3_tendNobody 5 = .ok (.if_icmp .ge 17, 3) := by decide +kernel
theorem dX3_tendNobody_8 : decode cX3_tendNobody 8 = .ok (.aload_n 0, 1) := by decide +kernel
theorem dX3_tendNobody_9 : decode cX3_tendNobody 9 = .ok (.getfield 15, 3) := by decide +kernel
theorem dX3_tendNobody_12 : decode cX3_tendNobody 12 = .ok (.iload_n 1, 1) := by decide +kernel
theorem dX3_tendNobody_13 : decode cX3_tendNobody 13 = .ok (.bipush (-2), 2) := by decide +kernel
theorem dX3_tendNobody_15 : decode cX3_tendNobody 15 = .ok (.iastore, 1) := by decide +kernel
theorem dX3_tendNobody_16 : decode cX3_tendNobody 16 = .ok (.iinc 1 1, 3) := by decide +kernel
theorem dX3_tendNobody_19 : decode cX3_tendNobody 19 = .ok (.goto (-17), 3) := by decide +kernel
theorem dX3_tendNobody_22 : decode cX3_tendNobody 22 = .ok (.return_, 1) := by decide +kernel
theorem dX3_copyFrom_0 : decode cX3_copyFrom 0 = .ok (.aload_n 0, 1) := by decide +kernel
theorem dX3_copyFrom_1 : decode cX3_copyFrom 1 = .ok (.aload_n 1, 1) := by decide +kernel
theorem dX3_copyFrom_2 : decode cX3_copyFrom 2 = .ok (.getfield 18, 3) := by decide +kernel
theorem dX3_copyFrom_5 : decode cX3_copyFrom 5 = .ok (.putfield 18, 3) := by decide +kernel
theorem dX3_copyFrom_8 : decode cX3_copyFrom 8 = .ok (.aload_n 0, 1) := by decide +kernel
theorem dX3_copyFrom_9 : decode cX3_copyFrom 9 = .ok (.aload_n 1, 1) := by decide +kernel
theorem dX3_copyFrom_10 : decode cX3_copyFrom 10 = .ok (.getfield 22, 3) := by decide +kernel
theorem dX3_copyFrom_13 : decode cX3_copyFrom 13 = .ok (.putfield 22, 3) := by decide +kernel
theorem dX3_copyFrom_16 : decode cX3_copyFrom 16 = .ok (.aload_n 0, 1) := by decide +kernel
theorem dX3_copyFrom_17 : decode cX3_copyFrom 17 = .ok (.aload_n 1, 1) := by decide +kernel
theorem dX3_copyFrom_18 : decode cX3_copyFrom 18 = .ok (.getfield 25, 3) := by decide +kernel
theorem dX3_copyFrom_21 : decode cX3_copyFrom 21 = .ok (.putfield 25, 3) := by decide +kernel
theorem dX3_copyFrom_24 : decode cX3_copyFrom 24 = .ok (.aload_n 0, 1) := by decide +kernel
theorem dX3_copyFrom_25 : decode cX3_copyFrom 25 = .ok (.aload_n 1, 1) := by decide +kernel
theorem dX3_copyFrom_26 : decode cX3_copyFrom 26 = .ok (.getfield 28, 3) := by decide +kernel
theorem dX3_copyFrom_29 : decode cX3_copyFrom 29 = .ok (.putfield 28, 3) := by decide +kernel
theorem dX3_copyFrom_32 : decode cX3_copyFrom 32 = .ok (.iconst 0, 1) := by decide +kernel
theorem dX3_copyFrom_33 : decode cX3_copyFrom 33 = .ok (.istore_n 2, 1) := by decide +kernel
theorem dX3_copyFrom_34 : decode cX3_copyFrom 34 = .ok (.iload_n 2, 1) := by decide +kernel
theorem dX3_copyFrom_35 : decode cX3_copyFrom 35 = .ok (.bipush 7, 2) := by decide +kernel
theorem dX3_copyFrom_37 : decode cX3_copyFrom 37 = .ok (.if_icmp .ge 33, 3) := by decide +kernel
theorem dX3_copyFrom_40 : decode cX3_copyFrom 40 = .ok (.aload_n 0, 1) := by decide +kernel
theorem dX3_copyFrom_41 : decode cX3_copyFrom 41 = .ok (.getfield 9, 3) := by decide +kernel
theorem dX3_copyFrom_44 : decode cX3_copyFrom 44 = .ok (.iload_n 2, 1) := by decide +kernel
theorem dX3_copyFrom_45 : decode cX3_copyFrom 45 = .ok (.aload_n 1, 1) := by decide +kernel
theorem dX3_copyFrom_46 : decode cX3_copyFrom 46 = .ok (.getfield 9, 3) := by decide +kernel
theorem dX3_copyFrom_49 : decode cX3_copyFrom 49 = .ok (.iload_n 2, 1) := by decide +kernel
theorem dX3_copyFrom_50 : decode cX3_copyFrom 50 = .ok (.iaload, 1) := by decide +kernel
theorem dX3_copyFrom_51 : decode cX3_copyFrom 51 = .ok (.iastore, 1) := by decide +kernel
theorem dX3_copyFrom_52 : decode cX3_copyFrom 52 = .ok (.aload_n 0, 1) := by decide +kernel
theorem dX3_copyFrom_53 : decode cX3_copyFrom 53 = .ok (.getfield 15, 3) := by decide +kernel
theorem dX3_copyFrom_56 : decode cX3_copyFrom 56 = .ok (.iload_n 2, 1) := by decide +kernel
theorem dX3_copyFrom_57 : decode cX3_copyFrom 57 = .ok (.aload_n 1, 1) := by decide +kernel
theorem dX3_copyFrom_58 : decode cX3_copyFrom 58 = .ok (.getfield 15, 3) := by decide +kernel
theorem dX3_copyFrom_61 : decode cX3_copyFrom 61 = .ok (.iload_n 2, 1) := by decide +kernel
theorem dX3_copyFrom_62 : decode cX3_copyFrom 62 = .ok (.iaload, 1) := by decide +kernel
theorem dX3_copyFrom_63 : decode cX3_copyFrom 63 = .ok (.iastore, 1) := by decide +kernel
theorem dX3_copyFrom_64 : decode cX3_copyFrom 64 = .ok (.iinc 2 1, 3) := by decide +kernel
theorem dX3_copyFrom_67 : decode cX3_copyFrom 67 = .ok (.goto (-33), 3) := by decide +kernel
theorem dX3_copyFrom_70 : decode cX3_copyFrom 70 = .ok (.return_, 1) := by decide +kernel
theorem dX3_tendedBits_0 : decode cX3_tendedBits 0 = .ok (.iconst 0, 1) := by decide +kernel
theorem dX3_tendedBits_1 : decode cX3_tendedBits 1 = .ok (.istore_n 1, 1) := by decide +kernel
theorem dX3_tendedBits_2 : decode cX3_tendedBits 2 = .ok (.iconst 0, 1) := by decide +kernel
theorem dX3_tendedBits_3 : decode cX3_tendedBits 3 = .ok (.istore_n 2, 1) := by decide +kernel
theorem dX3_tendedBits_4 : decode cX3_tendedBits 4 = .ok (.iload_n 2, 1) := by decide +kernel
theorem dX3_tendedBits_5 : decode cX3_tendedBits 5 = .ok (.bipush 7, 2) := by decide +kernel
theorem dX3_tendedBits_7 : decode cX3_tendedBits 7 = .ok (.if_icmp .ge 27, 3) := by decide +kernel
theorem dX3_tendedBits_10 : decode cX3_tendedBits 10 = .ok (.aload_n 0, 1) := by decide +kernel
theorem dX3_tendedBits_11 : decode cX3_tendedBits 11 = .ok (.getfield 15, 3) := by decide +kernel
theorem dX3_tendedBits_14 : decode cX3_tendedBits 14 = .ok (.iload_n 2, 1) := by decide +kernel
theorem dX3_tendedBits_15 : decode cX3_tendedBits 15 = .ok (.iaload, 1) := by decide +kernel
theorem dX3_tendedBits_16 : decode cX3_tendedBits 16 = .ok (.bipush (-2), 2) := by decide +kernel
theorem dX3_tendedBits_18 : decode cX3_tendedBits 18 = .ok (.if_icmp .eq 10, 3) := by decide +kernel
theorem dX3_tendedBits_21 : decode cX3_tendedBits 21 = .ok (.iload_n 1, 1) := by decide +kernel
theorem dX3_tendedBits_22 : decode cX3_tendedBits 22 = .ok (.iload_n 2, 1) := by decide +kernel
theorem dX3_tendedBits_23 : decode cX3_tendedBits 23 = .ok (.invokestatic 35, 3) := by decide +kernel
theorem dX3_tendedBits_26 : decode cX3_tendedBits 26 = .ok (.ior, 1) := by decide +kernel
theorem dX3_tendedBits_27 : decode cX3_tendedBits 27 = .ok (.istore_n 1, 1) := by decide +kernel
theorem dX3_tendedBits_28 : decode cX3_tendedBits 28 = .ok (.iinc 2 1, 3) := by decide +kernel
theorem dX3_tendedBits_31 : decode cX3_tendedBits 31 = .ok (.goto (-27), 3) := by decide +kernel
theorem dX3_tendedBits_34 : decode cX3_tendedBits 34 = .ok (.iload_n 1, 1) := by decide +kernel
theorem dX3_tendedBits_35 : decode cX3_tendedBits 35 = .ok (.ireturn, 1) := by decide +kernel
theorem dX3_tendedByOne_0 : decode cX3_tendedByOne 0 = .ok (.iconst 0, 1) := by decide +kernel
theorem dX3_tendedByOne_1 : decode cX3_tendedByOne 1 = .ok (.istore_n 2, 1) := by decide +kernel
theorem dX3_tendedByOne_2 : decode cX3_tendedByOne 2 = .ok (.iconst 0, 1) := by decide +kernel
theorem dX3_tendedByOne_3 : decode cX3_tendedByOne 3 = .ok (.istore_n 3, 1) := by decide +kernel
theorem dX3_tendedByOne_4 : decode cX3_tendedByOne 4 = .ok (.iload_n 3, 1) := by decide +kernel
theorem dX3_tendedByOne_5 : decode cX3_tendedByOne 5 = .ok (.bipush 7, 2) := by decide +kernel
theorem dX3_tendedByOne_7 : decode cX3_tendedByOne 7 = .ok (.if_icmp .ge 26, 3) := by decide +kernel
theorem dX3_tendedByOne_10 : decode cX3_tendedByOne 10 = .ok (.aload_n 0, 1) := by decide +kernel
theorem dX3_tendedByOne_11 : decode cX3_tendedByOne 11 = .ok (.getfield 15, 3) := by decide +kernel
theorem dX3_tendedByOne_14 : decode cX3_tendedByOne 14 = .ok (.iload_n 3, 1) := by decide +kernel
theorem dX3_tendedByOne_15 : decode cX3_tendedByOne 15 = .ok (.iaload, 1) := by decide +kernel
theorem dX3_tendedByOne_16 : decode cX3_tendedByOne 16 = .ok (.iload_n 1, 1) := by decide +kernel
theorem dX3_tendedByOne_17 : decode cX3_tendedByOne 17 = .ok (.if_icmp .ne 10, 3) := by decide +kernel
theorem dX3_tendedByOne_20 : decode cX3_tendedByOne 20 = .ok (.iload_n 2, 1) := by decide +kernel
theorem dX3_tendedByOne_21 : decode cX3_tendedByOne 21 = .ok (.iload_n 3, 1) := by decide +kernel
theorem dX3_tendedByOne_22 : decode cX3_tendedByOne 22 = .ok (.invokestatic 35, 3) := by decide +kernel
theorem dX3_tendedByOne_25 : decode cX3_tendedByOne 25 = .ok (.ior, 1) := by decide +kernel
theorem dX3_tendedByOne_26 : decode cX3_tendedByOne 26 = .ok (.istore_n 2, 1) := by decide +kernel
theorem dX3_tendedByOne_27 : decode cX3_tendedByOne 27 = .ok (.iinc 3 1, 3) := by decide +kernel
theorem dX3_tendedByOne_30 : decode cX3_tendedByOne 30 = .ok (.goto (-26), 3) := by decide +kernel
theorem dX3_tendedByOne_33 : decode cX3_tendedByOne 33 = .ok (.iload_n 2, 1) := by decide +kernel
theorem dX3_tendedByOne_34 : decode cX3_tendedByOne 34 = .ok (.ireturn, 1) := by decide +kernel
theorem dX3_allHarm_0 : decode cX3_allHarm 0 = .ok (.iconst 0, 1) := by decide +kernel
theorem dX3_allHarm_1 : decode cX3_allHarm 1 = .ok (.istore_n 1, 1) := by decide +kernel
theorem dX3_allHarm_2 : decode cX3_allHarm 2 = .ok (.iconst 0, 1) := by decide +kernel
theorem dX3_allHarm_3 : decode cX3_allHarm 3 = .ok (.istore_n 2, 1) := by decide +kernel
theorem dX3_allHarm_4 : decode cX3_allHarm 4 = .ok (.iload_n 2, 1) := by decide +kernel
theorem dX3_allHarm_5 : decode cX3_allHarm 5 = .ok (.bipush 7, 2) := by decide +kernel
theorem dX3_allHarm_7 : decode cX3_allHarm 7 = .ok (.if_icmp .ge 18, 3) := by decide +kernel
theorem dX3_allHarm_10 : decode cX3_allHarm 10 = .ok (.iload_n 1, 1) := by decide +kernel
theorem dX3_allHarm_11 : decode cX3_allHarm 11 = .ok (.aload_n 0, 1) := by decide +kernel
theorem dX3_allHarm_12 : decode cX3_allHarm 12 = .ok (.getfield 9, 3) := by decide +kernel
theorem dX3_allHarm_15 : decode cX3_allHarm 15 = .ok (.iload_n 2, 1) := by decide +kernel
theorem dX3_allHarm_16 : decode cX3_allHarm 16 = .ok (.iaload, 1) := by decide +kernel
theorem dX3_allHarm_17 : decode cX3_allHarm 17 = .ok (.iadd, 1) := by decide +kernel
theorem dX3_allHarm_18 : decode cX3_allHarm 18 = .ok (.istore_n 1, 1) := by decide +kernel
theorem dX3_allHarm_19 : decode cX3_allHarm 19 = .ok (.iinc 2 1, 3) := by decide +kernel
theorem dX3_allHarm_22 : decode cX3_allHarm 22 = .ok (.goto (-18), 3) := by decide +kernel
theorem dX3_allHarm_25 : decode cX3_allHarm 25 = .ok (.iload_n 1, 1) := by decide +kernel
theorem dX3_allHarm_26 : decode cX3_allHarm 26 = .ok (.ireturn, 1) := by decide +kernel
theorem dX4_init_0 : decode cX4_init 0 = .ok (.aload_n 0, 1) := by decide +kernel
theorem dX4_init_1 : decode cX4_init 1 = .ok (.invokespecial 3, 3) := by decide +kernel
theorem dX4_init_4 : decode cX4_init 4 = .ok (.aload_n 0, 1) := by decide +kernel
theorem dX4_init_5 : decode cX4_init 5 = .ok (.bipush 6, 2) := by decide +kernel
theorem dX4_init_7 : decode cX4_init 7 = .ok (.newarray .long, 2) := by decide +kernel
theorem dX4_init_9 : decode cX4_init 9 = .ok (.putfield 9, 3) := by decide +kernel
theorem dX4_init_12 : decode cX4_init 12 = .ok (.aload_n 0, 1) := by decide +kernel
theorem dX4_init_13 : decode cX4_init 13 = .ok (.bipush 6, 2) := by decide +kernel
theorem dX4_init_15 : decode cX4_init 15 = .ok (.newarray .long, 2) := by decide +kernel
theorem dX4_init_17 : decode cX4_init 17 = .ok (.putfield 15, 3) := by decide +kernel
theorem dX4_init_20 : decode cX4_init 20 = .ok (.aload_n 0, 1) := by decide +kernel
theorem dX4_init_21 : decode cX4_init 21 = .ok (.bipush 6, 2) := by decide +kernel
theorem dX4_init_23 : decode cX4_init 23 = .ok (.newarray .int, 2) := by decide +kernel
theorem dX4_init_25 : decode cX4_init 25 = .ok (.putfield 18, 3) := by decide +kernel
theorem dX4_init_28 : decode cX4_init 28 = .ok (.aload_n 0, 1) := by decide +kernel
theorem dX4_init_29 : decode cX4_init 29 = .ok (.iconst 5, 1) := by decide +kernel
theorem dX4_init_30 : decode cX4_init 30 = .ok (.newarray .long, 2) := by decide +kernel
theorem dX4_init_32 : decode cX4_init 32 = .ok (.putfield 22, 3) := by decide +kernel
theorem dX4_init_35 : decode cX4_init 35 = .ok (.aload_n 0, 1) := by decide +kernel
theorem dX4_init_36 : decode cX4_init 36 = .ok (.iconst 5, 1) := by decide +kernel
theorem dX4_init_37 : decode cX4_init 37 = .ok (.newarray .long, 2) := by decide +kernel
theorem dX4_init_39 : decode cX4_init 39 = .ok (.putfield 25, 3) := by decide +kernel
theorem dX4_init_42 : decode cX4_init 42 = .ok (.return_, 1) := by decide +kernel
theorem dX4_hasRank_0 : decode cX4_hasRank 0 = .ok (.iconst 0, 1) := by decide +kernel
theorem dX4_hasRank_1 : decode cX4_hasRank 1 = .ok (.istore 4, 2) := by decide +kernel
theorem dX4_hasRank_3 : decode cX4_hasRank 3 = .ok (.iload 4, 2) := by decide +kernel
theorem dX4_hasRank_5 : decode cX4_hasRank 5 = .ok (.aload_n 0, 1) := by decide +kernel
theorem dX4_hasRank_6 : decode cX4_hasRank 6 = .ok (.getfield 28, 3) := by decide +kernel
theorem dX4_hasRank_9 : decode cX4_hasRank 9 = .ok (.if_icmp .ge 34, 3) := by decide +kernel
theorem dX4_hasRank_12 : decode cX4_hasRank 12 = .ok (.aload_n 0, 1) := by decide +kernel
theorem dX4_hasRank_13 : decode cX4_hasRank 13 = .ok (.getfield 9, 3) := by decide +kernel
theorem dX4_hasRank_16 : decode cX4_hasRank 16 = .ok (.iload 4, 2) := by decide +kernel
theorem dX4_hasRank_18 : decode cX4_hasRank 18 = .ok (.laload, 1) := by decide +kernel
theorem dX4_hasRank_19 : decode cX4_hasRank 19 = .ok (.lload_n 1, 1) := by decide +kernel
theorem dX4_hasRank_20 : decode cX4_hasRank 20 = .ok (.lcmp, 1) := by decide +kernel
theorem dX4_hasRank_21 : decode cX4_hasRank 21 = .ok (.ifCond .ne 16, 3) := by decide +kernel
theorem dX4_hasRank_24 : decode cX4_hasRank 24 = .ok (.aload_n 0, 1) := by decide +kernel
theorem dX4_hasRank_25 : decode cX4_hasRank 25 = .ok (.getfield 18, 3) := by decide +kernel
theorem dX4_hasRank_28 : decode cX4_hasRank 28 = .ok (.iload 4, 2) := by decide +kernel
theorem dX4_hasRank_30 : decode cX4_hasRank 30 = .ok (.iaload, 1) := by decide +kernel
theorem dX4_hasRank_31 : decode cX4_hasRank 31 = .ok (.iload_n 3, 1) := by decide +kernel
theorem dX4_hasRank_32 : decode cX4_hasRank 32 = .ok (.if_icmp .ne 5, 3) := by decide +kernel
theorem dX4_hasRank_35 : decode cX4_hasRank 35 = .ok (.iconst 1, 1) := by decide +kernel
theorem dX4_hasRank_36 : decode cX4_hasRank 36 = .ok (.ireturn, 1) := by decide +kernel
theorem dX4_hasRank_37 : decode cX4_hasRank 37 = .ok (.iinc 4 1, 3) := by decide +kernel
theorem dX4_hasRank_40 : decode cX4_hasRank 40 = .ok (.goto (-37), 3) := by decide +kernel
theorem dX4_hasRank_43 : decode cX4_hasRank 43 = .ok (.iconst 0, 1) := by decide +kernel
theorem dX4_hasRank_44 : decode cX4_hasRank 44 = .ok (.ireturn, 1) := by decide +kernel
theorem dX4_wasSeen_0 : decode cX4_wasSeen 0 = .ok (.iconst 0, 1) := by decide +kernel
theorem dX4_wasSeen_1 : decode cX4_wasSeen 1 = .ok (.istore_n 3, 1) := by decide +kernel
theorem dX4_wasSeen_2 : decode cX4_wasSeen 2 = .ok (.iload_n 3, 1) := by decide +kernel
theorem dX4_wasSeen_3 : decode cX4_wasSeen 3 = .ok (.aload_n 0, 1) := by decide +kernel
theorem dX4_wasSeen_4 : decode cX4_wasSeen 4 = .ok (.getfield 32, 3) := by decide +kernel
theorem dX4_wasSeen_7 : decode cX4_wasSeen 7 = .ok (.if_icmp .ge 22, 3) := by decide +kernel
theorem dX4_wasSeen_10 : decode cX4_wasSeen 10 = .ok (.aload_n 0, 1) := by decide +kernel
theorem dX4_wasSeen_11 : decode cX4_wasSeen 11 = .ok (.getfield 22, 3) := by decide +kernel
theorem dX4_wasSeen_14 : decode cX4_wasSeen 14 = .ok (.iload_n 3, 1) := by decide +kernel
theorem dX4_wasSeen_15 : decode cX4_wasSeen 15 = .ok (.laload, 1) := by decide +kernel
theorem dX4_wasSeen_16 : decode cX4_wasSeen 16 = .ok (.lload_n 1, 1) := by decide +kernel
theorem dX4_wasSeen_17 : decode cX4_wasSeen 17 = .ok (.lcmp, 1) := by decide +kernel
theorem dX4_wasSeen_18 : decode cX4_wasSeen 18 = .ok (.ifCond .ne 5, 3) := by decide +kernel
theorem dX4_wasSeen_21 : decode cX4_wasSeen 21 = .ok (.iconst 1, 1) := by decide +kernel
theorem dX4_wasSeen_22 : decode cX4_wasSeen 22 = .ok (.ireturn, 1) := by decide +kernel
theorem dX4_wasSeen_23 : decode cX4_wasSeen 23 = .ok (.iinc 3 1, 3) := by decide +kernel
theorem dX4_wasSeen_26 : decode cX4_wasSeen 26 = .ok (.goto (-24), 3) := by decide +kernel
theorem dX4_wasSeen_29 : decode cX4_wasSeen 29 = .ok (.iconst 0, 1) := by decide +kernel
theorem dX4_wasSeen_30 : decode cX4_wasSeen 30 = .ok (.ireturn, 1) := by decide +kernel
theorem dX4_deedBy_0 : decode cX4_deedBy 0 = .ok (.lconst 0, 1) := by decide +kernel
theorem dX4_deedBy_1 : decode cX4_deedBy 1 = .ok (.lstore 4, 2) := by decide +kernel
theorem dX4_deedBy_3 : decode cX4_deedBy 3 = .ok (.iconst 0, 1) := by decide +kernel
theorem dX4_deedBy_4 : decode cX4_deedBy 4 = .ok (.istore 6, 2) := by decide +kernel
theorem dX4_deedBy_6 : decode cX4_deedBy 6 = .ok (.iconst 0, 1) := by decide +kernel
theorem dX4_deedBy_7 : decode cX4_deedBy 7 = .ok (.istore 7, 2) := by decide +kernel
theorem dX4_deedBy_9 : decode cX4_deedBy 9 = .ok (.iload 7, 2) := by decide +kernel
theorem dX4_deedBy_11 : decode cX4_deedBy 11 = .ok (.aload_n 0, 1) := by decide +kernel
theorem dX4_deedBy_12 : decode cX4_deedBy 12 = .ok (.getfield 28, 3) := by decide +kernel
theorem dX4_deedBy_15 : decode cX4_deedBy 15 = .ok (.if_icmp .ge 61, 3) := by decide +kernel
theorem dX4_deedBy_18 : decode cX4_deedBy 18 = .ok (.iload_n 3, 1) := by decide +kernel
theorem dX4_deedBy_19 : decode cX4_deedBy 19 = .ok (.iload 7, 2) := by decide +kernel
theorem dX4_deedBy_21 : decode cX4_deedBy 21 = .ok (.invokestatic 35, 3) := by decide +kernel
theorem dX4_deedBy_24 : decode cX4_deedBy 24 = .ok (.iand, 1) := by decide +kernel
theorem dX4_deedBy_25 : decode cX4_deedBy 25 = .ok (.ifCond .eq 45, 3) := by decide +kernel
theorem dX4_deedBy_28 : decode cX4_deedBy 28 = .ok (.aload_n 0, 1) := by decide +kernel
theorem dX4_deedBy_29 : decode cX4_deedBy 29 = .ok (.getfield 9, 3) := by decide +kernel
theorem dX4_deedBy_32 : decode cX4_deedBy 32 = .ok (.iload 7, 2) := by decide +kernel
theorem dX4_deedBy_34 : decode cX4_deedBy 34 = .ok (.laload, 1) := by decide +kernel
theorem dX4_deedBy_35 : decode cX4_deedBy 35 = .ok (.lload_n 1, 1) := by decide +kernel
theorem dX4_deedBy_36 : decode cX4_deedBy 36 = .ok (.lcmp, 1) := by decide +kernel
theorem dX4_deedBy_37 : decode cX4_deedBy 37 = .ok (.ifCond .ne 33, 3) := by decide +kernel
theorem dX4_deedBy_40 : decode cX4_deedBy 40 = .ok (.aload_n 0, 1) := by decide +kernel
theorem dX4_deedBy_41 : decode cX4_deedBy 41 = .ok (.getfield 18, 3) := by decide +kernel
theorem dX4_deedBy_44 : decode cX4_deedBy 44 = .ok (.iload 7, 2) := by decide +kernel
theorem dX4_deedBy_46 : decode cX4_deedBy 46 = .ok (.iaload, 1) := by decide +kernel
theorem dX4_deedBy_47 : decode cX4_deedBy 47 = .ok (.iload 6, 2) := by decide +kernel
theorem dX4_deedBy_49 : decode cX4_deedBy 49 = .ok (.if_icmp .le 21, 3) := by decide +kernel
theorem dX4_deedBy_52 : decode cX4_deedBy 52 = .ok (.aload_n 0, 1) := by decide +kernel
theorem dX4_deedBy_53 : decode cX4_deedBy 53 = .ok (.getfield 18, 3) := by decide +kernel
theorem dX4_deedBy_56 : decode cX4_deedBy 56 = .ok (.iload 7, 2) := by decide +kernel
theorem dX4_deedBy_58 : decode cX4_deedBy 58 = .ok (.iaload, 1) := by decide +kernel
theorem dX4_deedBy_59 : decode cX4_deedBy 59 = .ok (.istore 6, 2) := by decide +kernel
theorem dX4_deedBy_61 : decode cX4_deedBy 61 = .ok (.aload_n 0, 1) := by decide +kernel
theorem dX4_deedBy_62 : decode cX4_deedBy 62 = .ok (.getfield 15, 3) := by decide +kernel
theorem dX4_deedBy_65 : decode cX4_deedBy 65 = .ok (.iload 7, 2) := by decide +kernel
theorem dX4_deedBy_67 : decode cX4_deedBy 67 = .ok (.laload, 1) := by decide +kernel
theorem dX4_deedBy_68 : decode cX4_deedBy 68 = .ok (.lstore 4, 2) := by decide +kernel
theorem dX4_deedBy_70 : decode cX4_deedBy 70 = .ok (.iinc 7 1, 3) := by decide +kernel
theorem dX4_deedBy_73 : decode cX4_deedBy 73 = .ok (.goto (-64), 3) := by decide +kernel
theorem dX4_deedBy_76 : decode cX4_deedBy 76 = .ok (.lload 4, 2) := by decide +kernel
theorem dX4_deedBy_78 : decode cX4_deedBy 78 = .ok (.lreturn, 1) := by decide +kernel
theorem dX4_firstUnlike_0 : decode cX4_firstUnlike 0 = .ok (.iconst 0, 1) := by decide +kernel
theorem dX4_firstUnlike_1 : decode cX4_firstUnlike 1 = .ok (.istore_n 2, 1) := by decide +kernel
theorem dX4_firstUnlike_2 : decode cX4_firstUnlike 2 = .ok (.iload_n 2, 1) := by decide +kernel
theorem dX4_firstUnlike_3 : decode cX4_firstUnlike 3 = .ok (.aload_n 0, 1) := by decide +kernel
theorem dX4_firstUnlike_4 : decode cX4_firstUnlike 4 = .ok (.getfield 32, 3) := by decide +kernel
theorem dX4_firstUnlike_7 : decode cX4_firstUnlike 7 = .ok (.if_icmp .ge 32, 3) := by decide +kernel
theorem dX4_firstUnlike_10 : decode cX4_firstUnlike 10 = .ok (.aload_n 0, 1) := by decide +kernel
theorem dX4_firstUnlike_11 : decode cX4_firstUnlike 11 = .ok (.aload_n 0, 1) := by decide +kernel
theorem dX4_firstUnlike_12 : decode cX4_firstUnlike 12 = .ok (.getfield 22, 3) := by decide +kernel
theorem dX4_firstUnlike_15 : decode cX4_firstUnlike 15 = .ok (.iload_n 2, 1) := by decide +kernel
theorem dX4_firstUnlike_16 : decode cX4_firstUnlike 16 = .ok (.laload, 1) := by decide +kernel
theorem dX4_firstUnlike_17 : decode cX4_firstUnlike 17 = .ok (.iload_n 1, 1) := by decide +kernel
theorem dX4_firstUnlike_18 : decode cX4_firstUnlike 18 = .ok (.invokevirtual 39, 3) := by decide +kernel
theorem dX4_firstUnlike_21 : decode cX4_firstUnlike 21 = .ok (.aload_n 0, 1) := by decide +kernel
theorem dX4_firstUnlike_22 : decode cX4_firstUnlike 22 = .ok (.getfield 25, 3) := by decide +kernel
theorem dX4_firstUnlike_25 : decode cX4_firstUnlike 25 = .ok (.iload_n 2, 1) := by decide +kernel
theorem dX4_firstUnlike_26 : decode cX4_firstUnlike 26 = .ok (.laload, 1) := by decide +kernel
theorem dX4_firstUnlike_27 : decode cX4_firstUnlike 27 = .ok (.lcmp, 1) := by decide +kernel
theorem dX4_firstUnlike_28 : decode cX4_firstUnlike 28 = .ok (.ifCond .eq 5, 3) := by decide +kernel
theorem dX4_firstUnlike_31 : decode cX4_firstUnlike 31 = .ok (.iload_n 2, 1) := by decide +kernel
theorem dX4_firstUnlike_32 : decode cX4_firstUnlike 32 = .ok (.ireturn, 1) := by decide +kernel
theorem dX4_firstUnlike_33 : decode cX4_firstUnlike 33 = .ok (.iinc 2 1, 3) := by decide +kernel
theorem dX4_firstUnlike_36 : decode cX4_firstUnlike 36 = .ok (.goto (-34), 3) := by decide +kernel
theorem dX4_firstUnlike_39 : decode cX4_firstUnlike 39 = .ok (.bipush (-2), 2) := by decide +kernel
theorem dX4_firstUnlike_41 : decode cX4_firstUnlike 41 = .ok (.ireturn, 1) := by decide +kernel
theorem dX4_isFirstOfSign_0 : decode cX4_isFirstOfSign 0 = .ok (.iconst 0, 1) := by decide +kernel
theorem dX4_isFirstOfSign_1 : decode cX4_isFirstOfSign 1 = .ok (.istore_n 2, 1) := by decide +kernel
theorem dX4_isFirstOfSign_2 : decode cX4_isFirstOfSign 2 = .ok (.iload_n 2, 1) := by decide +kernel
theorem dX4_isFirstOfSign_3 : decode cX4_isFirstOfSign 3 = .ok (.iload_n 1, 1) := by decide +kernel
theorem dX4_isFirstOfSign_4 : decode cX4_isFirstOfSign 4 = .ok (.if_icmp .ge 27, 3) := by decide +kernel
theorem dX4_isFirstOfSign_7 : decode cX4_isFirstOfSign 7 = .ok (.aload_n 0, 1) := by decide +kernel
theorem dX4_isFirstOfSign_8 : decode cX4_isFirstOfSign 8 = .ok (.getfield 9, 3) := by decide +kernel
theorem dX4_isFirstOfSign_11 : decode cX4_isFirstOfSign 11 = .ok (.iload_n 2, 1) := by decide +kernel
theorem dX4_isFirstOfSign_12 : decode cX4_isFirstOfSign 12 = .ok (.laload, 1) := by decide +kernel
theorem dX4_isFirstOfSign_13 : decode cX4_isFirstOfSign 13 = .ok (.aload_n 0, 1) := by decide +kernel
theorem dX4_isFirstOfSign_14 : decode cX4_isFirstOfSign 14 = .ok (.getfield 9, 3) := by decide +kernel
theorem dX4_isFirstOfSign_17 : decode cX4_isFirstOfSign 17 = .ok (.iload_n 1, 1) := by decide +kernel
theorem dX4_isFirstOfSign_18 : decode cX4_isFirstOfSign 18 = .ok (.laload, 1) := by decide +kernel
theorem dX4_isFirstOfSign_19 : decode cX4_isFirstOfSign 19 = .ok (.lcmp, 1) := by decide +kernel
theorem dX4_isFirstOfSign_20 : decode cX4_isFirstOfSign 20 = .ok (.ifCond .ne 5, 3) := by decide +kernel
theorem dX4_isFirstOfSign_23 : decode cX4_isFirstOfSign 23 = .ok (.iconst 0, 1) := by decide +kernel
theorem dX4_isFirstOfSign_24 : decode cX4_isFirstOfSign 24 = .ok (.ireturn, 1) := by decide +kernel
theorem dX4_isFirstOfSign_25 : decode cX4_isFirstOfSign 25 = .ok (.iinc 2 1, 3) := by decide +kernel
theorem dX4_isFirstOfSign_28 : decode cX4_isFirstOfSign 28 = .ok (.goto (-26), 3) := by decide +kernel
theorem dX4_isFirstOfSign_31 : decode cX4_isFirstOfSign 31 = .ok (.iconst 1, 1) := by decide +kernel
theorem dX4_isFirstOfSign_32 : decode cX4_isFirstOfSign 32 = .ok (.ireturn, 1) := by decide +kernel
theorem dX4_firstOfDeed_0 : decode cX4_firstOfDeed 0 = .ok (.iconst 0, 1) := by decide +kernel
theorem dX4_firstOfDeed_1 : decode cX4_firstOfDeed 1 = .ok (.istore 5, 2) := by decide +kernel
theorem dX4_firstOfDeed_3 : decode cX4_firstOfDeed 3 = .ok (.iload 5, 2) := by decide +kernel
theorem dX4_firstOfDeed_5 : decode cX4_firstOfDeed 5 = .ok (.aload_n 0, 1) := by decide +kernel
theorem dX4_firstOfDeed_6 : decode cX4_firstOfDeed 6 = .ok (.getfield 28, 3) := by decide +kernel
theorem dX4_firstOfDeed_9 : decode cX4_firstOfDeed 9 = .ok (.if_icmp .ge 36, 3) := by decide +kernel
theorem dX4_firstOfDeed_12 : decode cX4_firstOfDeed 12 = .ok (.aload_n 0, 1) := by decide +kernel
theorem dX4_firstOfDeed_13 : decode cX4_firstOfDeed 13 = .ok (.getfield 9, 3) := by decide +kernel
theorem dX4_firstOfDeed_16 : decode cX4_firstOfDeed 16 = .ok (.iload 5, 2) := by decide +kernel
theorem dX4_firstOfDeed_18 : decode cX4_firstOfDeed 18 = .ok (.laload, 1) := by decide +kernel
theorem dX4_firstOfDeed_19 : decode cX4_firstOfDeed 19 = .ok (.lload_n 1, 1) := by decide +kernel
theorem dX4_firstOfDeed_20 : decode cX4_firstOfDeed 20 = .ok (.lcmp, 1) := by decide +kernel
theorem dX4_firstOfDeed_21 : decode cX4_firstOfDeed 21 = .ok (.ifCond .ne 18, 3) := by decide +kernel
theorem dX4_firstOfDeed_24 : decode cX4_firstOfDeed 24 = .ok (.aload_n 0, 1) := by decide +kernel
theorem dX4_firstOfDeed_25 : decode cX4_firstOfDeed 25 = .ok (.getfield 15, 3) := by decide +kernel
theorem dX4_firstOfDeed_28 : decode cX4_firstOfDeed 28 = .ok (.iload 5, 2) := by decide +kernel
theorem dX4_firstOfDeed_30 : decode cX4_firstOfDeed 30 = .ok (.laload, 1) := by decide +kernel
theorem dX4_firstOfDeed_31 : decode cX4_firstOfDeed 31 = .ok (.lload_n 3, 1) := by decide +kernel
theorem dX4_firstOfDeed_32 : decode cX4_firstOfDeed 32 = .ok (.lcmp, 1) := by decide +kernel
theorem dX4_firstOfDeed_33 : decode cX4_firstOfDeed 33 = .ok (.ifCond .ne 6, 3) := by decide +kernel
theorem dX4_firstOfDeed_36 : decode cX4_firstOfDeed 36 = .ok (.iload 5, 2) := by decide +kernel
theorem dX4_firstOfDeed_38 : decode cX4_firstOfDeed 38 = .ok (.ireturn, 1) := by decide +kernel
theorem dX4_firstOfDeed_39 : decode cX4_firstOfDeed 39 = .ok (.iinc 5 1, 3) := by decide +kernel
theorem dX4_firstOfDeed_42 : decode cX4_firstOfDeed 42 = .ok (.goto (-39), 3) := by decide +kernel
theorem dX4_firstOfDeed_45 : decode cX4_firstOfDeed 45 = .ok (.iconst (-1), 1) := by decide +kernel
theorem dX4_firstOfDeed_46 : decode cX4_firstOfDeed 46 = .ok (.ireturn, 1) := by decide +kernel
theorem dX4_isShown_0 : decode cX4_isShown 0 = .ok (.iconst 0, 1) := by decide +kernel
theorem dX4_isShown_1 : decode cX4_isShown 1 = .ok (.istore 4, 2) := by decide +kernel
theorem dX4_isShown_3 : decode cX4_isShown 3 = .ok (.iload 4, 2) := by decide +kernel
theorem dX4_isShown_5 : decode cX4_isShown 5 = .ok (.aload_n 0, 1) := by decide +kernel
theorem dX4_isShown_6 : decode cX4_isShown 6 = .ok (.getfield 28, 3) := by decide +kernel
theorem dX4_isShown_9 : decode cX4_isShown 9 = .ok (.if_icmp .ge 33, 3) := by decide +kernel
theorem dX4_isShown_12 : decode cX4_isShown 12 = .ok (.iload_n 3, 1) := by decide +kernel
theorem dX4_isShown_13 : decode cX4_isShown 13 = .ok (.iload 4, 2) := by decide +kernel
theorem dX4_isShown_15 : decode cX4_isShown 15 = .ok (.invokestatic 35, 3) := by decide +kernel
theorem dX4_isShown_18 : decode cX4_isShown 18 = .ok (.iand, 1) := by decide +kernel
theorem dX4_isShown_19 : decode cX4_isShown 19 = .ok (.ifCond .eq 17, 3) := by decide +kernel
theorem dX4_isShown_22 : decode cX4_isShown 22 = .ok (.aload_n 0, 1) := by decide +kernel
theorem dX4_isShown_23 : decode cX4_isShown 23 = .ok (.getfield 9, 3) := by decide +kernel
theorem dX4_isShown_26 : decode cX4_isShown 26 = .ok (.iload 4, 2) := by decide +kernel
theorem dX4_isShown_28 : decode cX4_isShown 28 = .ok (.laload, 1) := by decide +kernel
theorem dX4_isShown_29 : decode cX4_isShown 29 = .ok (.lload_n 1, 1) := by decide +kernel
theorem dX4_isShown_30 : decode cX4_isShown 30 = .ok (.lcmp, 1) := by decide +kernel
theorem dX4_isShown_31 : decode cX4_isShown 31 = .ok (.ifCond .ne 5, 3) := by decide +kernel
theorem dX4_isShown_34 : decode cX4_isShown 34 = .ok (.iconst 1, 1) := by decide +kernel
theorem dX4_isShown_35 : decode cX4_isShown 35 = .ok (.ireturn, 1) := by decide +kernel
theorem dX4_isShown_36 : decode cX4_isShown 36 = .ok (.iinc 4 1, 3) := by decide +kernel
theorem dX4_isShown_39 : decode cX4_isShown 39 = .ok (.goto (-36), 3) := by decide +kernel
theorem dX4_isShown_42 : decode cX4_isShown 42 = .ok (.iconst 0, 1) := by decide +kernel
theorem dX4_isShown_43 : decode cX4_isShown 43 = .ok (.ireturn, 1) := by decide +kernel
theorem dX4_doneTogether_0 : decode cX4_doneTogether 0 = .ok (.bipush (-2), 2) := by decide +kernel
theorem dX4_doneTogether_2 : decode cX4_doneTogether 2 = .ok (.istore_n 2, 1) := by decide +kernel
theorem dX4_doneTogether_3 : decode cX4_doneTogether 3 = .ok (.iconst 0, 1) := by decide +kernel
theorem dX4_doneTogether_4 : decode cX4_doneTogether 4 = .ok (.istore_n 3, 1) := by decide +kernel
theorem dX4_doneTogether_5 : decode cX4_doneTogether 5 = .ok (.iconst 0, 1) := by decide +kernel
theorem dX4_doneTogether_6 : decode cX4_doneTogether 6 = .ok (.istore 4, 2) := by decide +kernel
theorem dX4_doneTogether_8 : decode cX4_doneTogether 8 = .ok (.iload 4, 2) := by decide +kernel
theorem dX4_doneTogether_10 : decode cX4_doneTogether 10 = .ok (.aload_n 0, 1) := by decide +kernel
theorem dX4_doneTogether_11 : decode cX4_doneTogether 11 = .ok (.getfield 28, 3) := by decide +kernel
theorem dX4_doneTogether_14 : decode cX4_doneTogether 14 = .ok (.if_icmp .ge 46, 3) := by decide +kernel
theorem dX4_doneTogether_17 : decode cX4_doneTogether 17 = .ok (.aload_n 0, 1) := by decide +kernel
theorem dX4_doneTogether_18 : decode cX4_doneTogether 18 = .ok (.getfield 18, 3) := by decide +kernel
theorem dX4_doneTogether_21 : decode cX4_doneTogether 21 = .ok (.iload 4, 2) := by decide +kernel
theorem dX4_doneTogether_23 : decode cX4_doneTogether 23 = .ok (.iaload, 1) := by decide +kernel
theorem dX4_doneTogether_24 : decode cX4_doneTogether 24 = .ok (.iload_n 3, 1) := by decide +kernel
theorem dX4_doneTogether_25 : decode cX4_doneTogether 25 = .ok (.if_icmp .lt 29, 3) := by decide +kernel
theorem dX4_doneTogether_28 : decode cX4_doneTogether 28 = .ok (.aload_n 0, 1) := by decide +kernel
theorem dX4_doneTogether_29 : decode cX4_doneTogether 29 = .ok (.aload_n 0, 1) := by decide +kernel
theorem dX4_doneTogether_30 : decode cX4_doneTogether 30 = .ok (.getfield 9, 3) := by decide +kernel
theorem dX4_doneTogether_33 : decode cX4_doneTogether 33 = .ok (.iload 4, 2) := by decide +kernel
theorem dX4_doneTogether_35 : decode cX4_doneTogether 35 = .ok (.laload, 1) := by decide +kernel
theorem dX4_doneTogether_36 : decode cX4_doneTogether 36 = .ok (.iload_n 1, 1) := by decide +kernel
theorem dX4_doneTogether_37 : decode cX4_doneTogether 37 = .ok (.invokevirtual 43, 3) := by decide +kernel
theorem dX4_doneTogether_40 : decode cX4_doneTogether 40 = .ok (.ifCond .eq 14, 3) := by decide +kernel
theorem dX4_doneTogether_43 : decode cX4_doneTogether 43 = .ok (.aload_n 0, 1) := by decide +kernel
theorem dX4_doneTogether_44 : decode cX4_doneTogether 44 = .ok (.getfield 18, 3) := by decide +kernel
theorem dX4_doneTogether_47 : decode cX4_doneTogether 47 = .ok (.iload 4, 2) := by decide +kernel
theorem dX4_doneTogether_49 : decode cX4_doneTogether 49 = .ok (.iaload, 1) := by decide +kernel
theorem dX4_doneTogether_50 : decode cX4_doneTogether 50 = .ok (.istore_n 3, 1) := by decide +kernel
theorem dX4_doneTogether_51 : decode cX4_doneTogether 51 = .ok (.iload 4, 2) := by decide +kernel
theorem dX4_doneTogether_53 : decode cX4_doneTogether 53 = .ok (.istore_n 2, 1) := by decide +kernel
theorem dX4_doneTogether_54 : decode cX4_doneTogether 54 = .ok (.iinc 4 1, 3) := by decide +kernel
theorem dX4_doneTogether_57 : decode cX4_doneTogether 57 = .ok (.goto (-49), 3) := by decide +kernel
theorem dX4_doneTogether_60 : decode cX4_doneTogether 60 = .ok (.iload_n 2, 1) := by decide +kernel
theorem dX4_doneTogether_61 : decode cX4_doneTogether 61 = .ok (.ireturn, 1) := by decide +kernel
theorem dX4_firstClash_0 : decode cX4_firstClash 0 = .ok (.iconst 0, 1) := by decide +kernel
theorem dX4_firstClash_1 : decode cX4_firstClash 1 = .ok (.istore_n 1, 1) := by decide +kernel
theorem dX4_firstClash_2 : decode cX4_firstClash 2 = .ok (.iload_n 1, 1) := by decide +kernel
theorem dX4_firstClash_3 : decode cX4_firstClash 3 = .ok (.aload_n 0, 1) := by decide +kernel
theorem dX4_firstClash_4 : decode cX4_firstClash 4 = .ok (.getfield 28, 3) := by decide +kernel
theorem dX4_firstClash_7 : decode cX4_firstClash 7 = .ok (.if_icmp .ge 66, 3) := by decide +kernel
theorem dX4_firstClash_10 : decode cX4_firstClash 10 = .ok (.iload_n 1, 1) := by decide +kernel
theorem dX4_firstClash_11 : decode cX4_firstClash 11 = .ok (.iconst 1, 1) := by decide +kernel
theorem dX4_firstClash_12 : decode cX4_firstClash 12 = .ok (.iadd, 1) := by decide +kernel
theorem dX4_firstClash_13 : decode cX4_firstClash 13 = .ok (.istore_n 2, 1) := by decide +kernel
theorem dX4_firstClash_14 : decode cX4_firstClash 14 = .ok (.iload_n 2, 1) := by decide +kernel
theorem dX4_firstClash_15 : decode cX4_firstClash 15 = .ok (.aload_n 0, 1) := by decide +kernel
theorem dX4_firstClash_16 : decode cX4_firstClash 16 = .ok (.getfield 28, 3) := by decide +kernel
theorem dX4_firstClash_19 : decode cX4_firstClash 19 = .ok (.if_icmp .ge 48, 3) := by decide +kernel
theorem dX4_firstClash_22 : decode cX4_firstClash 22 = .ok (.aload_n 0, 1) := by decide +kernel
theorem dX4_firstClash_23 : decode cX4_firstClash 23 = .ok (.getfield 9, 3) := by decide +kernel
theorem dX4_firstClash_26 : decode cX4_firstClash 26 = .ok (.iload_n 1, 1) := by decide +kernel
theorem dX4_firstClash_27 : decode cX4_firstClash 27 = .ok (.laload, 1) := by decide +kernel
theorem dX4_firstClash_28 : decode cX4_firstClash 28 = .ok (.aload_n 0, 1) := by decide +kernel
theorem dX4_firstClash_29 : decode cX4_firstClash 29 = .ok (.getfield 9, 3) := by decide +kernel
theorem dX4_firstClash_32 : decode cX4_firstClash 32 = .ok (.iload_n 2, 1) := by decide +kernel
theorem dX4_firstClash_33 : decode cX4_firstClash 33 = .ok (.laload, 1) := by decide +kernel
theorem dX4_firstClash_34 : decode cX4_firstClash 34 = .ok (.lcmp, 1) := by decide +kernel
theorem dX4_firstClash_35 : decode cX4_firstClash 35 = .ok (.ifCond .ne 26, 3) := by decide +kernel
theorem dX4_firstClash_38 : decode cX4_firstClash 38 = .ok (.aload_n 0, 1) := by decide +kernel
theorem dX4_firstClash_39 : decode cX4_firstClash 39 = .ok (.getfield 15, 3) := by decide +kernel
theorem dX4_firstClash_42 : decode cX4_firstClash 42 = .ok (.iload_n 1, 1) := by decide +kernel
theorem dX4_firstClash_43 : decode cX4_firstClash 43 = .ok (.laload, 1) := by decide +kernel
theorem dX4_firstClash_44 : decode cX4_firstClash 44 = .ok (.aload_n 0, 1) := by decide +kernel
theorem dX4_firstClash_45 : decode cX4_firstClash 45 = .ok (.getfield 15, 3) := by decide +kernel
theorem dX4_firstClash_48 : decode cX4_firstClash 48 = .ok (.iload_n 2, 1) := by decide +kernel
theorem dX4_firstClash_49 : decode cX4_firstClash 49 = .ok (.laload, 1) := by decide +kernel
theorem dX4_firstClash_50 : decode cX4_firstClash 50 = .ok (.lcmp, 1) := by decide +kernel
theorem dX4_firstClash_51 : decode cX4_firstClash 51 = .ok (.ifCond .eq 10, 3) := by decide +kernel
theorem dX4_firstClash_54 : decode cX4_firstClash 54 = .ok (.bipush 10, 2) := by decide +kernel
theorem dX4_firstClash_56 : decode cX4_firstClash 56 = .ok (.iload_n 1, 1) := by decide +kernel
theorem dX4_firstClash_57 : decode cX4_firstClash 57 = .ok (.imul, 1) := by decide +kernel
theorem dX4_firstClash_58 : decode cX4_firstClash 58 = .ok (.iload_n 2, 1) := by decide +kernel
theorem dX4_firstClash_59 : decode cX4_firstClash 59 = .ok (.iadd, 1) := by decide +kernel
theorem dX4_firstClash_60 : decode cX4_firstClash 60 = .ok (.ireturn, 1) := by decide +kernel
theorem dX4_firstClash_61 : decode cX4_firstClash 61 = .ok (.iinc 2 1, 3) := by decide +kernel
theorem dX4_firstClash_64 : decode cX4_firstClash 64 = .ok (.goto (-50), 3) := by decide +kernel
theorem dX4_firstClash_67 : decode cX4_firstClash 67 = .ok (.iinc 1 1, 3) := by decide +kernel
theorem dX4_firstClash_70 : decode cX4_firstClash 70 = .ok (.goto (-68), 3) := by decide +kernel
theorem dX4_firstClash_73 : decode cX4_firstClash 73 = .ok (.bipush (-2), 2) := by decide +kernel
theorem dX4_firstClash_75 : decode cX4_firstClash 75 = .ok (.ireturn, 1) := by decide +kernel
theorem dX5_init_0 : decode cX5_init 0 = .ok (.aload_n 0, 1) := by decide +kernel
theorem dX5_init_1 : decode cX5_init 1 = .ok (.invokespecial 3, 3) := by decide +kernel
theorem dX5_init_4 : decode cX5_init 4 = .ok (.aload_n 0, 1) := by decide +kernel
theorem dX5_init_5 : decode cX5_init 5 = .ok (.bipush 16, 2) := by decide +kernel
theorem dX5_init_7 : decode cX5_init 7 = .ok (.anewarray 9, 3) := by decide +kernel
theorem dX5_init_10 : decode cX5_init 10 = .ok (.putfield 11, 3) := by decide +kernel
theorem dX5_init_13 : decode cX5_init 13 = .ok (.aload_n 0, 1) := by decide +kernel
theorem dX5_init_14 : decode cX5_init 14 = .ok (.iconst 3, 1) := by decide +kernel
theorem dX5_init_15 : decode cX5_init 15 = .ok (.anewarray 9, 3) := by decide +kernel
theorem dX5_init_18 : decode cX5_init 18 = .ok (.putfield 17, 3) := by decide +kernel
theorem dX5_init_21 : decode cX5_init 21 = .ok (.iconst 0, 1) := by decide +kernel
theorem dX5_init_22 : decode cX5_init 22 = .ok (.istore_n 1, 1) := by decide +kernel
theorem dX5_init_23 : decode cX5_init 23 = .ok (.iload_n 1, 1) := by decide +kernel
theorem dX5_init_24 : decode cX5_init 24 = .ok (.bipush 16, 2) := by decide +kernel
theorem dX5_init_26 : decode cX5_init 26 = .ok (.if_icmp .ge 22, 3) := by decide +kernel
theorem dX5_init_29 : decode cX5_init 29 = .ok (.aload_n 0, 1) := by decide +kernel
theorem dX5_init_30 : decode cX5_init 30 = .ok (.getfield 11, 3) := by decide +kernel
theorem dX5_init_33 : decode cX5_init 33 = .ok (.iload_n 1, 1) := by decide +kernel
theorem dX5_init_34 : decode cX5_init 34 = .ok (.new 9, 3) := by decide +kernel
theorem dX5_init_37 : decode cX5_init 37 = .ok (.dup, 1) := by decide +kernel
theorem dX5_init_38 : decode cX5_init 38 = .ok (.invokespecial 20, 3) := by decide +kernel
theorem dX5_init_41 : decode cX5_init 41 = .ok (.aastore, 1) := by decide +kernel
theorem dX5_init_42 : decode cX5_init 42 = .ok (.iinc 1 1, 3) := by decide +kernel
theorem dX5_init_45 : decode cX5_init 45 = .ok (.goto (-22), 3) := by decide +kernel
theorem dX5_init_48 : decode cX5_init 48 = .ok (.iconst 0, 1) := by decide +kernel
theorem dX5_init_49 : decode cX5_init 49 = .ok (.istore_n 1, 1) := by decide +kernel
theorem dX5_init_50 : decode cX5_init 50 = .ok (.iload_n 1, 1) := by decide +kernel
theorem dX5_init_51 : decode cX5_init 51 = .ok (.iconst 3, 1) := by decide +kernel
theorem dX5_init_52 : decode cX5_init 52 = .ok (.if_icmp .ge 22, 3) := by decide +kernel
theorem dX5_init_55 : decode cX5_init 55 = .ok (.aload_n 0, 1) := by decide +kernel
theorem dX5_init_56 : decode cX5_init 56 = .ok (.getfield 17, 3) := by decide +kernel
theorem dX5_init_59 : decode cX5_init 59 = .ok (.iload_n 1, 1) := by decide +kernel
theorem dX5_init_60 : decode cX5_init 60 = .ok (.new 9, 3) := by decide +kernel
theorem dX5_init_63 : decode cX5_init 63 = .ok (.dup, 1) := by decide +kernel
theorem dX5_init_64 : decode cX5_init 64 = .ok (.invokespecial 20, 3) := by decide +kernel
theorem dX5_init_67 : decode cX5_init 67 = .ok (.aastore, 1) := by decide +kernel
theorem dX5_init_68 : decode cX5_init 68 = .ok (.iinc 1 1, 3) := by decide +kernel
theorem dX5_init_71 : decode cX5_init 71 = .ok (.goto (-21), 3) := by decide +kernel
theorem dX5_init_74 : decode cX5_init 74 = .ok (.return_, 1) := by decide +kernel
theorem dX5_reset_0 : decode cX5_reset 0 = .ok (.aload_n 0, 1) := by decide +kernel
theorem dX5_reset_1 : decode cX5_reset 1 = .ok (.iconst 0, 1) := by decide +kernel
theorem dX5_reset_2 : decode cX5_reset 2 = .ok (.putfield 21, 3) := by decide +kernel
theorem dX5_reset_5 : decode cX5_reset 5 = .ok (.aload_n 0, 1) := by decide +kernel
theorem dX5_reset_6 : decode cX5_reset 6 = .ok (.iconst 0, 1) := by decide +kernel
theorem dX5_reset_7 : decode cX5_reset 7 = .ok (.putfield 25, 3) := by decide +kernel
theorem dX5_reset_10 : decode cX5_reset 10 = .ok (.return_, 1) := by decide +kernel
theorem dX5_keep_0 : decode cX5_keep 0 = .ok (.aload_n 0, 1) := by decide +kernel
theorem dX5_keep_1 : decode cX5_keep 1 = .ok (.getfield 11, 3) := by decide +kernel
theorem dX5_keep_4 : decode cX5_keep 4 = .ok (.aload_n 0, 1) := by decide +kernel
theorem dX5_keep_5 : decode cX5_keep 5 = .ok (.getfield 28, 3) := by decide +kernel
theorem dX5_keep_8 : decode cX5_keep 8 = .ok (.aaload, 1) := by decide +kernel
theorem dX5_keep_9 : decode cX5_keep 9 = .ok (.aload_n 1, 1) := by decide +kernel
theorem dX5_keep_10 : decode cX5_keep 10 = .ok (.invokevirtual 31, 3) := by decide +kernel
theorem dX5_keep_13 : decode cX5_keep 13 = .ok (.aload_n 0, 1) := by decide +kernel
theorem dX5_keep_14 : decode cX5_keep 14 = .ok (.aload_n 0, 1) := by decide +kernel
theorem dX5_keep_15 : decode cX5_keep 15 = .ok (.getfield 28, 3) := by decide +kernel
theorem dX5_keep_18 : decode cX5_keep 18 = .ok (.iconst 1, 1) := by decide +kernel
theorem dX5_keep_19 : decode cX5_keep 19 = .ok (.iadd, 1) := by decide +kernel
theorem dX5_keep_20 : decode cX5_keep 20 = .ok (.bipush 16, 2) := by decide +kernel
theorem dX5_keep_22 : decode cX5_keep 22 = .ok (.irem, 1) := by decide +kernel
theorem dX5_keep_23 : decode cX5_keep 23 = .ok (.putfield 28, 3) := by decide +kernel
theorem dX5_keep_26 : decode cX5_keep 26 = .ok (.aload_n 0, 1) := by decide +kernel
theorem dX5_keep_27 : decode cX5_keep 27 = .ok (.aload_n 0, 1) := by decide +kernel
theorem dX5_keep_28 : decode cX5_keep 28 = .ok (.getfield 21, 3) := by decide +kernel
theorem dX5_keep_31 : decode cX5_keep 31 = .ok (.iconst 1, 1) := by decide +kernel
theorem dX5_keep_32 : decode cX5_keep 32 = .ok (.iadd, 1) := by decide +kernel
theorem dX5_keep_33 : decode cX5_keep 33 = .ok (.bipush 16, 2) := by decide +kernel
theorem dX5_keep_35 : decode cX5_keep 35 = .ok (.invokestatic 35, 3) := by decide +kernel
theorem dX5_keep_38 : decode cX5_keep 38 = .ok (.putfield 21, 3) := by decide +kernel
theorem dX5_keep_41 : decode cX5_keep 41 = .ok (.return_, 1) := by decide +kernel
theorem dX5_takeBack_0 : decode cX5_takeBack 0 = .ok (.aload_n 0, 1) := by decide +kernel
theorem dX5_takeBack_1 : decode cX5_takeBack 1 = .ok (.aload_n 0, 1) := by decide +kernel
theorem dX5_takeBack_2 : decode cX5_takeBack 2 = .ok (.getfield 28, 3) := by decide +kernel
theorem dX5_takeBack_5 : decode cX5_takeBack 5 = .ok (.bipush 16, 2) := by decide +kernel
theorem dX5_takeBack_7 : decode cX5_takeBack 7 = .ok (.iadd, 1) := by decide +kernel
theorem dX5_takeBack_8 : decode cX5_takeBack 8 = .ok (.iconst 1, 1) := by decide +kernel
theorem dX5_takeBack_9 : decode cX5_takeBack 9 = .ok (.isub, 1) := by decide +kernel
theorem dX5_takeBack_10 : decode cX5_takeBack 10 = .ok (.bipush 16, 2) := by decide +kernel
theorem dX5_takeBack_12 : decode cX5_takeBack 12 = .ok (.irem, 1) := by decide +kernel
theorem dX5_takeBack_13 : decode cX5_takeBack 13 = .ok (.putfield 28, 3) := by decide +kernel
theorem dX5_takeBack_16 : decode cX5_takeBack 16 = .ok (.aload_n 0, 1) := by decide +kernel
theorem dX5_takeBack_17 : decode cX5_takeBack 17 = .ok (.dup, 1) := by decide +kernel
theorem dX5_takeBack_18 : decode cX5_takeBack 18 = .ok (.getfield 21, 3) := by decide +kernel
theorem dX5_takeBack_21 : decode cX5_takeBack 21 = .ok (.iconst 1, 1) := by decide +kernel
theorem dX5_takeBack_22 : decode cX5_takeBack 22 = .ok (.isub, 1) := by decide +kernel
theorem dX5_takeBack_23 : decode cX5_takeBack 23 = .ok (.putfield 21, 3) := by decide +kernel
theorem dX5_takeBack_26 : decode cX5_takeBack 26 = .ok (.aload_n 1, 1) := by decide +kernel
theorem dX5_takeBack_27 : decode cX5_takeBack 27 = .ok (.aload_n 0, 1) := by decide +kernel
theorem dX5_takeBack_28 : decode cX5_takeBack 28 = .ok (.getfield 11, 3) := by decide +kernel
theorem dX5_takeBack_31 : decode cX5_takeBack 31 = .ok (.aload_n 0, 1) := by decide +kernel
theorem dX5_takeBack_32 : decode cX5_takeBack 32 = .ok (.getfield 28, 3) := by decide +kernel
theorem dX5_takeBack_35 : decode cX5_takeBack 35 = .ok (.aaload, 1) := by decide +kernel
theorem dX5_takeBack_36 : decode cX5_takeBack 36 = .ok (.invokevirtual 31, 3) := by decide +kernel
theorem dX5_takeBack_39 : decode cX5_takeBack 39 = .ok (.return_, 1) := by decide +kernel
theorem dX5_keepImage_0 : decode cX5_keepImage 0 = .ok (.aload_n 0, 1) := by decide +kernel
theorem dX5_keepImage_1 : decode cX5_keepImage 1 = .ok (.getfield 17, 3) := by decide +kernel
theorem dX5_keepImage_4 : decode cX5_keepImage 4 = .ok (.aload_n 0, 1) := by decide +kernel
theorem dX5_keepImage_5 : decode cX5_keepImage 5 = .ok (.getfield 25, 3) := by decide +kernel
theorem dX5_keepImage_8 : decode cX5_keepImage 8 = .ok (.aaload, 1) := by decide +kernel
theorem dX5_keepImage_9 : decode cX5_keepImage 9 = .ok (.aload_n 1, 1) := by decide +kernel
theorem dX5_keepImage_10 : decode cX5_keepImage 10 = .ok (.invokevirtual 31, 3) := by decide +kernel
theorem dX5_keepImage_13 : decode cX5_keepImage 13 = .ok (.aload_n 0, 1) := by decide +kernel
theorem dX5_keepImage_14 : decode cX5_keepImage 14 = .ok (.dup, 1) := by decide +kernel
theorem dX5_keepImage_15 : decode cX5_keepImage 15 = .ok (.getfield 25, 3) := by decide +kernel
theorem dX5_keepImage_18 : decode cX5_keepImage 18 = .ok (.iconst 1, 1) := by decide +kernel
theorem dX5_keepImage_19 : decode cX5_keepImage 19 = .ok (.iadd, 1) := by decide +kernel
theorem dX5_keepImage_20 : decode cX5_keepImage 20 = .ok (.putfield 25, 3) := by decide +kernel
theorem dX5_keepImage_23 : decode cX5_keepImage 23 = .ok (.aload_n 0, 1) := by decide +kernel
theorem dX5_keepImage_24 : decode cX5_keepImage 24 = .ok (.getfield 25, 3) := by decide +kernel
theorem dX5_keepImage_27 : decode cX5_keepImage 27 = .ok (.iconst 1, 1) := by decide +kernel
theorem dX5_keepImage_28 : decode cX5_keepImage 28 = .ok (.isub, 1) := by decide +kernel
theorem dX5_keepImage_29 : decode cX5_keepImage 29 = .ok (.ireturn, 1) := by decide +kernel
theorem dX5_goBack_0 : decode cX5_goBack 0 = .ok (.aload_n 1, 1) := by decide +kernel
theorem dX5_goBack_1 : decode cX5_goBack 1 = .ok (.aload_n 0, 1) := by decide +kernel
theorem dX5_goBack_2 : decode cX5_goBack 2 = .ok (.getfield 17, 3) := by decide +kernel
theorem dX5_goBack_5 : decode cX5_goBack 5 = .ok (.iload_n 2, 1) := by decide +kernel
theorem dX5_goBack_6 : decode cX5_goBack 6 = .ok (.aaload, 1) := by decide +kernel
theorem dX5_goBack_7 : decode cX5_goBack 7 = .ok (.invokevirtual 31, 3) := by decide +kernel
theorem dX5_goBack_10 : decode cX5_goBack 10 = .ok (.aload_n 0, 1) := by decide +kernel
theorem dX5_goBack_11 : decode cX5_goBack 11 = .ok (.iconst 0, 1) := by decide +kernel
theorem dX5_goBack_12 : decode cX5_goBack 12 = .ok (.putfield 21, 3) := by decide +kernel
theorem dX5_goBack_15 : decode cX5_goBack 15 = .ok (.return_, 1) := by decide +kernel
theorem dX6_init_0 : decode cX6_init 0 = .ok (.aload_n 0, 1) := by decide +kernel
theorem dX6_init_1 : decode cX6_init 1 = .ok (.invokespecial 3, 3) := by decide +kernel
theorem dX6_init_4 : decode cX6_init 4 = .ok (.return_, 1) := by decide +kernel
theorem dX6_read_0 : decode cX6_read 0 = .ok (.aload_n 0, 1) := by decide +kernel
theorem dX6_read_1 : decode cX6_read 1 = .ok (.aload_n 1, 1) := by decide +kernel
theorem dX6_read_2 : decode cX6_read 2 = .ok (.putfield 9, 3) := by decide +kernel
theorem dX6_read_5 : decode cX6_read 5 = .ok (.aload_n 0, 1) := by decide +kernel
theorem dX6_read_6 : decode cX6_read 6 = .ok (.iload_n 2, 1) := by decide +kernel
theorem dX6_read_7 : decode cX6_read 7 = .ok (.putfield 15, 3) := by decide +kernel
theorem dX6_read_10 : decode cX6_read 10 = .ok (.aload_n 0, 1) := by decide +kernel
theorem dX6_read_11 : decode cX6_read 11 = .ok (.aload_n 3, 1) := by decide +kernel
theorem dX6_read_12 : decode cX6_read 12 = .ok (.putfield 19, 3) := by decide +kernel
theorem dX6_read_15 : decode cX6_read 15 = .ok (.aload_n 0, 1) := by decide +kernel
theorem dX6_read_16 : decode cX6_read 16 = .ok (.getfield 19, 3) := by decide +kernel
theorem dX6_read_19 : decode cX6_read 19 = .ok (.invokevirtual 23, 3) := by decide +kernel
theorem dX6_read_22 : decode cX6_read 22 = .ok (.aload_n 0, 1) := by decide +kernel
theorem dX6_read_23 : decode cX6_read 23 = .ok (.iconst 0, 1) := by decide +kernel
theorem dX6_read_24 : decode cX6_read 24 = .ok (.putfield 28, 3) := by decide +kernel
theorem dX6_read_27 : decode cX6_read 27 = .ok (.aload_n 0, 1) := by decide +kernel
theorem dX6_read_28 : decode cX6_read 28 = .ok (.iconst 0, 1) := by decide +kernel
theorem dX6_read_29 : decode cX6_read 29 = .ok (.putfield 31, 3) := by decide +kernel
theorem dX6_read_32 : decode cX6_read 32 = .ok (.aload_n 0, 1) := by decide +kernel
theorem dX6_read_33 : decode cX6_read 33 = .ok (.iconst (-1), 1) := by decide +kernel
theorem dX6_read_34 : decode cX6_read 34 = .ok (.putfield 34, 3) := by decide +kernel
theorem dX6_read_37 : decode cX6_read 37 = .ok (.aload_n 0, 1) := by decide +kernel
theorem dX6_read_38 : decode cX6_read 38 = .ok (.invokevirtual 37, 3) := by decide +kernel
theorem dX6_read_41 : decode cX6_read 41 = .ok (.iconst 0, 1) := by decide +kernel
theorem dX6_read_42 : decode cX6_read 42 = .ok (.istore 4, 2) := by decide +kernel
theorem dX6_read_44 : decode cX6_read 44 = .ok (.iload 4, 2) := by decide +kernel
theorem dX6_read_46 : decode cX6_read 46 = .ok (.aload_n 0, 1) := by decide +kernel
theorem dX6_read_47 : decode cX6_read 47 = .ok (.getfield 15, 3) := by decide +kernel
theorem dX6_read_50 : decode cX6_read 50 = .ok (.if_icmp .gt 32, 3) := by decide +kernel
theorem dX6_read_53 : decode cX6_read 53 = .ok (.aload_n 0, 1) := by decide +kernel
theorem dX6_read_54 : decode cX6_read 54 = .ok (.invokevirtual 40, 3) := by decide +kernel
theorem dX6_read_57 : decode cX6_read 57 = .ok (.ifCond .ne 4, 3) := by decide +kernel
theorem dX6_read_60 : decode cX6_read 60 = .ok (.return_, 1) := by decide +kernel
theorem dX6_read_61 : decode cX6_read 61 = .ok (.aload_n 0, 1) := by decide +kernel
theorem dX6_read_62 : decode cX6_read 62 = .ok (.getfield 44, 3) := by decide +kernel
theorem dX6_read_65 : decode cX6_read 65 = .ok (.iconst 3, 1) := by decide +kernel
theorem dX6_read_66 : decode cX6_read 66 = .ok (.if_icmp .eq 6, 3) := by decide +kernel
theorem dX6_read_69 : decode cX6_read 69 = .ok (.goto 13, 3) := by decide +kernel
theorem dX6_read_72 : decode cX6_read 72 = .ok (.aload_n 0, 1) := by decide +kernel
theorem dX6_read_73 : decode cX6_read 73 = .ok (.invokevirtual 37, 3) := by decide +kernel
theorem dX6_read_76 : decode cX6_read 76 = .ok (.iinc 4 1, 3) := by decide +kernel
theorem dX6_read_79 : decode cX6_read 79 = .ok (.goto (-35), 3) := by decide +kernel
theorem dX6_read_82 : decode cX6_read 82 = .ok (.aload_n 0, 1) := by decide +kernel
theorem dX6_read_83 : decode cX6_read 83 = .ok (.getfield 44, 3) := by decide +kernel
theorem dX6_read_86 : decode cX6_read 86 = .ok (.ifCond .eq 12, 3) := by decide +kernel
theorem dX6_read_89 : decode cX6_read 89 = .ok (.aload_n 0, 1) := by decide +kernel
theorem dX6_read_90 : decode cX6_read 90 = .ok (.iconst 1, 1) := by decide +kernel
theorem dX6_read_91 : decode cX6_read 91 = .ok (.invokevirtual 47, 3) := by decide +kernel
theorem dX6_read_94 : decode cX6_read 94 = .ok (.pop, 1) := by decide +kernel
theorem dX6_read_95 : decode cX6_read 95 = .ok (.goto 23, 3) := by decide +kernel
theorem dX6_read_98 : decode cX6_read 98 = .ok (.aload_n 0, 1) := by decide +kernel
theorem dX6_read_99 : decode cX6_read 99 = .ok (.getfield 19, 3) := by decide +kernel
theorem dX6_read_102 : decode cX6_read 102 = .ok (.getfield 51, 3) := by decide +kernel
theorem dX6_read_105 : decode cX6_read 105 = .ok (.getfield 55, 3) := by decide +kernel
theorem dX6_read_108 : decode cX6_read 108 = .ok (.ifCond .ne 10, 3) := by decide +kernel
theorem dX6_read_111 : decode cX6_read 111 = .ok (.aload_n 0, 1) := by decide +kernel
theorem dX6_read_112 : decode cX6_read 112 = .ok (.bipush 6, 2) := by decide +kernel
theorem dX6_read_114 : decode cX6_read 114 = .ok (.invokevirtual 47, 3) := by decide +kernel
theorem dX6_read_117 : decode cX6_read 117 = .ok (.pop, 1) := by decide +kernel
theorem dX6_read_118 : decode cX6_read 118 = .ok (.return_, 1) := by decide +kernel
theorem dX6_fail_0 : decode cX6_fail 0 = .ok (.aload_n 0, 1) := by decide +kernel
theorem dX6_fail_1 : decode cX6_fail 1 = .ok (.iload_n 1, 1) := by decide +kernel
theorem dX6_fail_2 : decode cX6_fail 2 = .ok (.putfield 31, 3) := by decide +kernel
theorem dX6_fail_5 : decode cX6_fail 5 = .ok (.aload_n 0, 1) := by decide +kernel
theorem dX6_fail_6 : decode cX6_fail 6 = .ok (.aload_n 0, 1) := by decide +kernel
theorem dX6_fail_7 : decode cX6_fail 7 = .ok (.getfield 60, 3) := by decide +kernel
theorem dX6_fail_10 : decode cX6_fail 10 = .ok (.putfield 34, 3) := by decide +kernel
theorem dX6_fail_13 : decode cX6_fail 13 = .ok (.iconst 0, 1) := by decide +kernel
theorem dX6_fail_14 : decode cX6_fail 14 = .ok (.ireturn, 1) := by decide +kernel
theorem dX6_advance_0 : decode cX6_advance 0 = .ok (.aload_n 0, 1) := by decide +kernel
theorem dX6_advance_1 : decode cX6_advance 1 = .ok (.getfield 28, 3) := by decide +kernel
theorem dX6_advance_4 : decode cX6_advance 4 = .ok (.aload_n 0, 1) := by decide +kernel
theorem dX6_advance_5 : decode cX6_advance 5 = .ok (.getfield 15, 3) := by decide +kernel
theorem dX6_advance_8 : decode cX6_advance 8 = .ok (.if_icmp .ge 30, 3) := by decide +kernel
theorem dX6_advance_11 : decode cX6_advance 11 = .ok (.aload_n 0, 1) := by decide +kernel
theorem dX6_advance_12 : decode cX6_advance 12 = .ok (.getfield 9, 3) := by decide +kernel
theorem dX6_advance_15 : decode cX6_advance 15 = .ok (.aload_n 0, 1) := by decide +kernel
theorem dX6_advance_16 : decode cX6_advance 16 = .ok (.getfield 28, 3) := by decide +kernel
theorem dX6_advance_19 : decode cX6_advance 19 = .ok (.baload, 1) := by decide +kernel
theorem dX6_advance_20 : decode cX6_advance 20 = .ok (.bipush 32, 2) := by decide +kernel
theorem dX6_advance_22 : decode cX6_advance 22 = .ok (.if_icmp .ne 16, 3) := by decide +kernel
theorem dX6_advance_25 : decode cX6_advance 25 = .ok (.aload_n 0, 1) := by decide +kernel
theorem dX6_advance_26 : decode cX6_advance 26 = .ok (.dup, 1) := by decide +kernel
theorem dX6_advance_27 : decode cX6_advance 27 = .ok (.getfield 28, 3) := by decide +kernel
theorem dX6_advance_30 : decode cX6_advance 30 = .ok (.iconst 1, 1) := by decide +kernel
theorem dX6_advance_31 : decode cX6_advance 31 = .ok (.iadd, 1) := by decide +kernel
theorem dX6_advance_32 : decode cX6_advance 32 = .ok (.putfield 28, 3) := by decide +kernel
theorem dX6_advance_35 : decode cX6_advance 35 = .ok (.goto (-35), 3) := by decide +kernel
theorem dX6_advance_38 : decode cX6_advance 38 = .ok (.aload_n 0, 1) := by decide +kernel
theorem dX6_advance_39 : decode cX6_advance 39 = .ok (.aload_n 0, 1) := by decide +kernel
theorem dX6_advance_40 : decode cX6_advance 40 = .ok (.getfield 28, 3) := by decide +kernel
theorem dX6_advance_43 : decode cX6_advance 43 = .ok (.putfield 60, 3) := by decide +kernel
theorem dX6_advance_46 : decode cX6_advance 46 = .ok (.aload_n 0, 1) := by decide +kernel
theorem dX6_advance_47 : decode cX6_advance 47 = .ok (.getfield 28, 3) := by decide +kernel
theorem dX6_advance_50 : decode cX6_advance 50 = .ok (.aload_n 0, 1) := by decide +kernel
theorem dX6_advance_51 : decode cX6_advance 51 = .ok (.getfield 15, 3) := by decide +kernel
theorem dX6_advance_54 : decode cX6_advance 54 = .ok (.if_icmp .lt 11, 3) := by decide +kernel
theorem dX6_advance_57 : decode cX6_advance 57 = .ok (.aload_n 0, 1) := by decide +kernel
theorem dX6_advance_58 : decode cX6_advance 58 = .ok (.iconst 0, 1) := by decide +kernel
theorem dX6_advance_59 : decode cX6_advance 59 = .ok (.putfield 44, 3) := by decide +kernel
theorem dX6_advance_62 : decode cX6_advance 62 = .ok (.goto 80, 3) := by decide +kernel
theorem dX6_advance_65 : decode cX6_advance 65 = .ok (.aload_n 0, 1) := by decide +kernel
theorem dX6_advance_66 : decode cX6_advance 66 = .ok (.getfield 9, 3) := by decide +kernel
theorem dX6_advance_69 : decode cX6_advance 69 = .ok (.aload_n 0, 1) := by decide +kernel
theorem dX6_advance_70 : decode cX6_advance 70 = .ok (.getfield 28, 3) := by decide +kernel
theorem dX6_advance_73 : decode cX6_advance 73 = .ok (.baload, 1) := by decide +kernel
theorem dX6_advance_74 : decode cX6_advance 74 = .ok (.invokestatic 63, 3) := by decide +kernel
theorem dX6_advance_77 : decode cX6_advance 77 = .ok (.ifCond .eq 10, 3) := by decide +kernel
theorem dX6_advance_80 : decode cX6_advance 80 = .ok (.aload_n 0, 1) := by decide +kernel
theorem dX6_advance_81 : decode cX6_advance 81 = .ok (.invokevirtual 67, 3) := by decide +kernel
theorem dX6_advance_84 : decode cX6_advance 84 = .ok (.goto 58, 3) := by decide +kernel
theorem dX6_advance_87 : decode cX6_advance 87 = .ok (.aload_n 0, 1) := by decide +kernel
theorem dX6_advance_88 : decode cX6_advance 88 = .ok (.getfield 9, 3) := by decide +kernel
theorem dX6_advance_91 : decode cX6_advance 91 = .ok (.aload_n 0, 1) := by decide +kernel
theorem dX6_advance_92 : decode cX6_advance 92 = .ok (.getfield 28, 3) := by decide +kernel
theorem dX6_advance_95 : decode cX6_advance 95 = .ok (.baload, 1) := by decide +kernel
theorem dX6_advance_96 : decode cX6_advance 96 = .ok (.invokestatic 70, 3) := by decide +kernel
theorem dX6_advance_99 : decode cX6_advance 99 = .ok (.ifCond .eq 10, 3) := by decide +kernel
theorem dX6_advance_102 : decode cX6_advance 102 = .ok (.aload_n 0, 1) := by decide +kernel
theorem dX6_advance_103 : decode cX6_advance 103 = .ok (.invokevirtual 73, 3) := by decide +kernel
theorem dX6_advance_106 : decode cX6_advance 106 = .ok (.goto 36, 3) := by decide +kernel
theorem dX6_advance_109 : decode cX6_advance 109 = .ok (.aload_n 0, 1) := by decide +kernel
theorem dX6_advance_110 : decode cX6_advance 110 = .ok (.aload_n 0, 1) := by decide +kernel
theorem dX6_advance_111 : decode cX6_advance 111 = .ok (.getfield 9, 3) := by decide +kernel
theorem dX6_advance_114 : decode cX6_advance 114 = .ok (.aload_n 0, 1) := by decide +kernel
theorem dX6_advance_115 : decode cX6_advance 115 = .ok (.getfield 28, 3) := by decide +kernel
theorem dX6_advance_118 : decode cX6_advance 118 = .ok (.baload, 1) := by decide +kernel
theorem dX6_advance_119 : decode cX6_advance 119 = .ok (.bipush 59, 2) := by decide +kernel
theorem dX6_advance_121 : decode cX6_advance 121 = .ok (.if_icmp .ne 7, 3) := by decide +kernel
theorem dX6_advance_124 : decode cX6_advance 124 = .ok (.iconst 3, 1) := by decide +kernel
theorem dX6_advance_125 : decode cX6_advance 125 = .ok (.goto 4, 3) := by decide +kernel
theorem dX6_advance_128 : decode cX6_advance 128 = .ok (.iconst 4, 1) := by decide +kernel
theorem dX6_advance_129 : decode cX6_advance 129 = .ok (.putfield 44, 3) := by decide +kernel
theorem dX6_advance_132 : decode cX6_advance 132 = .ok (.aload_n 0, 1) := by decide +kernel
theorem dX6_advance_133 : decode cX6_advance 133 = .ok (.dup, 1) := by decide +kernel
theorem dX6_advance_134 : decode cX6_advance 134 = .ok (.getfield 28, 3) := by decide +kernel
theorem dX6_advance_137 : decode cX6_advance 137 = .ok (.iconst 1, 1) := by decide +kernel
theorem dX6_advance_138 : decode cX6_advance 138 = .ok (.iadd, 1) := by decide +kernel
theorem dX6_advance_139 : decode cX6_advance 139 = .ok (.putfield 28, 3) := by decide +kernel
theorem dX6_advance_142 : decode cX6_advance 142 = .ok (.return_, 1) := by decide +kernel
theorem dX6_advanceWord_0 : decode cX6_advanceWord 0 = .ok (.aload_n 0, 1) := by decide +kernel
theorem dX6_advanceWord_1 : decode cX6_advanceWord 1 = .ok (.lconst 0, 1) := by decide +kernel
theorem dX6_advanceWord_2 : decode cX6_advanceWord 2 = .ok (.putfield 76, 3) := by decide +kernel
theorem dX6_advanceWord_5 : decode cX6_advanceWord 5 = .ok (.aload_n 0, 1) := by decide +kernel
theorem dX6_advanceWord_6 : decode cX6_advanceWord 6 = .ok (.getfield 28, 3) := by decide +kernel
theorem dX6_advanceWord_9 : decode cX6_advanceWord 9 = .ok (.aload_n 0, 1) := by decide +kernel
theorem dX6_advanceWord_10 : decode cX6_advanceWord 10 = .ok (.getfield 15, 3) := by decide +kernel
theorem dX6_advanceWord_13 : decode cX6_advanceWord 13 = .ok (.if_icmp .ge 57, 3) := by decide +kernel
theorem dX6_advanceWord_16 : decode cX6_advanceWord 16 = .ok (.aload_n 0, 1) := by decide +kernel
theorem dX6_advanceWord_17 : decode cX6_advanceWord 17 = .ok (.getfield 9, 3) := by decide +kernel
theorem dX6_advanceWord_20 : decode cX6_advanceWord 20 = .ok (.aload_n 0, 1) := by decide +kernel
theorem dX6_advanceWord_21 : decode cX6_advanceWord 21 = .ok (.getfield 28, 3) := by decide +kernel
theorem dX6_advanceWord_24 : decode cX6_advanceWord 24 = .ok (.baload, 1) := by decide +kernel
theorem dX6_advanceWord_25 : decode cX6_advanceWord 25 = .ok (.invokestatic 63, 3) := by decide +kernel
theorem dX6_advanceWord_28 : decode cX6_advanceWord 28 = .ok (.ifCond .eq 42, 3) := by decide +kernel
theorem dX6_advanceWord_31 : decode cX6_advanceWord 31 = .ok (.aload_n 0, 1) := by decide +kernel
theorem dX6_advanceWord_32 : decode cX6_advanceWord 32 = .ok (.aload_n 0, 1) := by decide +kernel
theorem dX6_advanceWord_33 : decode cX6_advanceWord 33 = .ok (.getfield 76, 3) := by decide +kernel
theorem dX6_advanceWord_36 : decode cX6_advanceWord 36 = .ok (.iconst 5, 1) := by decide +kernel
theorem dX6_advanceWord_37 : decode cX6_advanceWord 37 = .ok (.lshl, 1) := by decide +kernel
theorem dX6_advanceWord_38 : decode cX6_advanceWord 38 = .ok (.aload_n 0, 1) := by decide +kernel
theorem dX6_advanceWord_39 : decode cX6_advanceWord 39 = .ok (.getfield 9, 3) := by decide +kernel
theorem dX6_advanceWord_42 : decode cX6_advanceWord 42 = .ok (.aload_n 0, 1) := by decide +kernel
theorem dX6_advanceWord_43 : decode cX6_advanceWord 43 = .ok (.getfield 28, 3) := by decide +kernel
theorem dX6_advanceWord_46 : decode cX6_advanceWord 46 = .ok (.baload, 1) := by decide +kernel
theorem dX6_advanceWord_47 : decode cX6_advanceWord 47 = .ok (.bipush 97, 2) := by decide +kernel
theorem dX6_advanceWord_49 : decode cX6_advanceWord 49 = .ok (.isub, 1) := by decide +kernel
theorem dX6_advanceWord_50 : decode cX6_advanceWord 50 = .ok (.iconst 1, 1) := by decide +kernel
theorem dX6_advanceWord_51 : decode cX6_advanceWord 51 = .ok (.iadd, 1) := by decide +kernel
theorem dX6_advanceWord_52 : decode cX6_advanceWord 52 = .ok (.i2l, 1) := by decide +kernel
theorem dX6_advanceWord_53 : decode cX6_advanceWord 53 = .ok (.lor, 1) := by decide +kernel
theorem dX6_advanceWord_54 : decode cX6_advanceWord 54 = .ok (.putfield 76, 3) := by decide +kernel
theorem dX6_advanceWord_57 : decode cX6_advanceWord 57 = .ok (.aload_n 0, 1) := by decide +kernel
theorem dX6_advanceWord_58 : decode cX6_advanceWord 58 = .ok (.dup, 1) := by decide +kernel
theorem dX6_advanceWord_59 : decode cX6_advanceWord 59 = .ok (.getfield 28, 3) := by decide +kernel
theorem dX6_advanceWord_62 : decode cX6_advanceWord 62 = .ok (.iconst 1, 1) := by decide +kernel
theorem dX6_advanceWord_63 : decode cX6_advanceWord 63 = .ok (.iadd, 1) := by decide +kernel
theorem dX6_advanceWord_64 : decode cX6_advanceWord 64 = .ok (.putfield 28, 3) := by decide +kernel
theorem dX6_advanceWord_67 : decode cX6_advanceWord 67 = .ok (.goto (-62), 3) := by decide +kernel
theorem dX6_advanceWord_70 : decode cX6_advanceWord 70 = .ok (.aload_n 0, 1) := by decide +kernel
theorem dX6_advanceWord_71 : decode cX6_advanceWord 71 = .ok (.aload_n 0, 1) := by decide +kernel
theorem dX6_advanceWord_72 : decode cX6_advanceWord 72 = .ok (.getfield 28, 3) := by decide +kernel
theorem dX6_advanceWord_75 : decode cX6_advanceWord 75 = .ok (.aload_n 0, 1) := by decide +kernel
theorem dX6_advanceWord_76 : decode cX6_advanceWord 76 = .ok (.getfield 60, 3) := by decide +kernel
theorem dX6_advanceWord_79 : decode cX6_advanceWord 79 = .ok (.isub, 1) := by decide +kernel
theorem dX6_advanceWord_80 : decode cX6_advanceWord 80 = .ok (.bipush 8, 2) := by decide +kernel
theorem dX6_advanceWord_82 : decode cX6_advanceWord 82 = .ok (.if_icmp .gt 7, 3) := by decide +kernel
theorem dX6_advanceWord_85 : decode cX6_advanceWord 85 = .ok (.iconst 1, 1) := by decide +kernel
theorem dX6_advanceWord_86 : decode cX6_advanceWord 86 = .ok (.goto 4, 3) := by decide +kernel
theorem dX6_advanceWord_89 : decode cX6_advanceWord 89 = .ok (.iconst 4, 1) := by decide +kernel
theorem dX6_advanceWord_90 : decode cX6_advanceWord 90 = .ok (.putfield 44, 3) := by decide +kernel
theorem dX6_advanceWord_93 : decode cX6_advanceWord 93 = .ok (.return_, 1) := by decide +kernel
theorem dX6_advanceWhole_0 : decode cX6_advanceWhole 0 = .ok (.aload_n 0, 1) := by decide +kernel
theorem dX6_advanceWhole_1 : decode cX6_advanceWhole 1 = .ok (.iconst 0, 1) := by decide +kernel
theorem dX6_advanceWhole_2 : decode cX6_advanceWhole 2 = .ok (.putfield 80, 3) := by decide +kernel
theorem dX6_advanceWhole_5 : decode cX6_advanceWhole 5 = .ok (.aload_n 0, 1) := by decide +kernel
theorem dX6_advanceWhole_6 : decode cX6_advanceWhole 6 = .ok (.getfield 28, 3) := by decide +kernel
theorem dX6_advanceWhole_9 : decode cX6_advanceWhole 9 = .ok (.aload_n 0, 1) := by decide +kernel
theorem dX6_advanceWhole_10 : decode cX6_advanceWhole 10 = .ok (.getfield 15, 3) := by decide +kernel
theorem dX6_advanceWhole_13 : decode cX6_advanceWhole 13 = .ok (.if_icmp .ge 55, 3) := by decide +kernel
theorem dX6_advanceWhole_16 : decode cX6_advanceWhole 16 = .ok (.aload_n 0, 1) := by decide +kernel
theorem dX6_advanceWhole_17 : decode cX6_advanceWhole 17 = .ok (.getfield 9, 3) := by decide +kernel
theorem dX6_advanceWhole_20 : decode cX6_advanceWhole 20 = .ok (.aload_n 0, 1) := by decide +kernel
theorem dX6_advanceWhole_21 : decode cX6_advanceWhole 21 = .ok (.getfield 28, 3) := by decide +kernel
theorem dX6_advanceWhole_24 : decode cX6_advanceWhole 24 = .ok (.baload, 1) := by decide +kernel
theorem dX6_advanceWhole_25 : decode cX6_advanceWhole 25 = .ok (.invokestatic 70, 3) := by decide +kernel
theorem dX6_advanceWhole_28 : decode cX6_advanceWhole 28 = .ok (.ifCond .eq 40, 3) := by decide +kernel
theorem dX6_advanceWhole_31 : decode cX6_advanceWhole 31 = .ok (.aload_n 0, 1) := by decide +kernel
theorem dX6_advanceWhole_32 : decode cX6_advanceWhole 32 = .ok (.bipush 10, 2) := by decide +kernel
theorem dX6_advanceWhole_34 : decode cX6_advanceWhole 34 = .ok (.aload_n 0, 1) := by decide +kernel
theorem dX6_advanceWhole_35 : decode cX6_advanceWhole 35 = .ok (.getfield 80, 3) := by decide +kernel
theorem dX6_advanceWhole_38 : decode cX6_advanceWhole 38 = .ok (.imul, 1) := by decide +kernel
theorem dX6_advanceWhole_39 : decode cX6_advanceWhole 39 = .ok (.aload_n 0, 1) := by decide +kernel
theorem dX6_advanceWhole_40 : decode cX6_advanceWhole 40 = .ok (.getfield 9, 3) := by decide +kernel
theorem dX6_advanceWhole_43 : decode cX6_advanceWhole 43 = .ok (.aload_n 0, 1) := by decide +kernel
theorem dX6_advanceWhole_44 : decode cX6_advanceWhole 44 = .ok (.getfield 28, 3) := by decide +kernel
theorem dX6_advanceWhole_47 : decode cX6_advanceWhole 47 = .ok (.baload, 1) := by decide +kernel
theorem dX6_advanceWhole_48 : decode cX6_advanceWhole 48 = .ok (.bipush 48, 2) := by decide +kernel
theorem dX6_advanceWhole_50 : decode cX6_advanceWhole 50 = .ok (.isub, 1) := by decide +kernel
theorem dX6_advanceWhole_51 : decode cX6_advanceWhole 51 = .ok (.iadd, 1) := by decide +kernel
theorem dX6_advanceWhole_52 : decode cX6_advanceWhole 52 = .ok (.putfield 80, 3) := by decide +kernel
theorem dX6_advanceWhole_55 : decode cX6_advanceWhole 55 = .ok (.aload_n 0, 1) := by decide +kernel
theorem dX6_advanceWhole_56 : decode cX6_advanceWhole 56 = .ok (.dup, 1) := by decide +kernel
theorem dX6_advanceWhole_57 : decode cX6_advanceWhole 57 = .ok (.getfield 28, 3) := by decide +kernel
theorem dX6_advanceWhole_60 : decode cX6_advanceWhole 60 = .ok (.iconst 1, 1) := by decide +kernel
theorem dX6_advanceWhole_61 : decode cX6_advanceWhole 61 = .ok (.iadd, 1) := by decide +kernel
theorem dX6_advanceWhole_62 : decode cX6_advanceWhole 62 = .ok (.putfield 28, 3) := by decide +kernel
theorem dX6_advanceWhole_65 : decode cX6_advanceWhole 65 = .ok (.goto (-60), 3) := by decide +kernel
theorem dX6_advanceWhole_68 : decode cX6_advanceWhole 68 = .ok (.aload_n 0, 1) := by decide +kernel
theorem dX6_advanceWhole_69 : decode cX6_advanceWhole 69 = .ok (.aload_n 0, 1) := by decide +kernel
theorem dX6_advanceWhole_70 : decode cX6_advanceWhole 70 = .ok (.getfield 28, 3) := by decide +kernel
theorem dX6_advanceWhole_73 : decode cX6_advanceWhole 73 = .ok (.aload_n 0, 1) := by decide +kernel
theorem dX6_advanceWhole_74 : decode cX6_advanceWhole 74 = .ok (.getfield 60, 3) := by decide +kernel
theorem dX6_advanceWhole_77 : decode cX6_advanceWhole 77 = .ok (.isub, 1) := by decide +kernel
theorem dX6_advanceWhole_78 : decode cX6_advanceWhole 78 = .ok (.iconst 3, 1) := by decide +kernel
theorem dX6_advanceWhole_79 : decode cX6_advanceWhole 79 = .ok (.if_icmp .gt 7, 3) := by decide +kernel
theorem dX6_advanceWhole_82 : decode cX6_advanceWhole 82 = .ok (.iconst 2, 1) := by decide +kernel
theorem dX6_advanceWhole_83 : decode cX6_advanceWhole 83 = .ok (.goto 4, 3) := by decide +kernel
theorem dX6_advanceWhole_86 : decode cX6_advanceWhole 86 = .ok (.iconst 4, 1) := by decide +kernel
theorem dX6_advanceWhole_87 : decode cX6_advanceWhole 87 = .ok (.putfield 44, 3) := by decide +kernel
theorem dX6_advanceWhole_90 : decode cX6_advanceWhole 90 = .ok (.return_, 1) := by decide +kernel
theorem dX6_isLetter_0 : decode cX6_isLetter 0 = .ok (.iload_n 0, 1) := by decide +kernel
theorem dX6_isLetter_1 : decode cX6_isLetter 1 = .ok (.bipush 97, 2) := by decide +kernel
theorem dX6_isLetter_3 : decode cX6_isLetter 3 = .ok (.if_icmp .lt 13, 3) := by decide +kernel
theorem dX6_isLetter_6 : decode cX6_isLetter 6 = .ok (.iload_n 0, 1) := by decide +kernel
theorem dX6_isLetter_7 : decode cX6_isLetter 7 = .ok (.bipush 122, 2) := by decide +kernel
theorem dX6_isLetter_9 : decode cX6_isLetter 9 = .ok (.if_icmp .gt 7, 3) := by decide +kernel
theorem dX6_isLetter_12 : decode cX6_isLetter 12 = .ok (.iconst 1, 1) := by decide +kernel
theorem dX6_isLetter_13 : decode cX6_isLetter 13 = .ok (.goto 4, 3) := by decide +kernel
theorem dX6_isLetter_16 : decode cX6_isLetter 16 = .ok (.iconst 0, 1) := by decide +kernel
theorem dX6_isLetter_17 : decode cX6_isLetter 17 = .ok (.ireturn, 1) := by decide +kernel
theorem dX6_isDigit_0 : decode cX6_isDigit 0 = .ok (.iload_n 0, 1) := by decide +kernel
theorem dX6_isDigit_1 : decode cX6_isDigit 1 = .ok (.bipush 48, 2) := by decide +kernel
theorem dX6_isDigit_3 : decode cX6_isDigit 3 = .ok (.if_icmp .lt 13, 3) := by decide +kernel
theorem dX6_isDigit_6 : decode cX6_isDigit 6 = .ok (.iload_n 0, 1) := by decide +kernel
theorem dX6_isDigit_7 : decode cX6_isDigit 7 = .ok (.bipush 57, 2) := by decide +kernel
theorem dX6_isDigit_9 : decode cX6_isDigit 9 = .ok (.if_icmp .gt 7, 3) := by decide +kernel
theorem dX6_isDigit_12 : decode cX6_isDigit 12 = .ok (.iconst 1, 1) := by decide +kernel
theorem dX6_isDigit_13 : decode cX6_isDigit 13 = .ok (.goto 4, 3) := by decide +kernel
theorem dX6_isDigit_16 : decode cX6_isDigit 16 = .ok (.iconst 0, 1) := by decide +kernel
theorem dX6_isDigit_17 : decode cX6_isDigit 17 = .ok (.ireturn, 1) := by decide +kernel
theorem dX6_spells_0 : decode cX6_spells 0 = .ok (.aload_n 0, 1) := by decide +kernel
theorem dX6_spells_1 : decode cX6_spells 1 = .ok (.getfield 44, 3) := by decide +kernel
theorem dX6_spells_4 : decode cX6_spells 4 = .ok (.iconst 1, 1) := by decide +kernel
theorem dX6_spells_5 : decode cX6_spells 5 = .ok (.if_icmp .ne 19, 3) := by decide +kernel
theorem dX6_spells_8 : decode cX6_spells 8 = .ok (.aload_n 0, 1) := by decide +kernel
theorem dX6_spells_9 : decode cX6_spells 9 = .ok (.getfield 28, 3) := by decide +kernel
theorem dX6_spells_12 : decode cX6_spells 12 = .ok (.aload_n 0, 1) := by decide +kernel
theorem dX6_spells_13 : decode cX6_spells 13 = .ok (.getfield 60, 3) := by decide +kernel
theorem dX6_spells_16 : decode cX6_spells 16 = .ok (.isub, 1) := by decide +kernel
theorem dX6_spells_17 : decode cX6_spells 17 = .ok (.aload_n 1, 1) := by decide +kernel
theorem dX6_spells_18 : decode cX6_spells 18 = .ok (.invokevirtual 83, 3) := by decide +kernel
theorem dX6_spells_21 : decode cX6_spells 21 = .ok (.if_icmp .eq 5, 3) := by decide +kernel
theorem dX6_spells_24 : decode cX6_spells 24 = .ok (.iconst 0, 1) := by decide +kernel
theorem dX6_spells_25 : decode cX6_spells 25 = .ok (.ireturn, 1) := by decide +kernel
theorem dX6_spells_26 : decode cX6_spells 26 = .ok (.iconst 0, 1) := by decide +kernel
theorem dX6_spells_27 : decode cX6_spells 27 = .ok (.istore_n 2, 1) := by decide +kernel
theorem dX6_spells_28 : decode cX6_spells 28 = .ok (.iload_n 2, 1) := by decide +kernel
theorem dX6_spells_29 : decode cX6_spells 29 = .ok (.aload_n 1, 1) := by decide +kernel
theorem dX6_spells_30 : decode cX6_spells 30 = .ok (.invokevirtual 83, 3) := by decide +kernel
theorem dX6_spells_33 : decode cX6_spells 33 = .ok (.if_icmp .ge 30, 3) := by decide +kernel
theorem dX6_spells_36 : decode cX6_spells 36 = .ok (.aload_n 0, 1) := by decide +kernel
theorem dX6_spells_37 : decode cX6_spells 37 = .ok (.getfield 9, 3) := by decide +kernel
theorem dX6_spells_40 : decode cX6_spells 40 = .ok (.aload_n 0, 1) := by decide +kernel
theorem dX6_spells_41 : decode cX6_spells 41 = .ok (.getfield 60, 3) := by decide +kernel
theorem dX6_spells_44 : decode cX6_spells 44 = .ok (.iload_n 2, 1) := by decide +kernel
theorem dX6_spells_45 : decode cX6_spells 45 = .ok (.iadd, 1) := by decide +kernel
theorem dX6_spells_46 : decode cX6_spells 46 = .ok (.baload, 1) := by decide +kernel
theorem dX6_spells_47 : decode cX6_spells 47 = .ok (.aload_n 1, 1) := by decide +kernel
theorem dX6_spells_48 : decode cX6_spells 48 = .ok (.iload_n 2, 1) := by decide +kernel
theorem dX6_spells_49 : decode cX6_spells 49 = .ok (.invokevirtual 88, 3) := by decide +kernel
theorem dX6_spells_52 : decode cX6_spells 52 = .ok (.if_icmp .eq 5, 3) := by decide +kernel
theorem dX6_spells_55 : decode cX6_spells 55 = .ok (.iconst 0, 1) := by decide +kernel
theorem dX6_spells_56 : decode cX6_spells 56 = .ok (.ireturn, 1) := by decide +kernel
theorem dX6_spells_57 : decode cX6_spells 57 = .ok (.iinc 2 1, 3) := by decide +kernel
theorem dX6_spells_60 : decode cX6_spells 60 = .ok (.goto (-32), 3) := by decide +kernel
theorem dX6_spells_63 : decode cX6_spells 63 = .ok (.iconst 1, 1) := by decide +kernel
theorem dX6_spells_64 : decode cX6_spells 64 = .ok (.ireturn, 1) := by decide +kernel
theorem dX6_isReserved_0 : decode cX6_isReserved 0 = .ok (.aload_n 0, 1) := by decide +kernel
theorem dX6_isReserved_1 : decode cX6_isReserved 1 = .ok (.ldc 92, 2) := by decide +kernel
theorem dX6_isReserved_3 : decode cX6_isReserved 3 = .ok (.invokevirtual 94, 3) := by decide +kernel
theorem dX6_isReserved_6 : decode cX6_isReserved 6 = .ok (.ifCond .ne 75, 3) := by decide +kernel
theorem dX6_isReserved_9 : decode cX6_isReserved 9 = .ok (.aload_n 0, 1) := by decide +kernel
theorem dX6_isReserved_10 : decode cX6_isReserved 10 = .ok (.ldc 98, 2) := by decide +kernel
theorem dX6_isReserved_12 : decode cX6_isReserved 12 = .ok (.invokevirtual 94, 3) := by decide +kernel
theorem dX6_isReserved_15 : decode cX6_isReserved 15 = .ok (.ifCond .ne 66, 3) := by decide +kernel
theorem dX6_isReserved_18 : decode cX6_isReserved 18 = .ok (.aload_n 0, 1) := by decide +kernel
theorem dX6_isReserved_19 : decode cX6_isReserved 19 = .ok (.ldc 100, 2) := by decide +kernel
theorem dX6_isReserved_21 : decode cX6_isReserved 21 = .ok (.invokevirtual 94, 3) := by decide +kernel
theorem dX6_isReserved_24 : decode cX6_isReserved 24 = .ok (.ifCond .ne 57, 3) := by decide +kernel
theorem dX6_isReserved_27 : decode cX6_isReserved 27 = .ok (.aload_n 0, 1) := by decide +kernel
theorem dX6_isReserved_28 : decode cX6_isReserved 28 = .ok (.ldc 102, 2) := by decide +kernel
theorem dX6_isReserved_30 : decode cX6_isReserved 30 = .ok (.invokevirtual 94, 3) := by decide +kernel
theorem dX6_isReserved_33 : decode cX6_isReserved 33 = .ok (.ifCond .ne 48, 3) := by decide +kernel
theorem dX6_isReserved_36 : decode cX6_isReserved 36 = .ok (.aload_n 0, 1) := by decide +kernel
theorem dX6_isReserved_37 : decode cX6_isReserved 37 = .ok (.ldc 104, 2) := by decide +kernel
theorem dX6_isReserved_39 : decode cX6_isReserved 39 = .ok (.invokevirtual 94, 3) := by decide +kernel
theorem dX6_isReserved_42 : decode cX6_isReserved 42 = .ok (.ifCond .ne 39, 3) := by decide +kernel
theorem dX6_isReserved_45 : decode cX6_isReserved 45 = .ok (.aload_n 0, 1) := by decide +kernel
theorem dX6_isReserved_46 : decode cX6_isReserved 46 = .ok (.ldc 106, 2) := by decide +kernel
theorem dX6_isReserved_48 : decode cX6_isReserved 48 = .ok (.invokevirtual 94, 3) := by decide +kernel
theorem dX6_isReserved_51 : decode cX6_isReserved 51 = .ok (.ifCond .ne 30, 3) := by decide +kernel
theorem dX6_isReserved_54 : decode cX6_isReserved 54 = .ok (.aload_n 0, 1) := by decide +kernel
theorem dX6_isReserved_55 : decode cX6_isReserved 55 = .ok (.ldc 108, 2) := by decide +kernel
theorem dX6_isReserved_57 : decode cX6_isReserved 57 = .ok (.invokevirtual 94, 3) := by decide +kernel
theorem dX6_isReserved_60 : decode cX6_isReserved 60 = .ok (.ifCond .ne 21, 3) := by decide +kernel
theorem dX6_isReserved_63 : decode cX6_isReserved 63 = .ok (.aload_n 0, 1) := by decide +kernel
theorem dX6_isReserved_64 : decode cX6_isReserved 64 = .ok (.ldc 110, 2) := by decide +kernel
theorem dX6_isReserved_66 : decode cX6_isReserved 66 = .ok (.invokevirtual 94, 3) := by decide +kernel
theorem dX6_isReserved_69 : decode cX6_isReserved 69 = .ok (.ifCond .ne 12, 3) := by decide +kernel
theorem dX6_isReserved_72 : decode cX6_isReserved 72 = .ok (.aload_n 0, 1) := by decide +kernel
theorem dX6_isReserved_73 : decode cX6_isReserved 73 = .ok (.ldc 112, 2) := by decide +kernel
theorem dX6_isReserved_75 : decode cX6_isReserved 75 = .ok (.invokevirtual 94, 3) := by decide +kernel
theorem dX6_isReserved_78 : decode cX6_isReserved 78 = .ok (.ifCond .eq 7, 3) := by decide +kernel
theorem dX6_isReserved_81 : decode cX6_isReserved 81 = .ok (.iconst 1, 1) := by decide +kernel
theorem dX6_isReserved_82 : decode cX6_isReserved 82 = .ok (.goto 4, 3) := by decide +kernel
theorem dX6_isReserved_85 : decode cX6_isReserved 85 = .ok (.iconst 0, 1) := by decide +kernel
theorem dX6_isReserved_86 : decode cX6_isReserved 86 = .ok (.ireturn, 1) := by decide +kernel
theorem dX6_takeLine_0 : decode cX6_takeLine 0 = .ok (.aload_n 0, 1) := by decide +kernel
theorem dX6_takeLine_1 : decode cX6_takeLine 1 = .ok (.ldc 92, 2) := by decide +kernel
theorem dX6_takeLine_3 : decode cX6_takeLine 3 = .ok (.invokevirtual 94, 3) := by decide +kernel
theorem dX6_takeLine_6 : decode cX6_takeLine 6 = .ok (.ifCond .eq 8, 3) := by decide +kernel
theorem dX6_takeLine_9 : decode cX6_takeLine 9 = .ok (.aload_n 0, 1) := by decide +kernel
theorem dX6_takeLine_10 : decode cX6_takeLine 10 = .ok (.invokevirtual 114, 3) := by decide +kernel
theorem dX6_takeLine_13 : decode cX6_takeLine 13 = .ok (.ireturn, 1) := by decide +kernel
theorem dX6_takeLine_14 : decode cX6_takeLine 14 = .ok (.aload_n 0, 1) := by decide +kernel
theorem dX6_takeLine_15 : decode cX6_takeLine 15 = .ok (.ldc 98, 2) := by decide +kernel
theorem dX6_takeLine_17 : decode cX6_takeLine 17 = .ok (.invokevirtual 94, 3) := by decide +kernel
theorem dX6_takeLine_20 : decode cX6_takeLine 20 = .ok (.ifCond .eq 35, 3) := by decide +kernel
theorem dX6_takeLine_23 : decode cX6_takeLine 23 = .ok (.aload_n 0, 1) := by decide +kernel
theorem dX6_takeLine_24 : decode cX6_takeLine 24 = .ok (.aload_n 0, 1) := by decide +kernel
theorem dX6_takeLine_25 : decode cX6_takeLine 25 = .ok (.getfield 19, 3) := by decide +kernel
theorem dX6_takeLine_28 : decode cX6_takeLine 28 = .ok (.getfield 51, 3) := by decide +kernel
theorem dX6_takeLine_31 : decode cX6_takeLine 31 = .ok (.getfield 55, 3) := by decide +kernel
theorem dX6_takeLine_34 : decode cX6_takeLine 34 = .ok (.bipush 7, 2) := by decide +kernel
theorem dX6_takeLine_36 : decode cX6_takeLine 36 = .ok (.invokevirtual 117, 3) := by decide +kernel
theorem dX6_takeLine_39 : decode cX6_takeLine 39 = .ok (.ifCond .eq 14, 3) := by decide +kernel
theorem dX6_takeLine_42 : decode cX6_takeLine 42 = .ok (.aload_n 0, 1) := by decide +kernel
theorem dX6_takeLine_43 : decode cX6_takeLine 43 = .ok (.invokevirtual 121, 3) := by decide +kernel
theorem dX6_takeLine_46 : decode cX6_takeLine 46 = .ok (.ifCond .eq 7, 3) := by decide +kernel
theorem dX6_takeLine_49 : decode cX6_takeLine 49 = .ok (.iconst 1, 1) := by decide +kernel
theorem dX6_takeLine_50 : decode cX6_takeLine 50 = .ok (.goto 4, 3) := by decide +kernel
theorem dX6_takeLine_53 : decode cX6_takeLine 53 = .ok (.iconst 0, 1) := by decide +kernel
theorem dX6_takeLine_54 : decode cX6_takeLine 54 = .ok (.ireturn, 1) := by decide +kernel
theorem dX6_takeLine_55 : decode cX6_takeLine 55 = .ok (.aload_n 0, 1) := by decide +kernel
theorem dX6_takeLine_56 : decode cX6_takeLine 56 = .ok (.ldc 100, 2) := by decide +kernel
theorem dX6_takeLine_58 : decode cX6_takeLine 58 = .ok (.invokevirtual 94, 3) := by decide +kernel
theorem dX6_takeLine_61 : decode cX6_takeLine 61 = .ok (.ifCond .eq 34, 3) := by decide +kernel
theorem dX6_takeLine_64 : decode cX6_takeLine 64 = .ok (.aload_n 0, 1) := by decide +kernel
theorem dX6_takeLine_65 : decode cX6_takeLine 65 = .ok (.aload_n 0, 1) := by decide +kernel
theorem dX6_takeLine_66 : decode cX6_takeLine 66 = .ok (.getfield 19, 3) := by decide +kernel
theorem dX6_takeLine_69 : decode cX6_takeLine 69 = .ok (.getfield 124, 3) := by decide +kernel
theorem dX6_takeLine_72 : decode cX6_takeLine 72 = .ok (.getfield 128, 3) := by decide +kernel
theorem dX6_takeLine_75 : decode cX6_takeLine 75 = .ok (.iconst 3, 1) := by decide +kernel
theorem dX6_takeLine_76 : decode cX6_takeLine 76 = .ok (.invokevirtual 117, 3) := by decide +kernel
theorem dX6_takeLine_79 : decode cX6_takeLine 79 = .ok (.ifCond .eq 14, 3) := by decide +kernel
theorem dX6_takeLine_82 : decode cX6_takeLine 82 = .ok (.aload_n 0, 1) := by decide +kernel
theorem dX6_takeLine_83 : decode cX6_takeLine 83 = .ok (.invokevirtual 131, 3) := by decide +kernel
theorem dX6_takeLine_86 : decode cX6_takeLine 86 = .ok (.ifCond .eq 7, 3) := by decide +kernel
theorem dX6_takeLine_89 : decode cX6_takeLine 89 = .ok (.iconst 1, 1) := by decide +kernel
theorem dX6_takeLine_90 : decode cX6_takeLine 90 = .ok (.goto 4, 3) := by decide +kernel
theorem dX6_takeLine_93 : decode cX6_takeLine 93 = .ok (.iconst 0, 1) := by decide +kernel
theorem dX6_takeLine_94 : decode cX6_takeLine 94 = .ok (.ireturn, 1) := by decide +kernel
theorem dX6_takeLine_95 : decode cX6_takeLine 95 = .ok (.aload_n 0, 1) := by decide +kernel
theorem dX6_takeLine_96 : decode cX6_takeLine 96 = .ok (.ldc 102, 2) := by decide +kernel
theorem dX6_takeLine_98 : decode cX6_takeLine 98 = .ok (.invokevirtual 94, 3) := by decide +kernel
theorem dX6_takeLine_101 : decode cX6_takeLine 101 = .ok (.ifCond .eq 35, 3) := by decide +kernel
theorem dX6_takeLine_104 : decode cX6_takeLine 104 = .ok (.aload_n 0, 1) := by decide +kernel
theorem dX6_takeLine_105 : decode cX6_takeLine 105 = .ok (.aload_n 0, 1) := by decide +kernel
theorem dX6_takeLine_106 : decode cX6_takeLine 106 = .ok (.getfield 19, 3) := by decide +kernel
theorem dX6_takeLine_109 : decode cX6_takeLine 109 = .ok (.getfield 134, 3) := by decide +kernel
theorem dX6_takeLine_112 : decode cX6_takeLine 112 = .ok (.getfield 138, 3) := by decide +kernel
theorem dX6_takeLine_115 : decode cX6_takeLine 115 = .ok (.bipush 7, 2) := by decide +kernel
theorem dX6_takeLine_117 : decode cX6_takeLine 117 = .ok (.invokevirtual 117, 3) := by decide +kernel
theorem dX6_takeLine_120 : decode cX6_takeLine 120 = .ok (.ifCond .eq 14, 3) := by decide +kernel
theorem dX6_takeLine_123 : decode cX6_takeLine 123 = .ok (.aload_n 0, 1) := by decide +kernel
theorem dX6_takeLine_124 : decode cX6_takeLine 124 = .ok (.invokevirtual 141, 3) := by decide +kernel
theorem dX6_takeLine_127 : decode cX6_takeLine 127 = .ok (.ifCond .eq 7, 3) := by decide +kernel
theorem dX6_takeLine_130 : decode cX6_takeLine 130 = .ok (.iconst 1, 1) := by decide +kernel
theorem dX6_takeLine_131 : decode cX6_takeLine 131 = .ok (.goto 4, 3) := by decide +kernel
theorem dX6_takeLine_134 : decode cX6_takeLine 134 = .ok (.iconst 0, 1) := by decide +kernel
theorem dX6_takeLine_135 : decode cX6_takeLine 135 = .ok (.ireturn, 1) := by decide +kernel
theorem dX6_takeLine_136 : decode cX6_takeLine 136 = .ok (.aload_n 0, 1) := by decide +kernel
theorem dX6_takeLine_137 : decode cX6_takeLine 137 = .ok (.ldc 104, 2) := by decide +kernel
theorem dX6_takeLine_139 : decode cX6_takeLine 139 = .ok (.invokevirtual 94, 3) := by decide +kernel
theorem dX6_takeLine_142 : decode cX6_takeLine 142 = .ok (.ifCond .eq 35, 3) := by decide +kernel
theorem dX6_takeLine_145 : decode cX6_takeLine 145 = .ok (.aload_n 0, 1) := by decide +kernel
theorem dX6_takeLine_146 : decode cX6_takeLine 146 = .ok (.aload_n 0, 1) := by decide +kernel
theorem dX6_takeLine_147 : decode cX6_takeLine 147 = .ok (.getfield 19, 3) := by decide +kernel
theorem dX6_takeLine_150 : decode cX6_takeLine 150 = .ok (.getfield 134, 3) := by decide +kernel
theorem dX6_takeLine_153 : decode cX6_takeLine 153 = .ok (.getfield 144, 3) := by decide +kernel
theorem dX6_takeLine_156 : decode cX6_takeLine 156 = .ok (.bipush 8, 2) := by decide +kernel
theorem dX6_takeLine_158 : decode cX6_takeLine 158 = .ok (.invokevirtual 117, 3) := by decide +kernel
theorem dX6_takeLine_161 : decode cX6_takeLine 161 = .ok (.ifCond .eq 14, 3) := by decide +kernel
theorem dX6_takeLine_164 : decode cX6_takeLine 164 = .ok (.aload_n 0, 1) := by decide +kernel
theorem dX6_takeLine_165 : decode cX6_takeLine 165 = .ok (.invokevirtual 147, 3) := by decide +kernel
theorem dX6_takeLine_168 : decode cX6_takeLine 168 = .ok (.ifCond .eq 7, 3) := by decide +kernel
theorem dX6_takeLine_171 : decode cX6_takeLine 171 = .ok (.iconst 1, 1) := by decide +kernel
theorem dX6_takeLine_172 : decode cX6_takeLine 172 = .ok (.goto 4, 3) := by decide +kernel
theorem dX6_takeLine_175 : decode cX6_takeLine 175 = .ok (.iconst 0, 1) := by decide +kernel
theorem dX6_takeLine_176 : decode cX6_takeLine 176 = .ok (.ireturn, 1) := by decide +kernel
theorem dX6_takeLine_177 : decode cX6_takeLine 177 = .ok (.aload_n 0, 1) := by decide +kernel
theorem dX6_takeLine_178 : decode cX6_takeLine 178 = .ok (.ldc 106, 2) := by decide +kernel
theorem dX6_takeLine_180 : decode cX6_takeLine 180 = .ok (.invokevirtual 94, 3) := by decide +kernel
theorem dX6_takeLine_183 : decode cX6_takeLine 183 = .ok (.ifCond .eq 35, 3) := by decide +kernel
theorem dX6_takeLine_186 : decode cX6_takeLine 186 = .ok (.aload_n 0, 1) := by decide +kernel
theorem dX6_takeLine_187 : decode cX6_takeLine 187 = .ok (.aload_n 0, 1) := by decide +kernel
theorem dX6_takeLine_188 : decode cX6_takeLine 188 = .ok (.getfield 19, 3) := by decide +kernel
theorem dX6_takeLine_191 : decode cX6_takeLine 191 = .ok (.getfield 150, 3) := by decide +kernel
theorem dX6_takeLine_194 : decode cX6_takeLine 194 = .ok (.getfield 154, 3) := by decide +kernel
theorem dX6_takeLine_197 : decode cX6_takeLine 197 = .ok (.bipush 6, 2) := by decide +kernel
theorem dX6_takeLine_199 : decode cX6_takeLine 199 = .ok (.invokevirtual 117, 3) := by decide +kernel
theorem dX6_takeLine_202 : decode cX6_takeLine 202 = .ok (.ifCond .eq 14, 3) := by decide +kernel
theorem dX6_takeLine_205 : decode cX6_takeLine 205 = .ok (.aload_n 0, 1) := by decide +kernel
theorem dX6_takeLine_206 : decode cX6_takeLine 206 = .ok (.invokevirtual 157, 3) := by decide +kernel
theorem dX6_takeLine_209 : decode cX6_takeLine 209 = .ok (.ifCond .eq 7, 3) := by decide +kernel
theorem dX6_takeLine_212 : decode cX6_takeLine 212 = .ok (.iconst 1, 1) := by decide +kernel
theorem dX6_takeLine_213 : decode cX6_takeLine 213 = .ok (.goto 4, 3) := by decide +kernel
theorem dX6_takeLine_216 : decode cX6_takeLine 216 = .ok (.iconst 0, 1) := by decide +kernel
theorem dX6_takeLine_217 : decode cX6_takeLine 217 = .ok (.ireturn, 1) := by decide +kernel
theorem dX6_takeLine_218 : decode cX6_takeLine 218 = .ok (.aload_n 0, 1) := by decide +kernel
theorem dX6_takeLine_219 : decode cX6_takeLine 219 = .ok (.ldc 108, 2) := by decide +kernel
theorem dX6_takeLine_221 : decode cX6_takeLine 221 = .ok (.invokevirtual 94, 3) := by decide +kernel
theorem dX6_takeLine_224 : decode cX6_takeLine 224 = .ok (.ifCond .eq 34, 3) := by decide +kernel
theorem dX6_takeLine_227 : decode cX6_takeLine 227 = .ok (.aload_n 0, 1) := by decide +kernel
theorem dX6_takeLine_228 : decode cX6_takeLine 228 = .ok (.aload_n 0, 1) := by decide +kernel
theorem dX6_takeLine_229 : decode cX6_takeLine 229 = .ok (.getfield 19, 3) := by decide +kernel
theorem dX6_takeLine_232 : decode cX6_takeLine 232 = .ok (.getfield 150, 3) := by decide +kernel
theorem dX6_takeLine_235 : decode cX6_takeLine 235 = .ok (.getfield 160, 3) := by decide +kernel
theorem dX6_takeLine_238 : decode cX6_takeLine 238 = .ok (.iconst 5, 1) := by decide +kernel
theorem dX6_takeLine_239 : decode cX6_takeLine 239 = .ok (.invokevirtual 117, 3) := by decide +kernel
theorem dX6_takeLine_242 : decode cX6_takeLine 242 = .ok (.ifCond .eq 14, 3) := by decide +kernel
theorem dX6_takeLine_245 : decode cX6_takeLine 245 = .ok (.aload_n 0, 1) := by decide +kernel
theorem dX6_takeLine_246 : decode cX6_takeLine 246 = .ok (.invokevirtual 163, 3) := by decide +kernel
theorem dX6_takeLine_249 : decode cX6_takeLine 249 = .ok (.ifCond .eq 7, 3) := by decide +kernel
theorem dX6_takeLine_252 : decode cX6_takeLine 252 = .ok (.iconst 1, 1) := by decide +kernel
theorem dX6_takeLine_253 : decode cX6_takeLine 253 = .ok (.goto 4, 3) := by decide +kernel
theorem dX6_takeLine_256 : decode cX6_takeLine 256 = .ok (.iconst 0, 1) := by decide +kernel
theorem dX6_takeLine_257 : decode cX6_takeLine 257 = .ok (.ireturn, 1) := by decide +kernel
theorem dX6_takeLine_258 : decode cX6_takeLine 258 = .ok (.aload_n 0, 1) := by decide +kernel
theorem dX6_takeLine_259 : decode cX6_takeLine 259 = .ok (.iconst 1, 1) := by decide +kernel
theorem dX6_takeLine_260 : decode cX6_takeLine 260 = .ok (.invokevirtual 47, 3) := by decide +kernel
theorem dX6_takeLine_263 : decode cX6_takeLine 263 = .ok (.ireturn, 1) := by decide +kernel
theorem dX6_begin_0 : decode cX6_begin 0 = .ok (.aload_n 0, 1) := by decide +kernel
theorem dX6_begin_1 : decode cX6_begin 1 = .ok (.getfield 19, 3) := by decide +kernel
theorem dX6_begin_4 : decode cX6_begin 4 = .ok (.getfield 166, 3) := by decide +kernel
theorem dX6_begin_7 : decode cX6_begin 7 = .ok (.ifCond .ne 10, 3) := by decide +kernel
theorem dX6_begin_10 : decode cX6_begin 10 = .ok (.aload_n 0, 1) := by decide +kernel
theorem dX6_begin_11 : decode cX6_begin 11 = .ok (.bipush 6, 2) := by decide +kernel
theorem dX6_begin_13 : decode cX6_begin 13 = .ok (.invokevirtual 47, 3) := by decide +kernel
theorem dX6_begin_16 : decode cX6_begin 16 = .ok (.ireturn, 1) := by decide +kernel
theorem dX6_begin_17 : decode cX6_begin 17 = .ok (.iload_n 1, 1) := by decide +kernel
theorem dX6_begin_18 : decode cX6_begin 18 = .ok (.iload_n 2, 1) := by decide +kernel
theorem dX6_begin_19 : decode cX6_begin 19 = .ok (.if_icmp .lt 9, 3) := by decide +kernel
theorem dX6_begin_22 : decode cX6_begin 22 = .ok (.aload_n 0, 1) := by decide +kernel
theorem dX6_begin_23 : decode cX6_begin 23 = .ok (.iconst 5, 1) := by decide +kernel
theorem dX6_begin_24 : decode cX6_begin 24 = .ok (.invokevirtual 47, 3) := by decide +kernel
theorem dX6_begin_27 : decode cX6_begin 27 = .ok (.ireturn, 1) := by decide +kernel
theorem dX6_begin_28 : decode cX6_begin 28 = .ok (.aload_n 0, 1) := by decide +kernel
theorem dX6_begin_29 : decode cX6_begin 29 = .ok (.invokevirtual 37, 3) := by decide +kernel
theorem dX6_begin_32 : decode cX6_begin 32 = .ok (.iconst 1, 1) := by decide +kernel
theorem dX6_begin_33 : decode cX6_begin 33 = .ok (.ireturn, 1) := by decide +kernel
theorem dX6_takeKeyword_0 : decode cX6_takeKeyword 0 = .ok (.aload_n 0, 1) := by decide +kernel
theorem dX6_takeKeyword_1 : decode cX6_takeKeyword 1 = .ok (.aload_n 1, 1) := by decide +kernel
theorem dX6_takeKeyword_2 : decode cX6_takeKeyword 2 = .ok (.invokevirtual 94, 3) := by decide +kernel
theorem dX6_takeKeyword_5 : decode cX6_takeKeyword 5 = .ok (.ifCond .ne 9, 3) := by decide +kernel
theorem dX6_takeKeyword_8 : decode cX6_takeKeyword 8 = .ok (.aload_n 0, 1) := by decide +kernel
theorem dX6_takeKeyword_9 : decode cX6_takeKeyword 9 = .ok (.iconst 1, 1) := by decide +kernel
theorem dX6_takeKeyword_10 : decode cX6_takeKeyword 10 = .ok (.invokevirtual 47, 3) := by decide +kernel
theorem dX6_takeKeyword_13 : decode cX6_takeKeyword 13 = .ok (.ireturn, 1) := by decide +kernel
theorem dX6_takeKeyword_14 : decode cX6_takeKeyword 14 = .ok (.aload_n 0, 1) := by decide +kernel
theorem dX6_takeKeyword_15 : decode cX6_takeKeyword 15 = .ok (.invokevirtual 37, 3) := by decide +kernel
theorem dX6_takeKeyword_18 : decode cX6_takeKeyword 18 = .ok (.iconst 1, 1) := by decide +kernel
theorem dX6_takeKeyword_19 : decode cX6_takeKeyword 19 = .ok (.ireturn, 1) := by decide +kernel
theorem dX6_isNumber_0 : decode cX6_isNumber 0 = .ok (.aload_n 0, 1) := by decide +kernel
theorem dX6_isNumber_1 : decode cX6_isNumber 1 = .ok (.getfield 44, 3) := by decide +kernel
theorem dX6_isNumber_4 : decode cX6_isNumber 4 = .ok (.iconst 2, 1) := by decide +kernel
theorem dX6_isNumber_5 : decode cX6_isNumber 5 = .ok (.if_icmp .eq 9, 3) := by decide +kernel
theorem dX6_isNumber_8 : decode cX6_isNumber 8 = .ok (.aload_n 0, 1) := by decide +kernel
theorem dX6_isNumber_9 : decode cX6_isNumber 9 = .ok (.iconst 1, 1) := by decide +kernel
theorem dX6_isNumber_10 : decode cX6_isNumber 10 = .ok (.invokevirtual 47, 3) := by decide +kernel
theorem dX6_isNumber_13 : decode cX6_isNumber 13 = .ok (.ireturn, 1) := by decide +kernel
theorem dX6_isNumber_14 : decode cX6_isNumber 14 = .ok (.aload_n 0, 1) := by decide +kernel
theorem dX6_isNumber_15 : decode cX6_isNumber 15 = .ok (.getfield 80, 3) := by decide +kernel
theorem dX6_isNumber_18 : decode cX6_isNumber 18 = .ok (.iload_n 1, 1) := by decide +kernel
theorem dX6_isNumber_19 : decode cX6_isNumber 19 = .ok (.if_icmp .lt 11, 3) := by decide +kernel
theorem dX6_isNumber_22 : decode cX6_isNumber 22 = .ok (.aload_n 0, 1) := by decide +kernel
theorem dX6_isNumber_23 : decode cX6_isNumber 23 = .ok (.getfield 80, 3) := by decide +kernel
theorem dX6_isNumber_26 : decode cX6_isNumber 26 = .ok (.iload_n 2, 1) := by decide +kernel
theorem dX6_isNumber_27 : decode cX6_isNumber 27 = .ok (.if_icmp .le 11, 3) := by decide +kernel
theorem dX6_isNumber_30 : decode cX6_isNumber 30 = .ok (.aload_n 0, 1) := by decide +kernel
theorem dX6_isNumber_31 : decode cX6_isNumber 31 = .ok (.iconst 4, 1) := by decide +kernel
theorem dX6_isNumber_32 : decode cX6_isNumber 32 = .ok (.invokevirtual 47, 3) := by decide +kernel
theorem dX6_isNumber_35 : decode cX6_isNumber 35 = .ok (.ifCond .eq 7, 3) := by decide +kernel
theorem dX6_isNumber_38 : decode cX6_isNumber 38 = .ok (.iconst 1, 1) := by decide +kernel
theorem dX6_isNumber_39 : decode cX6_isNumber 39 = .ok (.goto 4, 3) := by decide +kernel
theorem dX6_isNumber_42 : decode cX6_isNumber 42 = .ok (.iconst 0, 1) := by decide +kernel
theorem dX6_isNumber_43 : decode cX6_isNumber 43 = .ok (.ireturn, 1) := by decide +kernel
theorem dX6_isNewName_0 : decode cX6_isNewName 0 = .ok (.aload_n 0, 1) := by decide +kernel
theorem dX6_isNewName_1 : decode cX6_isNewName 1 = .ok (.getfield 44, 3) := by decide +kernel
theorem dX6_isNewName_4 : decode cX6_isNewName 4 = .ok (.iconst 1, 1) := by decide +kernel
theorem dX6_isNewName_5 : decode cX6_isNewName 5 = .ok (.if_icmp .ne 10, 3) := by decide +kernel
theorem dX6_isNewName_8 : decode cX6_isNewName 8 = .ok (.aload_n 0, 1) := by decide +kernel
theorem dX6_isNewName_9 : decode cX6_isNewName 9 = .ok (.invokevirtual 170, 3) := by decide +kernel
theorem dX6_isNewName_12 : decode cX6_isNewName 12 = .ok (.ifCond .eq 9, 3) := by decide +kernel
theorem dX6_isNewName_15 : decode cX6_isNewName 15 = .ok (.aload_n 0, 1) := by decide +kernel
theorem dX6_isNewName_16 : decode cX6_isNewName 16 = .ok (.iconst 1, 1) := by decide +kernel
theorem dX6_isNewName_17 : decode cX6_isNewName 17 = .ok (.invokevirtual 47, 3) := by decide +kernel
theorem dX6_isNewName_20 : decode cX6_isNewName 20 = .ok (.ireturn, 1) := by decide +kernel
theorem dX6_isNewName_21 : decode cX6_isNewName 21 = .ok (.aload_n 0, 1) := by decide +kernel
theorem dX6_isNewName_22 : decode cX6_isNewName 22 = .ok (.getfield 19, 3) := by decide +kernel
theorem dX6_isNewName_25 : decode cX6_isNewName 25 = .ok (.aload_n 0, 1) := by decide +kernel
theorem dX6_isNewName_26 : decode cX6_isNewName 26 = .ok (.getfield 76, 3) := by decide +kernel
theorem dX6_isNewName_29 : decode cX6_isNewName 29 = .ok (.invokevirtual 173, 3) := by decide +kernel
theorem dX6_isNewName_32 : decode cX6_isNewName 32 = .ok (.ifCond .eq 11, 3) := by decide +kernel
theorem dX6_isNewName_35 : decode cX6_isNewName 35 = .ok (.aload_n 0, 1) := by decide +kernel
theorem dX6_isNewName_36 : decode cX6_isNewName 36 = .ok (.iconst 3, 1) := by decide +kernel
theorem dX6_isNewName_37 : decode cX6_isNewName 37 = .ok (.invokevirtual 47, 3) := by decide +kernel
theorem dX6_isNewName_40 : decode cX6_isNewName 40 = .ok (.ifCond .eq 7, 3) := by decide +kernel
theorem dX6_isNewName_43 : decode cX6_isNewName 43 = .ok (.iconst 1, 1) := by decide +kernel
theorem dX6_isNewName_44 : decode cX6_isNewName 44 = .ok (.goto 4, 3) := by decide +kernel
theorem dX6_isNewName_47 : decode cX6_isNewName 47 = .ok (.iconst 0, 1) := by decide +kernel
theorem dX6_isNewName_48 : decode cX6_isNewName 48 = .ok (.ireturn, 1) := by decide +kernel
theorem dX6_takeCounty_0 : decode cX6_takeCounty 0 = .ok (.aload_n 0, 1) := by decide +kernel
theorem dX6_takeCounty_1 : decode cX6_takeCounty 1 = .ok (.getfield 19, 3) := by decide +kernel
theorem dX6_takeCounty_4 : decode cX6_takeCounty 4 = .ok (.getfield 166, 3) := by decide +kernel
theorem dX6_takeCounty_7 : decode cX6_takeCounty 7 = .ok (.ifCond .eq 9, 3) := by decide +kernel
theorem dX6_takeCounty_10 : decode cX6_takeCounty 10 = .ok (.aload_n 0, 1) := by decide +kernel
theorem dX6_takeCounty_11 : decode cX6_takeCounty 11 = .ok (.iconst 3, 1) := by decide +kernel
theorem dX6_takeCounty_12 : decode cX6_takeCounty 12 = .ok (.invokevirtual 47, 3) := by decide +kernel
theorem dX6_takeCounty_15 : decode cX6_takeCounty 15 = .ok (.ireturn, 1) := by decide +kernel
theorem dX6_takeCounty_16 : decode cX6_takeCounty 16 = .ok (.aload_n 0, 1) := by decide +kernel
theorem dX6_takeCounty_17 : decode cX6_takeCounty 17 = .ok (.invokevirtual 37, 3) := by decide +kernel
theorem dX6_takeCounty_20 : decode cX6_takeCounty 20 = .ok (.aload_n 0, 1) := by decide +kernel
theorem dX6_takeCounty_21 : decode cX6_takeCounty 21 = .ok (.ldc 177, 2) := by decide +kernel
theorem dX6_takeCounty_23 : decode cX6_takeCounty 23 = .ok (.invokevirtual 179, 3) := by decide +kernel
theorem dX6_takeCounty_26 : decode cX6_takeCounty 26 = .ok (.ifCond .eq 13, 3) := by decide +kernel
theorem dX6_takeCounty_29 : decode cX6_takeCounty 29 = .ok (.aload_n 0, 1) := by decide +kernel
theorem dX6_takeCounty_30 : decode cX6_takeCounty 30 = .ok (.iconst 1, 1) := by decide +kernel
theorem dX6_takeCounty_31 : decode cX6_takeCounty 31 = .ok (.bipush 9, 2) := by decide +kernel
theorem dX6_takeCounty_33 : decode cX6_takeCounty 33 = .ok (.invokevirtual 182, 3) := by decide +kernel
theorem dX6_takeCounty_36 : decode cX6_takeCounty 36 = .ok (.ifCond .ne 5, 3) := by decide +kernel
theorem dX6_takeCounty_39 : decode cX6_takeCounty 39 = .ok (.iconst 0, 1) := by decide +kernel
theorem dX6_takeCounty_40 : decode cX6_takeCounty 40 = .ok (.ireturn, 1) := by decide +kernel
theorem dX6_takeCounty_41 : decode cX6_takeCounty 41 = .ok (.aload_n 0, 1) := by decide +kernel
theorem dX6_takeCounty_42 : decode cX6_takeCounty 42 = .ok (.getfield 19, 3) := by decide +kernel
theorem dX6_takeCounty_45 : decode cX6_takeCounty 45 = .ok (.aload_n 0, 1) := by decide +kernel
theorem dX6_takeCounty_46 : decode cX6_takeCounty 46 = .ok (.getfield 80, 3) := by decide +kernel
theorem dX6_takeCounty_49 : decode cX6_takeCounty 49 = .ok (.putfield 185, 3) := by decide +kernel
theorem dX6_takeCounty_52 : decode cX6_takeCounty 52 = .ok (.aload_n 0, 1) := by decide +kernel
theorem dX6_takeCounty_53 : decode cX6_takeCounty 53 = .ok (.invokevirtual 37, 3) := by decide +kernel
theorem dX6_takeCounty_56 : decode cX6_takeCounty 56 = .ok (.aload_n 0, 1) := by decide +kernel
theorem dX6_takeCounty_57 : decode cX6_takeCounty 57 = .ok (.ldc 187, 2) := by decide +kernel
theorem dX6_takeCounty_59 : decode cX6_takeCounty 59 = .ok (.invokevirtual 179, 3) := by decide +kernel
theorem dX6_takeCounty_62 : decode cX6_takeCounty 62 = .ok (.ifCond .eq 13, 3) := by decide +kernel
theorem dX6_takeCounty_65 : decode cX6_takeCounty 65 = .ok (.aload_n 0, 1) := by decide +kernel
theorem dX6_takeCounty_66 : decode cX6_takeCounty 66 = .ok (.iconst 0, 1) := by decide +kernel
theorem dX6_takeCounty_67 : decode cX6_takeCounty 67 = .ok (.bipush 100, 2) := by decide +kernel
theorem dX6_takeCounty_69 : decode cX6_takeCounty 69 = .ok (.invokevirtual 182, 3) := by decide +kernel
theorem dX6_takeCounty_72 : decode cX6_takeCounty 72 = .ok (.ifCond .ne 5, 3) := by decide +kernel
theorem dX6_takeCounty_75 : decode cX6_takeCounty 75 = .ok (.iconst 0, 1) := by decide +kernel
theorem dX6_takeCounty_76 : decode cX6_takeCounty 76 = .ok (.ireturn, 1) := by decide +kernel
theorem dX6_takeCounty_77 : decode cX6_takeCounty 77 = .ok (.aload_n 0, 1) := by decide +kernel
theorem dX6_takeCounty_78 : decode cX6_takeCounty 78 = .ok (.getfield 19, 3) := by decide +kernel
theorem dX6_takeCounty_81 : decode cX6_takeCounty 81 = .ok (.aload_n 0, 1) := by decide +kernel
theorem dX6_takeCounty_82 : decode cX6_takeCounty 82 = .ok (.getfield 80, 3) := by decide +kernel
theorem dX6_takeCounty_85 : decode cX6_takeCounty 85 = .ok (.putfield 189, 3) := by decide +kernel
theorem dX6_takeCounty_88 : decode cX6_takeCounty 88 = .ok (.aload_n 0, 1) := by decide +kernel
theorem dX6_takeCounty_89 : decode cX6_takeCounty 89 = .ok (.invokevirtual 37, 3) := by decide +kernel
theorem dX6_takeCounty_92 : decode cX6_takeCounty 92 = .ok (.aload_n 0, 1) := by decide +kernel
theorem dX6_takeCounty_93 : decode cX6_takeCounty 93 = .ok (.getfield 19, 3) := by decide +kernel
theorem dX6_takeCounty_96 : decode cX6_takeCounty 96 = .ok (.iconst 1, 1) := by decide +kernel
theorem dX6_takeCounty_97 : decode cX6_takeCounty 97 = .ok (.putfield 166, 3) := by decide +kernel
theorem dX6_takeCounty_100 : decode cX6_takeCounty 100 = .ok (.iconst 1, 1) := by decide +kernel
theorem dX6_takeCounty_101 : decode cX6_takeCounty 101 = .ok (.ireturn, 1) := by decide +kernel
theorem dX6_takeSleeper_0 : decode cX6_takeSleeper 0 = .ok (.aload_n 0, 1) := by decide +kernel
theorem dX6_takeSleeper_1 : decode cX6_takeSleeper 1 = .ok (.getfield 19, 3) := by decide +kernel
theorem dX6_takeSleeper_4 : decode cX6_takeSleeper 4 = .ok (.getfield 51, 3) := by decide +kernel
theorem dX6_takeSleeper_7 : decode cX6_takeSleeper 7 = .ok (.astore_n 1, 1) := by decide +kernel
theorem dX6_takeSleeper_8 : decode cX6_takeSleeper 8 = .ok (.aload_n 1, 1) := by decide +kernel
theorem dX6_takeSleeper_9 : decode cX6_takeSleeper 9 = .ok (.getfield 55, 3) := by decide +kernel
theorem dX6_takeSleeper_12 : decode cX6_takeSleeper 12 = .ok (.istore_n 2, 1) := by decide +kernel
theorem dX6_takeSleeper_13 : decode cX6_takeSleeper 13 = .ok (.aload_n 0, 1) := by decide +kernel
theorem dX6_takeSleeper_14 : decode cX6_takeSleeper 14 = .ok (.invokevirtual 191, 3) := by decide +kernel
theorem dX6_takeSleeper_17 : decode cX6_takeSleeper 17 = .ok (.ifCond .ne 5, 3) := by decide +kernel
theorem dX6_takeSleeper_20 : decode cX6_takeSleeper 20 = .ok (.iconst 0, 1) := by decide +kernel
theorem dX6_takeSleeper_21 : decode cX6_takeSleeper 21 = .ok (.ireturn, 1) := by decide +kernel
theorem dX6_takeSleeper_22 : decode cX6_takeSleeper 22 = .ok (.aload_n 1, 1) := by decide +kernel
theorem dX6_takeSleeper_23 : decode cX6_takeSleeper 23 = .ok (.getfield 194, 3) := by decide +kernel
theorem dX6_takeSleeper_26 : decode cX6_takeSleeper 26 = .ok (.iload_n 2, 1) := by decide +kernel
theorem dX6_takeSleeper_27 : decode cX6_takeSleeper 27 = .ok (.aload_n 0, 1) := by decide +kernel
theorem dX6_takeSleeper_28 : decode cX6_takeSleeper 28 = .ok (.getfield 76, 3) := by decide +kernel
theorem dX6_takeSleeper_31 : decode cX6_takeSleeper 31 = .ok (.lastore, 1) := by decide +kernel
theorem dX6_takeSleeper_32 : decode cX6_takeSleeper 32 = .ok (.aload_n 0, 1) := by decide +kernel
theorem dX6_takeSleeper_33 : decode cX6_takeSleeper 33 = .ok (.invokevirtual 37, 3) := by decide +kernel
theorem dX6_takeSleeper_36 : decode cX6_takeSleeper 36 = .ok (.aload_n 0, 1) := by decide +kernel
theorem dX6_takeSleeper_37 : decode cX6_takeSleeper 37 = .ok (.invokevirtual 198, 3) := by decide +kernel
theorem dX6_takeSleeper_40 : decode cX6_takeSleeper 40 = .ok (.istore_n 3, 1) := by decide +kernel
theorem dX6_takeSleeper_41 : decode cX6_takeSleeper 41 = .ok (.iload_n 3, 1) := by decide +kernel
theorem dX6_takeSleeper_42 : decode cX6_takeSleeper 42 = .ok (.iconst (-1), 1) := by decide +kernel
theorem dX6_takeSleeper_43 : decode cX6_takeSleeper 43 = .ok (.if_icmp .ne 9, 3) := by decide +kernel
theorem dX6_takeSleeper_46 : decode cX6_takeSleeper 46 = .ok (.aload_n 0, 1) := by decide +kernel
theorem dX6_takeSleeper_47 : decode cX6_takeSleeper 47 = .ok (.iconst 1, 1) := by decide +kernel
theorem dX6_takeSleeper_48 : decode cX6_takeSleeper 48 = .ok (.invokevirtual 47, 3) := by decide +kernel
theorem dX6_takeSleeper_51 : decode cX6_takeSleeper 51 = .ok (.ireturn, 1) := by decide +kernel
theorem dX6_takeSleeper_52 : decode cX6_takeSleeper 52 = .ok (.aload_n 1, 1) := by decide +kernel
theorem dX6_takeSleeper_53 : decode cX6_takeSleeper 53 = .ok (.getfield 201, 3) := by decide +kernel
theorem dX6_takeSleeper_56 : decode cX6_takeSleeper 56 = .ok (.iload_n 2, 1) := by decide +kernel
theorem dX6_takeSleeper_57 : decode cX6_takeSleeper 57 = .ok (.iload_n 3, 1) := by decide +kernel
theorem dX6_takeSleeper_58 : decode cX6_takeSleeper 58 = .ok (.iastore, 1) := by decide +kernel
theorem dX6_takeSleeper_59 : decode cX6_takeSleeper 59 = .ok (.aload_n 0, 1) := by decide +kernel
theorem dX6_takeSleeper_60 : decode cX6_takeSleeper 60 = .ok (.invokevirtual 37, 3) := by decide +kernel
theorem dX6_takeSleeper_63 : decode cX6_takeSleeper 63 = .ok (.aload_n 0, 1) := by decide +kernel
theorem dX6_takeSleeper_64 : decode cX6_takeSleeper 64 = .ok (.ldc 205, 2) := by decide +kernel
theorem dX6_takeSleeper_66 : decode cX6_takeSleeper 66 = .ok (.invokevirtual 179, 3) := by decide +kernel
theorem dX6_takeSleeper_69 : decode cX6_takeSleeper 69 = .ok (.ifCond .eq 13, 3) := by decide +kernel
theorem dX6_takeSleeper_72 : decode cX6_takeSleeper 72 = .ok (.aload_n 0, 1) := by decide +kernel
theorem dX6_takeSleeper_73 : decode cX6_takeSleeper 73 = .ok (.iconst 0, 1) := by decide +kernel
theorem dX6_takeSleeper_74 : decode cX6_takeSleeper 74 = .ok (.bipush 9, 2) := by decide +kernel
theorem dX6_takeSleeper_76 : decode cX6_takeSleeper 76 = .ok (.invokevirtual 182, 3) := by decide +kernel
theorem dX6_takeSleeper_79 : decode cX6_takeSleeper 79 = .ok (.ifCond .ne 5, 3) := by decide +kernel
theorem dX6_takeSleeper_82 : decode cX6_takeSleeper 82 = .ok (.iconst 0, 1) := by decide +kernel
theorem dX6_takeSleeper_83 : decode cX6_takeSleeper 83 = .ok (.ireturn, 1) := by decide +kernel
theorem dX6_takeSleeper_84 : decode cX6_takeSleeper 84 = .ok (.aload_n 1, 1) := by decide +kernel
theorem dX6_takeSleeper_85 : decode cX6_takeSleeper 85 = .ok (.getfield 207, 3) := by decide +kernel
theorem dX6_takeSleeper_88 : decode cX6_takeSleeper 88 = .ok (.iload_n 2, 1) := by decide +kernel
theorem dX6_takeSleeper_89 : decode cX6_takeSleeper 89 = .ok (.aload_n 0, 1) := by decide +kernel
theorem dX6_takeSleeper_90 : decode cX6_takeSleeper 90 = .ok (.getfield 80, 3) := by decide +kernel
theorem dX6_takeSleeper_93 : decode cX6_takeSleeper 93 = .ok (.iastore, 1) := by decide +kernel
theorem dX6_takeSleeper_94 : decode cX6_takeSleeper 94 = .ok (.aload_n 0, 1) := by decide +kernel
theorem dX6_takeSleeper_95 : decode cX6_takeSleeper 95 = .ok (.invokevirtual 37, 3) := by decide +kernel
theorem dX6_takeSleeper_98 : decode cX6_takeSleeper 98 = .ok (.aload_n 0, 1) := by decide +kernel
theorem dX6_takeSleeper_99 : decode cX6_takeSleeper 99 = .ok (.ldc 210, 2) := by decide +kernel
theorem dX6_takeSleeper_101 : decode cX6_takeSleeper 101 = .ok (.invokevirtual 179, 3) := by decide +kernel
theorem dX6_takeSleeper_104 : decode cX6_takeSleeper 104 = .ok (.ifCond .eq 13, 3) := by decide +kernel
theorem dX6_takeSleeper_107 : decode cX6_takeSleeper 107 = .ok (.aload_n 0, 1) := by decide +kernel
theorem dX6_takeSleeper_108 : decode cX6_takeSleeper 108 = .ok (.iconst 1, 1) := by decide +kernel
theorem dX6_takeSleeper_109 : decode cX6_takeSleeper 109 = .ok (.bipush 20, 2) := by decide +kernel
theorem dX6_takeSleeper_111 : decode cX6_takeSleeper 111 = .ok (.invokevirtual 182, 3) := by decide +kernel
theorem dX6_takeSleeper_114 : decode cX6_takeSleeper 114 = .ok (.ifCond .ne 5, 3) := by decide +kernel
theorem dX6_takeSleeper_117 : decode cX6_takeSleeper 117 = .ok (.iconst 0, 1) := by decide +kernel
theorem dX6_takeSleeper_118 : decode cX6_takeSleeper 118 = .ok (.ireturn, 1) := by decide +kernel
theorem dX6_takeSleeper_119 : decode cX6_takeSleeper 119 = .ok (.aload_n 1, 1) := by decide +kernel
theorem dX6_takeSleeper_120 : decode cX6_takeSleeper 120 = .ok (.getfield 212, 3) := by decide +kernel
theorem dX6_takeSleeper_123 : decode cX6_takeSleeper 123 = .ok (.iload_n 2, 1) := by decide +kernel
theorem dX6_takeSleeper_124 : decode cX6_takeSleeper 124 = .ok (.aload_n 0, 1) := by decide +kernel
theorem dX6_takeSleeper_125 : decode cX6_takeSleeper 125 = .ok (.getfield 80, 3) := by decide +kernel
theorem dX6_takeSleeper_128 : decode cX6_takeSleeper 128 = .ok (.iastore, 1) := by decide +kernel
theorem dX6_takeSleeper_129 : decode cX6_takeSleeper 129 = .ok (.aload_n 0, 1) := by decide +kernel
theorem dX6_takeSleeper_130 : decode cX6_takeSleeper 130 = .ok (.invokevirtual 37, 3) := by decide +kernel
theorem dX6_takeSleeper_133 : decode cX6_takeSleeper 133 = .ok (.aload_n 1, 1) := by decide +kernel
theorem dX6_takeSleeper_134 : decode cX6_takeSleeper 134 = .ok (.dup, 1) := by decide +kernel
theorem dX6_takeSleeper_135 : decode cX6_takeSleeper 135 = .ok (.getfield 55, 3) := by decide +kernel
theorem dX6_takeSleeper_138 : decode cX6_takeSleeper 138 = .ok (.iconst 1, 1) := by decide +kernel
theorem dX6_takeSleeper_139 : decode cX6_takeSleeper 139 = .ok (.iadd, 1) := by decide +kernel
theorem dX6_takeSleeper_140 : decode cX6_takeSleeper 140 = .ok (.putfield 55, 3) := by decide +kernel
theorem dX6_takeSleeper_143 : decode cX6_takeSleeper 143 = .ok (.iconst 1, 1) := by decide +kernel
theorem dX6_takeSleeper_144 : decode cX6_takeSleeper 144 = .ok (.ireturn, 1) := by decide +kernel
theorem dX6_kindSpelt_0 : decode cX6_kindSpelt 0 = .ok (.aload_n 0, 1) := by decide +kernel
theorem dX6_kindSpelt_1 : decode cX6_kindSpelt 1 = .ok (.ldc 214, 2) := by decide +kernel
theorem dX6_kindSpelt_3 : decode cX6_kindSpelt 3 = .ok (.invokevirtual 94, 3) := by decide +kernel
theorem dX6_kindSpelt_6 : decode cX6_kindSpelt 6 = .ok (.ifCond .eq 5, 3) := by decide +kernel
theorem dX6_kindSpelt_9 : decode cX6_kindSpelt 9 = .ok (.iconst 0, 1) := by decide +kernel
theorem dX6_kindSpelt_10 : decode cX6_kindSpelt 10 = .ok (.ireturn, 1) := by decide +kernel
theorem dX6_kindSpelt_11 : decode cX6_kindSpelt 11 = .ok (.aload_n 0, 1) := by decide +kernel
theorem dX6_kindSpelt_12 : decode cX6_kindSpelt 12 = .ok (.ldc 216, 2) := by decide +kernel
theorem dX6_kindSpelt_14 : decode cX6_kindSpelt 14 = .ok (.invokevirtual 94, 3) := by decide +kernel
theorem dX6_kindSpelt_17 : decode cX6_kindSpelt 17 = .ok (.ifCond .eq 5, 3) := by decide +kernel
theorem dX6_kindSpelt_20 : decode cX6_kindSpelt 20 = .ok (.iconst 1, 1) := by decide +kernel
theorem dX6_kindSpelt_21 : decode cX6_kindSpelt 21 = .ok (.ireturn, 1) := by decide +kernel
theorem dX6_kindSpelt_22 : decode cX6_kindSpelt 22 = .ok (.aload_n 0, 1) := by decide +kernel
theorem dX6_kindSpelt_23 : decode cX6_kindSpelt 23 = .ok (.ldc 218, 2) := by decide +kernel
theorem dX6_kindSpelt_25 : decode cX6_kindSpelt 25 = .ok (.invokevirtual 94, 3) := by decide +kernel
theorem dX6_kindSpelt_28 : decode cX6_kindSpelt 28 = .ok (.ifCond .eq 5, 3) := by decide +kernel
theorem dX6_kindSpelt_31 : decode cX6_kindSpelt 31 = .ok (.iconst 2, 1) := by decide +kernel
theorem dX6_kindSpelt_32 : decode cX6_kindSpelt 32 = .ok (.ireturn, 1) := by decide +kernel
theorem dX6_kindSpelt_33 : decode cX6_kindSpelt 33 = .ok (.aload_n 0, 1) := by decide +kernel
theorem dX6_kindSpelt_34 : decode cX6_kindSpelt 34 = .ok (.ldc 220, 2) := by decide +kernel
theorem dX6_kindSpelt_36 : decode cX6_kindSpelt 36 = .ok (.invokevirtual 94, 3) := by decide +kernel
theorem dX6_kindSpelt_39 : decode cX6_kindSpelt 39 = .ok (.ifCond .eq 7, 3) := by decide +kernel
theorem dX6_kindSpelt_42 : decode cX6_kindSpelt 42 = .ok (.iconst 3, 1) := by decide +kernel
theorem dX6_kindSpelt_43 : decode cX6_kindSpelt 43 = .ok (.goto 4, 3) := by decide +kernel
theorem dX6_kindSpelt_46 : decode cX6_kindSpelt 46 = .ok (.iconst (-1), 1) := by decide +kernel
theorem dX6_kindSpelt_47 : decode cX6_kindSpelt 47 = .ok (.ireturn, 1) := by decide +kernel
theorem dX6_takeHelper_0 : decode cX6_takeHelper 0 = .ok (.aload_n 0, 1) := by decide +kernel
theorem dX6_takeHelper_1 : decode cX6_takeHelper 1 = .ok (.getfield 19, 3) := by decide +kernel
theorem dX6_takeHelper_4 : decode cX6_takeHelper 4 = .ok (.getfield 124, 3) := by decide +kernel
theorem dX6_takeHelper_7 : decode cX6_takeHelper 7 = .ok (.astore_n 1, 1) := by decide +kernel
theorem dX6_takeHelper_8 : decode cX6_takeHelper 8 = .ok (.aload_n 1, 1) := by decide +kernel
theorem dX6_takeHelper_9 : decode cX6_takeHelper 9 = .ok (.getfield 128, 3) := by decide +kernel
theorem dX6_takeHelper_12 : decode cX6_takeHelper 12 = .ok (.istore_n 2, 1) := by decide +kernel
theorem dX6_takeHelper_13 : decode cX6_takeHelper 13 = .ok (.aload_n 0, 1) := by decide +kernel
theorem dX6_takeHelper_14 : decode cX6_takeHelper 14 = .ok (.invokevirtual 191, 3) := by decide +kernel
theorem dX6_takeHelper_17 : decode cX6_takeHelper 17 = .ok (.ifCond .ne 5, 3) := by decide +kernel
theorem dX6_takeHelper_20 : decode cX6_takeHelper 20 = .ok (.iconst 0, 1) := by decide +kernel
theorem dX6_takeHelper_21 : decode cX6_takeHelper 21 = .ok (.ireturn, 1) := by decide +kernel
theorem dX6_takeHelper_22 : decode cX6_takeHelper 22 = .ok (.aload_n 1, 1) := by decide +kernel
theorem dX6_takeHelper_23 : decode cX6_takeHelper 23 = .ok (.getfield 222, 3) := by decide +kernel
theorem dX6_takeHelper_26 : decode cX6_takeHelper 26 = .ok (.iload_n 2, 1) := by decide +kernel
theorem dX6_takeHelper_27 : decode cX6_takeHelper 27 = .ok (.aload_n 0, 1) := by decide +kernel
theorem dX6_takeHelper_28 : decode cX6_takeHelper 28 = .ok (.getfield 76, 3) := by decide +kernel
theorem dX6_takeHelper_31 : decode cX6_takeHelper 31 = .ok (.lastore, 1) := by decide +kernel
theorem dX6_takeHelper_32 : decode cX6_takeHelper 32 = .ok (.aload_n 0, 1) := by decide +kernel
theorem dX6_takeHelper_33 : decode cX6_takeHelper 33 = .ok (.invokevirtual 37, 3) := by decide +kernel
theorem dX6_takeHelper_36 : decode cX6_takeHelper 36 = .ok (.aload_n 0, 1) := by decide +kernel
theorem dX6_takeHelper_37 : decode cX6_takeHelper 37 = .ok (.ldc 205, 2) := by decide +kernel
theorem dX6_takeHelper_39 : decode cX6_takeHelper 39 = .ok (.invokevirtual 179, 3) := by decide +kernel
theorem dX6_takeHelper_42 : decode cX6_takeHelper 42 = .ok (.ifCond .eq 13, 3) := by decide +kernel
theorem dX6_takeHelper_45 : decode cX6_takeHelper 45 = .ok (.aload_n 0, 1) := by decide +kernel
theorem dX6_takeHelper_46 : decode cX6_takeHelper 46 = .ok (.iconst 0, 1) := by decide +kernel
theorem dX6_takeHelper_47 : decode cX6_takeHelper 47 = .ok (.bipush 9, 2) := by decide +kernel
theorem dX6_takeHelper_49 : decode cX6_takeHelper 49 = .ok (.invokevirtual 182, 3) := by decide +kernel
theorem dX6_takeHelper_52 : decode cX6_takeHelper 52 = .ok (.ifCond .ne 5, 3) := by decide +kernel
theorem dX6_takeHelper_55 : decode cX6_takeHelper 55 = .ok (.iconst 0, 1) := by decide +kernel
theorem dX6_takeHelper_56 : decode cX6_takeHelper 56 = .ok (.ireturn, 1) := by decide +kernel
theorem dX6_takeHelper_57 : decode cX6_takeHelper 57 = .ok (.aload_n 1, 1) := by decide +kernel
theorem dX6_takeHelper_58 : decode cX6_takeHelper 58 = .ok (.getfield 223, 3) := by decide +kernel
theorem dX6_takeHelper_61 : decode cX6_takeHelper 61 = .ok (.iload_n 2, 1) := by decide +kernel
theorem dX6_takeHelper_62 : decode cX6_takeHelper 62 = .ok (.aload_n 0, 1) := by decide +kernel
theorem dX6_takeHelper_63 : decode cX6_takeHelper 63 = .ok (.getfield 80, 3) := by decide +kernel
theorem dX6_takeHelper_66 : decode cX6_takeHelper 66 = .ok (.iastore, 1) := by decide +kernel
theorem dX6_takeHelper_67 : decode cX6_takeHelper 67 = .ok (.aload_n 0, 1) := by decide +kernel
theorem dX6_takeHelper_68 : decode cX6_takeHelper 68 = .ok (.invokevirtual 37, 3) := by decide +kernel
theorem dX6_takeHelper_71 : decode cX6_takeHelper 71 = .ok (.aload_n 0, 1) := by decide +kernel
theorem dX6_takeHelper_72 : decode cX6_takeHelper 72 = .ok (.ldc 224, 2) := by decide +kernel
theorem dX6_takeHelper_74 : decode cX6_takeHelper 74 = .ok (.invokevirtual 179, 3) := by decide +kernel
theorem dX6_takeHelper_77 : decode cX6_takeHelper 77 = .ok (.ifCond .eq 12, 3) := by decide +kernel
theorem dX6_takeHelper_80 : decode cX6_takeHelper 80 = .ok (.aload_n 0, 1) := by decide +kernel
theorem dX6_takeHelper_81 : decode cX6_takeHelper 81 = .ok (.iconst 1, 1) := by decide +kernel
theorem dX6_takeHelper_82 : decode cX6_takeHelper 82 = .ok (.iconst 4, 1) := by decide +kernel
theorem dX6_takeHelper_83 : decode cX6_takeHelper 83 = .ok (.invokevirtual 182, 3) := by decide +kernel
theorem dX6_takeHelper_86 : decode cX6_takeHelper 86 = .ok (.ifCond .ne 5, 3) := by decide +kernel
theorem dX6_takeHelper_89 : decode cX6_takeHelper 89 = .ok (.iconst 0, 1) := by decide +kernel
theorem dX6_takeHelper_90 : decode cX6_takeHelper 90 = .ok (.ireturn, 1) := by decide +kernel
theorem dX6_takeHelper_91 : decode cX6_takeHelper 91 = .ok (.aload_n 1, 1) := by decide +kernel
theorem dX6_takeHelper_92 : decode cX6_takeHelper 92 = .ok (.getfield 226, 3) := by decide +kernel
theorem dX6_takeHelper_95 : decode cX6_takeHelper 95 = .ok (.iload_n 2, 1) := by decide +kernel
theorem dX6_takeHelper_96 : decode cX6_takeHelper 96 = .ok (.aload_n 0, 1) := by decide +kernel
theorem dX6_takeHelper_97 : decode cX6_takeHelper 97 = .ok (.getfield 80, 3) := by decide +kernel
theorem dX6_takeHelper_100 : decode cX6_takeHelper 100 = .ok (.iastore, 1) := by decide +kernel
theorem dX6_takeHelper_101 : decode cX6_takeHelper 101 = .ok (.aload_n 0, 1) := by decide +kernel
theorem dX6_takeHelper_102 : decode cX6_takeHelper 102 = .ok (.invokevirtual 37, 3) := by decide +kernel
theorem dX6_takeHelper_105 : decode cX6_takeHelper 105 = .ok (.aload_n 0, 1) := by decide +kernel
theorem dX6_takeHelper_106 : decode cX6_takeHelper 106 = .ok (.ldc 228, 2) := by decide +kernel
theorem dX6_takeHelper_108 : decode cX6_takeHelper 108 = .ok (.invokevirtual 179, 3) := by decide +kernel
theorem dX6_takeHelper_111 : decode cX6_takeHelper 111 = .ok (.ifCond .eq 13, 3) := by decide +kernel
theorem dX6_takeHelper_114 : decode cX6_takeHelper 114 = .ok (.aload_n 0, 1) := by decide +kernel
theorem dX6_takeHelper_115 : decode cX6_takeHelper 115 = .ok (.iconst 0, 1) := by decide +kernel
theorem dX6_takeHelper_116 : decode cX6_takeHelper 116 = .ok (.bipush 9, 2) := by decide +kernel
theorem dX6_takeHelper_118 : decode cX6_takeHelper 118 = .ok (.invokevirtual 182, 3) := by decide +kernel
theorem dX6_takeHelper_121 : decode cX6_takeHelper 121 = .ok (.ifCond .ne 5, 3) := by decide +kernel
theorem dX6_takeHelper_124 : decode cX6_takeHelper 124 = .ok (.iconst 0, 1) := by decide +kernel
theorem dX6_takeHelper_125 : decode cX6_takeHelper 125 = .ok (.ireturn, 1) := by decide +kernel
theorem dX6_takeHelper_126 : decode cX6_takeHelper 126 = .ok (.aload_n 1, 1) := by decide +kernel
theorem dX6_takeHelper_127 : decode cX6_takeHelper 127 = .ok (.getfield 230, 3) := by decide +kernel
theorem dX6_takeHelper_130 : decode cX6_takeHelper 130 = .ok (.iload_n 2, 1) := by decide +kernel
theorem dX6_takeHelper_131 : decode cX6_takeHelper 131 = .ok (.aload_n 0, 1) := by decide +kernel
theorem dX6_takeHelper_132 : decode cX6_takeHelper 132 = .ok (.getfield 80, 3) := by decide +kernel
theorem dX6_takeHelper_135 : decode cX6_takeHelper 135 = .ok (.iastore, 1) := by decide +kernel
theorem dX6_takeHelper_136 : decode cX6_takeHelper 136 = .ok (.aload_n 0, 1) := by decide +kernel
theorem dX6_takeHelper_137 : decode cX6_takeHelper 137 = .ok (.invokevirtual 37, 3) := by decide +kernel
theorem dX6_takeHelper_140 : decode cX6_takeHelper 140 = .ok (.aload_n 1, 1) := by decide +kernel
theorem dX6_takeHelper_141 : decode cX6_takeHelper 141 = .ok (.dup, 1) := by decide +kernel
theorem dX6_takeHelper_142 : decode cX6_takeHelper 142 = .ok (.getfield 128, 3) := by decide +kernel
theorem dX6_takeHelper_145 : decode cX6_takeHelper 145 = .ok (.iconst 1, 1) := by decide +kernel
theorem dX6_takeHelper_146 : decode cX6_takeHelper 146 = .ok (.iadd, 1) := by decide +kernel
theorem dX6_takeHelper_147 : decode cX6_takeHelper 147 = .ok (.putfield 128, 3) := by decide +kernel
theorem dX6_takeHelper_150 : decode cX6_takeHelper 150 = .ok (.iconst 1, 1) := by decide +kernel
theorem dX6_takeHelper_151 : decode cX6_takeHelper 151 = .ok (.ireturn, 1) := by decide +kernel
theorem dX6_takeWordLine_0 : decode cX6_takeWordLine 0 = .ok (.aload_n 0, 1) := by decide +kernel
theorem dX6_takeWordLine_1 : decode cX6_takeWordLine 1 = .ok (.getfield 19, 3) := by decide +kernel
theorem dX6_takeWordLine_4 : decode cX6_takeWordLine 4 = .ok (.getfield 134, 3) := by decide +kernel
theorem dX6_takeWordLine_7 : decode cX6_takeWordLine 7 = .ok (.astore_n 1, 1) := by decide +kernel
theorem dX6_takeWordLine_8 : decode cX6_takeWordLine 8 = .ok (.aload_n 1, 1) := by decide +kernel
theorem dX6_takeWordLine_9 : decode cX6_takeWordLine 9 = .ok (.getfield 138, 3) := by decide +kernel
theorem dX6_takeWordLine_12 : decode cX6_takeWordLine 12 = .ok (.istore_n 2, 1) := by decide +kernel
theorem dX6_takeWordLine_13 : decode cX6_takeWordLine 13 = .ok (.aload_n 0, 1) := by decide +kernel
theorem dX6_takeWordLine_14 : decode cX6_takeWordLine 14 = .ok (.invokevirtual 191, 3) := by decide +kernel
theorem dX6_takeWordLine_17 : decode cX6_takeWordLine 17 = .ok (.ifCond .ne 5, 3) := by decide +kernel
theorem dX6_takeWordLine_20 : decode cX6_takeWordLine 20 = .ok (.iconst 0, 1) := by decide +kernel
theorem dX6_takeWordLine_21 : decode cX6_takeWordLine 21 = .ok (.ireturn, 1) := by decide +kernel
theorem dX6_takeWordLine_22 : decode cX6_takeWordLine 22 = .ok (.aload_n 1, 1) := by decide +kernel
theorem dX6_takeWordLine_23 : decode cX6_takeWordLine 23 = .ok (.getfield 232, 3) := by decide +kernel
theorem dX6_takeWordLine_26 : decode cX6_takeWordLine 26 = .ok (.iload_n 2, 1) := by decide +kernel
theorem dX6_takeWordLine_27 : decode cX6_takeWordLine 27 = .ok (.aload_n 0, 1) := by decide +kernel
theorem dX6_takeWordLine_28 : decode cX6_takeWordLine 28 = .ok (.getfield 76, 3) := by decide +kernel
theorem dX6_takeWordLine_31 : decode cX6_takeWordLine 31 = .ok (.lastore, 1) := by decide +kernel
theorem dX6_takeWordLine_32 : decode cX6_takeWordLine 32 = .ok (.aload_n 0, 1) := by decide +kernel
theorem dX6_takeWordLine_33 : decode cX6_takeWordLine 33 = .ok (.invokevirtual 37, 3) := by decide +kernel
theorem dX6_takeWordLine_36 : decode cX6_takeWordLine 36 = .ok (.aload_n 0, 1) := by decide +kernel
theorem dX6_takeWordLine_37 : decode cX6_takeWordLine 37 = .ok (.ldc 233, 2) := by decide +kernel
theorem dX6_takeWordLine_39 : decode cX6_takeWordLine 39 = .ok (.invokevirtual 179, 3) := by decide +kernel
theorem dX6_takeWordLine_42 : decode cX6_takeWordLine 42 = .ok (.ifCond .eq 13, 3) := by decide +kernel
theorem dX6_takeWordLine_45 : decode cX6_takeWordLine 45 = .ok (.aload_n 0, 1) := by decide +kernel
theorem dX6_takeWordLine_46 : decode cX6_takeWordLine 46 = .ok (.iconst 1, 1) := by decide +kernel
theorem dX6_takeWordLine_47 : decode cX6_takeWordLine 47 = .ok (.bipush 99, 2) := by decide +kernel
theorem dX6_takeWordLine_49 : decode cX6_takeWordLine 49 = .ok (.invokevirtual 182, 3) := by decide +kernel
theorem dX6_takeWordLine_52 : decode cX6_takeWordLine 52 = .ok (.ifCond .ne 5, 3) := by decide +kernel
theorem dX6_takeWordLine_55 : decode cX6_takeWordLine 55 = .ok (.iconst 0, 1) := by decide +kernel
theorem dX6_takeWordLine_56 : decode cX6_takeWordLine 56 = .ok (.ireturn, 1) := by decide +kernel
theorem dX6_takeWordLine_57 : decode cX6_takeWordLine 57 = .ok (.aload_n 1, 1) := by decide +kernel
theorem dX6_takeWordLine_58 : decode cX6_takeWordLine 58 = .ok (.getfield 235, 3) := by decide +kernel
theorem dX6_takeWordLine_61 : decode cX6_takeWordLine 61 = .ok (.iload_n 2, 1) := by decide +kernel
theorem dX6_takeWordLine_62 : decode cX6_takeWordLine 62 = .ok (.aload_n 0, 1) := by decide +kernel
theorem dX6_takeWordLine_63 : decode cX6_takeWordLine 63 = .ok (.getfield 80, 3) := by decide +kernel
theorem dX6_takeWordLine_66 : decode cX6_takeWordLine 66 = .ok (.iastore, 1) := by decide +kernel
theorem dX6_takeWordLine_67 : decode cX6_takeWordLine 67 = .ok (.aload_n 0, 1) := by decide +kernel
theorem dX6_takeWordLine_68 : decode cX6_takeWordLine 68 = .ok (.invokevirtual 37, 3) := by decide +kernel
theorem dX6_takeWordLine_71 : decode cX6_takeWordLine 71 = .ok (.aload_n 0, 1) := by decide +kernel
theorem dX6_takeWordLine_72 : decode cX6_takeWordLine 72 = .ok (.ldc 237, 2) := by decide +kernel
theorem dX6_takeWordLine_74 : decode cX6_takeWordLine 74 = .ok (.invokevirtual 179, 3) := by decide +kernel
theorem dX6_takeWordLine_77 : decode cX6_takeWordLine 77 = .ok (.ifCond .eq 13, 3) := by decide +kernel
theorem dX6_takeWordLine_80 : decode cX6_takeWordLine 80 = .ok (.aload_n 0, 1) := by decide +kernel
theorem dX6_takeWordLine_81 : decode cX6_takeWordLine 81 = .ok (.iconst 1, 1) := by decide +kernel
theorem dX6_takeWordLine_82 : decode cX6_takeWordLine 82 = .ok (.bipush 30, 2) := by decide +kernel
theorem dX6_takeWordLine_84 : decode cX6_takeWordLine 84 = .ok (.invokevirtual 182, 3) := by decide +kernel
theorem dX6_takeWordLine_87 : decode cX6_takeWordLine 87 = .ok (.ifCond .ne 5, 3) := by decide +kernel
theorem dX6_takeWordLine_90 : decode cX6_takeWordLine 90 = .ok (.iconst 0, 1) := by decide +kernel
theorem dX6_takeWordLine_91 : decode cX6_takeWordLine 91 = .ok (.ireturn, 1) := by decide +kernel
theorem dX6_takeWordLine_92 : decode cX6_takeWordLine 92 = .ok (.aload_n 1, 1) := by decide +kernel
theorem dX6_takeWordLine_93 : decode cX6_takeWordLine 93 = .ok (.getfield 239, 3) := by decide +kernel
theorem dX6_takeWordLine_96 : decode cX6_takeWordLine 96 = .ok (.iload_n 2, 1) := by decide +kernel
theorem dX6_takeWordLine_97 : decode cX6_takeWordLine 97 = .ok (.aload_n 0, 1) := by decide +kernel
theorem dX6_takeWordLine_98 : decode cX6_takeWordLine 98 = .ok (.getfield 80, 3) := by decide +kernel
theorem dX6_takeWordLine_101 : decode cX6_takeWordLine 101 = .ok (.iastore, 1) := by decide +kernel
theorem dX6_takeWordLine_102 : decode cX6_takeWordLine 102 = .ok (.aload_n 0, 1) := by decide +kernel
theorem dX6_takeWordLine_103 : decode cX6_takeWordLine 103 = .ok (.invokevirtual 37, 3) := by decide +kernel
theorem dX6_takeWordLine_106 : decode cX6_takeWordLine 106 = .ok (.aload_n 1, 1) := by decide +kernel
theorem dX6_takeWordLine_107 : decode cX6_takeWordLine 107 = .ok (.getfield 241, 3) := by decide +kernel
theorem dX6_takeWordLine_110 : decode cX6_takeWordLine 110 = .ok (.iload_n 2, 1) := by decide +kernel
theorem dX6_takeWordLine_111 : decode cX6_takeWordLine 111 = .ok (.iconst 0, 1) := by decide +kernel
theorem dX6_takeWordLine_112 : decode cX6_takeWordLine 112 = .ok (.iastore, 1) := by decide +kernel
theorem dX6_takeWordLine_113 : decode cX6_takeWordLine 113 = .ok (.aload_n 1, 1) := by decide +kernel
theorem dX6_takeWordLine_114 : decode cX6_takeWordLine 114 = .ok (.getfield 244, 3) := by decide +kernel
theorem dX6_takeWordLine_117 : decode cX6_takeWordLine 117 = .ok (.iload_n 2, 1) := by decide +kernel
theorem dX6_takeWordLine_118 : decode cX6_takeWordLine 118 = .ok (.iconst 0, 1) := by decide +kernel
theorem dX6_takeWordLine_119 : decode cX6_takeWordLine 119 = .ok (.iastore, 1) := by decide +kernel
theorem dX6_takeWordLine_120 : decode cX6_takeWordLine 120 = .ok (.aload_n 1, 1) := by decide +kernel
theorem dX6_takeWordLine_121 : decode cX6_takeWordLine 121 = .ok (.dup, 1) := by decide +kernel
theorem dX6_takeWordLine_122 : decode cX6_takeWordLine 122 = .ok (.getfield 138, 3) := by decide +kernel
theorem dX6_takeWordLine_125 : decode cX6_takeWordLine 125 = .ok (.iconst 1, 1) := by decide +kernel
theorem dX6_takeWordLine_126 : decode cX6_takeWordLine 126 = .ok (.iadd, 1) := by decide +kernel
theorem dX6_takeWordLine_127 : decode cX6_takeWordLine 127 = .ok (.putfield 138, 3) := by decide +kernel
theorem dX6_takeWordLine_130 : decode cX6_takeWordLine 130 = .ok (.iconst 1, 1) := by decide +kernel
theorem dX6_takeWordLine_131 : decode cX6_takeWordLine 131 = .ok (.ireturn, 1) := by decide +kernel
theorem dX6_isToldWord_0 : decode cX6_isToldWord 0 = .ok (.aload_n 0, 1) := by decide +kernel
theorem dX6_isToldWord_1 : decode cX6_isToldWord 1 = .ok (.getfield 44, 3) := by decide +kernel
theorem dX6_isToldWord_4 : decode cX6_isToldWord 4 = .ok (.iconst 1, 1) := by decide +kernel
theorem dX6_isToldWord_5 : decode cX6_isToldWord 5 = .ok (.if_icmp .ne 10, 3) := by decide +kernel
theorem dX6_isToldWord_8 : decode cX6_isToldWord 8 = .ok (.aload_n 0, 1) := by decide +kernel
theorem dX6_isToldWord_9 : decode cX6_isToldWord 9 = .ok (.invokevirtual 170, 3) := by decide +kernel
theorem dX6_isToldWord_12 : decode cX6_isToldWord 12 = .ok (.ifCond .eq 9, 3) := by decide +kernel
theorem dX6_isToldWord_15 : decode cX6_isToldWord 15 = .ok (.aload_n 0, 1) := by decide +kernel
theorem dX6_isToldWord_16 : decode cX6_isToldWord 16 = .ok (.iconst 1, 1) := by decide +kernel
theorem dX6_isToldWord_17 : decode cX6_isToldWord 17 = .ok (.invokevirtual 47, 3) := by decide +kernel
theorem dX6_isToldWord_20 : decode cX6_isToldWord 20 = .ok (.ireturn, 1) := by decide +kernel
theorem dX6_isToldWord_21 : decode cX6_isToldWord 21 = .ok (.aload_n 0, 1) := by decide +kernel
theorem dX6_isToldWord_22 : decode cX6_isToldWord 22 = .ok (.getfield 19, 3) := by decide +kernel
theorem dX6_isToldWord_25 : decode cX6_isToldWord 25 = .ok (.getfield 134, 3) := by decide +kernel
theorem dX6_isToldWord_28 : decode cX6_isToldWord 28 = .ok (.aload_n 0, 1) := by decide +kernel
theorem dX6_isToldWord_29 : decode cX6_isToldWord 29 = .ok (.getfield 76, 3) := by decide +kernel
theorem dX6_isToldWord_32 : decode cX6_isToldWord 32 = .ok (.invokevirtual 246, 3) := by decide +kernel
theorem dX6_isToldWord_35 : decode cX6_isToldWord 35 = .ok (.iconst (-1), 1) := by decide +kernel
theorem dX6_isToldWord_36 : decode cX6_isToldWord 36 = .ok (.if_icmp .ne 11, 3) := by decide +kernel
theorem dX6_isToldWord_39 : decode cX6_isToldWord 39 = .ok (.aload_n 0, 1) := by decide +kernel
theorem dX6_isToldWord_40 : decode cX6_isToldWord 40 = .ok (.iconst 2, 1) := by decide +kernel
theorem dX6_isToldWord_41 : decode cX6_isToldWord 41 = .ok (.invokevirtual 47, 3) := by decide +kernel
theorem dX6_isToldWord_44 : decode cX6_isToldWord 44 = .ok (.ifCond .eq 7, 3) := by decide +kernel
theorem dX6_isToldWord_47 : decode cX6_isToldWord 47 = .ok (.iconst 1, 1) := by decide +kernel
theorem dX6_isToldWord_48 : decode cX6_isToldWord 48 = .ok (.goto 4, 3) := by decide +kernel
theorem dX6_isToldWord_51 : decode cX6_isToldWord 51 = .ok (.iconst 0, 1) := by decide +kernel
theorem dX6_isToldWord_52 : decode cX6_isToldWord 52 = .ok (.ireturn, 1) := by decide +kernel
theorem dX6_takeBefore_0 : decode cX6_takeBefore 0 = .ok (.aload_n 0, 1) := by decide +kernel
theorem dX6_takeBefore_1 : decode cX6_takeBefore 1 = .ok (.getfield 19, 3) := by decide +kernel
theorem dX6_takeBefore_4 : decode cX6_takeBefore 4 = .ok (.getfield 134, 3) := by decide +kernel
theorem dX6_takeBefore_7 : decode cX6_takeBefore 7 = .ok (.astore_n 1, 1) := by decide +kernel
theorem dX6_takeBefore_8 : decode cX6_takeBefore 8 = .ok (.aload_n 0, 1) := by decide +kernel
theorem dX6_takeBefore_9 : decode cX6_takeBefore 9 = .ok (.invokevirtual 250, 3) := by decide +kernel
theorem dX6_takeBefore_12 : decode cX6_takeBefore 12 = .ok (.ifCond .ne 5, 3) := by decide +kernel
theorem dX6_takeBefore_15 : decode cX6_takeBefore 15 = .ok (.iconst 0, 1) := by decide +kernel
theorem dX6_takeBefore_16 : decode cX6_takeBefore 16 = .ok (.ireturn, 1) := by decide +kernel
theorem dX6_takeBefore_17 : decode cX6_takeBefore 17 = .ok (.aload_n 1, 1) := by decide +kernel
theorem dX6_takeBefore_18 : decode cX6_takeBefore 18 = .ok (.aload_n 0, 1) := by decide +kernel
theorem dX6_takeBefore_19 : decode cX6_takeBefore 19 = .ok (.getfield 76, 3) := by decide +kernel
theorem dX6_takeBefore_22 : decode cX6_takeBefore 22 = .ok (.invokevirtual 246, 3) := by decide +kernel
theorem dX6_takeBefore_25 : decode cX6_takeBefore 25 = .ok (.istore_n 2, 1) := by decide +kernel
theorem dX6_takeBefore_26 : decode cX6_takeBefore 26 = .ok (.aload_n 0, 1) := by decide +kernel
theorem dX6_takeBefore_27 : decode cX6_takeBefore 27 = .ok (.invokevirtual 37, 3) := by decide +kernel
theorem dX6_takeBefore_30 : decode cX6_takeBefore 30 = .ok (.aload_n 0, 1) := by decide +kernel
theorem dX6_takeBefore_31 : decode cX6_takeBefore 31 = .ok (.invokevirtual 250, 3) := by decide +kernel
theorem dX6_takeBefore_34 : decode cX6_takeBefore 34 = .ok (.ifCond .ne 5, 3) := by decide +kernel
theorem dX6_takeBefore_37 : decode cX6_takeBefore 37 = .ok (.iconst 0, 1) := by decide +kernel
theorem dX6_takeBefore_38 : decode cX6_takeBefore 38 = .ok (.ireturn, 1) := by decide +kernel
theorem dX6_takeBefore_39 : decode cX6_takeBefore 39 = .ok (.aload_n 1, 1) := by decide +kernel
theorem dX6_takeBefore_40 : decode cX6_takeBefore 40 = .ok (.aload_n 0, 1) := by decide +kernel
theorem dX6_takeBefore_41 : decode cX6_takeBefore 41 = .ok (.getfield 76, 3) := by decide +kernel
theorem dX6_takeBefore_44 : decode cX6_takeBefore 44 = .ok (.invokevirtual 246, 3) := by decide +kernel
theorem dX6_takeBefore_47 : decode cX6_takeBefore 47 = .ok (.istore_n 3, 1) := by decide +kernel
theorem dX6_takeBefore_48 : decode cX6_takeBefore 48 = .ok (.iload_n 3, 1) := by decide +kernel
theorem dX6_takeBefore_49 : decode cX6_takeBefore 49 = .ok (.iload_n 2, 1) := by decide +kernel
theorem dX6_takeBefore_50 : decode cX6_takeBefore 50 = .ok (.if_icmp .eq 17, 3) := by decide +kernel
theorem dX6_takeBefore_53 : decode cX6_takeBefore 53 = .ok (.aload_n 1, 1) := by decide +kernel
theorem dX6_takeBefore_54 : decode cX6_takeBefore 54 = .ok (.getfield 241, 3) := by decide +kernel
theorem dX6_takeBefore_57 : decode cX6_takeBefore 57 = .ok (.iload_n 3, 1) := by decide +kernel
theorem dX6_takeBefore_58 : decode cX6_takeBefore 58 = .ok (.iaload, 1) := by decide +kernel
theorem dX6_takeBefore_59 : decode cX6_takeBefore 59 = .ok (.iload_n 2, 1) := by decide +kernel
theorem dX6_takeBefore_60 : decode cX6_takeBefore 60 = .ok (.invokestatic 253, 3) := by decide +kernel
theorem dX6_takeBefore_63 : decode cX6_takeBefore 63 = .ok (.iand, 1) := by decide +kernel
theorem dX6_takeBefore_64 : decode cX6_takeBefore 64 = .ok (.ifCond .eq 9, 3) := by decide +kernel
theorem dX6_takeBefore_67 : decode cX6_takeBefore 67 = .ok (.aload_n 0, 1) := by decide +kernel
theorem dX6_takeBefore_68 : decode cX6_takeBefore 68 = .ok (.iconst 3, 1) := by decide +kernel
theorem dX6_takeBefore_69 : decode cX6_takeBefore 69 = .ok (.invokevirtual 47, 3) := by decide +kernel
theorem dX6_takeBefore_72 : decode cX6_takeBefore 72 = .ok (.ireturn, 1) := by decide +kernel
theorem dX6_takeBefore_73 : decode cX6_takeBefore 73 = .ok (.aload_n 1, 1) := by decide +kernel
theorem dX6_takeBefore_74 : decode cX6_takeBefore 74 = .ok (.getfield 244, 3) := by decide +kernel
theorem dX6_takeBefore_77 : decode cX6_takeBefore 77 = .ok (.iload_n 2, 1) := by decide +kernel
theorem dX6_takeBefore_78 : decode cX6_takeBefore 78 = .ok (.iaload, 1) := by decide +kernel
theorem dX6_takeBefore_79 : decode cX6_takeBefore 79 = .ok (.iload_n 3, 1) := by decide +kernel
theorem dX6_takeBefore_80 : decode cX6_takeBefore 80 = .ok (.invokestatic 253, 3) := by decide +kernel
theorem dX6_takeBefore_83 : decode cX6_takeBefore 83 = .ok (.iand, 1) := by decide +kernel
theorem dX6_takeBefore_84 : decode cX6_takeBefore 84 = .ok (.ifCond .eq 10, 3) := by decide +kernel
theorem dX6_takeBefore_87 : decode cX6_takeBefore 87 = .ok (.aload_n 0, 1) := by decide +kernel
theorem dX6_takeBefore_88 : decode cX6_takeBefore 88 = .ok (.bipush 7, 2) := by decide +kernel
theorem dX6_takeBefore_90 : decode cX6_takeBefore 90 = .ok (.invokevirtual 47, 3) := by decide +kernel
theorem dX6_takeBefore_93 : decode cX6_takeBefore 93 = .ok (.ireturn, 1) := by decide +kernel
theorem dX6_takeBefore_94 : decode cX6_takeBefore 94 = .ok (.aload_n 1, 1) := by decide +kernel
theorem dX6_takeBefore_95 : decode cX6_takeBefore 95 = .ok (.iload_n 2, 1) := by decide +kernel
theorem dX6_takeBefore_96 : decode cX6_takeBefore 96 = .ok (.iload_n 3, 1) := by decide +kernel
theorem dX6_takeBefore_97 : decode cX6_takeBefore 97 = .ok (.invokevirtual 257, 3) := by decide +kernel
theorem dX6_takeBefore_100 : decode cX6_takeBefore 100 = .ok (.aload_n 0, 1) := by decide +kernel
theorem dX6_takeBefore_101 : decode cX6_takeBefore 101 = .ok (.invokevirtual 37, 3) := by decide +kernel
theorem dX6_takeBefore_104 : decode cX6_takeBefore 104 = .ok (.iconst 1, 1) := by decide +kernel
theorem dX6_takeBefore_105 : decode cX6_takeBefore 105 = .ok (.ireturn, 1) := by decide +kernel
theorem dX6_takeOrder_0 : decode cX6_takeOrder 0 = .ok (.aload_n 0, 1) := by decide +kernel
theorem dX6_takeOrder_1 : decode cX6_takeOrder 1 = .ok (.getfield 19, 3) := by decide +kernel
theorem dX6_takeOrder_4 : decode cX6_takeOrder 4 = .ok (.getfield 150, 3) := by decide +kernel
theorem dX6_takeOrder_7 : decode cX6_takeOrder 7 = .ok (.astore_n 1, 1) := by decide +kernel
theorem dX6_takeOrder_8 : decode cX6_takeOrder 8 = .ok (.aload_n 1, 1) := by decide +kernel
theorem dX6_takeOrder_9 : decode cX6_takeOrder 9 = .ok (.getfield 154, 3) := by decide +kernel
theorem dX6_takeOrder_12 : decode cX6_takeOrder 12 = .ok (.istore_n 2, 1) := by decide +kernel
theorem dX6_takeOrder_13 : decode cX6_takeOrder 13 = .ok (.aload_n 0, 1) := by decide +kernel
theorem dX6_takeOrder_14 : decode cX6_takeOrder 14 = .ok (.getfield 44, 3) := by decide +kernel
theorem dX6_takeOrder_17 : decode cX6_takeOrder 17 = .ok (.iconst 1, 1) := by decide +kernel
theorem dX6_takeOrder_18 : decode cX6_takeOrder 18 = .ok (.if_icmp .eq 9, 3) := by decide +kernel
theorem dX6_takeOrder_21 : decode cX6_takeOrder 21 = .ok (.aload_n 0, 1) := by decide +kernel
theorem dX6_takeOrder_22 : decode cX6_takeOrder 22 = .ok (.iconst 1, 1) := by decide +kernel
theorem dX6_takeOrder_23 : decode cX6_takeOrder 23 = .ok (.invokevirtual 47, 3) := by decide +kernel
theorem dX6_takeOrder_26 : decode cX6_takeOrder 26 = .ok (.ireturn, 1) := by decide +kernel
theorem dX6_takeOrder_27 : decode cX6_takeOrder 27 = .ok (.aload_n 1, 1) := by decide +kernel
theorem dX6_takeOrder_28 : decode cX6_takeOrder 28 = .ok (.getfield 261, 3) := by decide +kernel
theorem dX6_takeOrder_31 : decode cX6_takeOrder 31 = .ok (.iload_n 2, 1) := by decide +kernel
theorem dX6_takeOrder_32 : decode cX6_takeOrder 32 = .ok (.aload_n 0, 1) := by decide +kernel
theorem dX6_takeOrder_33 : decode cX6_takeOrder 33 = .ok (.getfield 76, 3) := by decide +kernel
theorem dX6_takeOrder_36 : decode cX6_takeOrder 36 = .ok (.lastore, 1) := by decide +kernel
theorem dX6_takeOrder_37 : decode cX6_takeOrder 37 = .ok (.aload_n 0, 1) := by decide +kernel
theorem dX6_takeOrder_38 : decode cX6_takeOrder 38 = .ok (.invokevirtual 37, 3) := by decide +kernel
theorem dX6_takeOrder_41 : decode cX6_takeOrder 41 = .ok (.aload_n 0, 1) := by decide +kernel
theorem dX6_takeOrder_42 : decode cX6_takeOrder 42 = .ok (.ldc 110, 2) := by decide +kernel
theorem dX6_takeOrder_44 : decode cX6_takeOrder 44 = .ok (.invokevirtual 179, 3) := by decide +kernel
theorem dX6_takeOrder_47 : decode cX6_takeOrder 47 = .ok (.ifCond .ne 5, 3) := by decide +kernel
theorem dX6_takeOrder_50 : decode cX6_takeOrder 50 = .ok (.iconst 0, 1) := by decide +kernel
theorem dX6_takeOrder_51 : decode cX6_takeOrder 51 = .ok (.ireturn, 1) := by decide +kernel
theorem dX6_takeOrder_52 : decode cX6_takeOrder 52 = .ok (.aload_n 0, 1) := by decide +kernel
theorem dX6_takeOrder_53 : decode cX6_takeOrder 53 = .ok (.getfield 44, 3) := by decide +kernel
theorem dX6_takeOrder_56 : decode cX6_takeOrder 56 = .ok (.iconst 1, 1) := by decide +kernel
theorem dX6_takeOrder_57 : decode cX6_takeOrder 57 = .ok (.if_icmp .eq 9, 3) := by decide +kernel
theorem dX6_takeOrder_60 : decode cX6_takeOrder 60 = .ok (.aload_n 0, 1) := by decide +kernel
theorem dX6_takeOrder_61 : decode cX6_takeOrder 61 = .ok (.iconst 1, 1) := by decide +kernel
theorem dX6_takeOrder_62 : decode cX6_takeOrder 62 = .ok (.invokevirtual 47, 3) := by decide +kernel
theorem dX6_takeOrder_65 : decode cX6_takeOrder 65 = .ok (.ireturn, 1) := by decide +kernel
theorem dX6_takeOrder_66 : decode cX6_takeOrder 66 = .ok (.aload_n 1, 1) := by decide +kernel
theorem dX6_takeOrder_67 : decode cX6_takeOrder 67 = .ok (.getfield 264, 3) := by decide +kernel
theorem dX6_takeOrder_70 : decode cX6_takeOrder 70 = .ok (.iload_n 2, 1) := by decide +kernel
theorem dX6_takeOrder_71 : decode cX6_takeOrder 71 = .ok (.aload_n 0, 1) := by decide +kernel
theorem dX6_takeOrder_72 : decode cX6_takeOrder 72 = .ok (.getfield 76, 3) := by decide +kernel
theorem dX6_takeOrder_75 : decode cX6_takeOrder 75 = .ok (.lastore, 1) := by decide +kernel
theorem dX6_takeOrder_76 : decode cX6_takeOrder 76 = .ok (.aload_n 0, 1) := by decide +kernel
theorem dX6_takeOrder_77 : decode cX6_takeOrder 77 = .ok (.invokevirtual 37, 3) := by decide +kernel
theorem dX6_takeOrder_80 : decode cX6_takeOrder 80 = .ok (.aload_n 0, 1) := by decide +kernel
theorem dX6_takeOrder_81 : decode cX6_takeOrder 81 = .ok (.ldc_w 267, 3) := by decide +kernel
theorem dX6_takeOrder_84 : decode cX6_takeOrder 84 = .ok (.invokevirtual 179, 3) := by decide +kernel
theorem dX6_takeOrder_87 : decode cX6_takeOrder 87 = .ok (.ifCond .eq 13, 3) := by decide +kernel
theorem dX6_takeOrder_90 : decode cX6_takeOrder 90 = .ok (.aload_n 0, 1) := by decide +kernel
theorem dX6_takeOrder_91 : decode cX6_takeOrder 91 = .ok (.iconst 1, 1) := by decide +kernel
theorem dX6_takeOrder_92 : decode cX6_takeOrder 92 = .ok (.bipush 9, 2) := by decide +kernel
theorem dX6_takeOrder_94 : decode cX6_takeOrder 94 = .ok (.invokevirtual 182, 3) := by decide +kernel
theorem dX6_takeOrder_97 : decode cX6_takeOrder 97 = .ok (.ifCond .ne 5, 3) := by decide +kernel
theorem dX6_takeOrder_100 : decode cX6_takeOrder 100 = .ok (.iconst 0, 1) := by decide +kernel
theorem dX6_takeOrder_101 : decode cX6_takeOrder 101 = .ok (.ireturn, 1) := by decide +kernel
theorem dX6_takeOrder_102 : decode cX6_takeOrder 102 = .ok (.aload_n 1, 1) := by decide +kernel
theorem dX6_takeOrder_103 : decode cX6_takeOrder 103 = .ok (.aload_n 1, 1) := by decide +kernel
theorem dX6_takeOrder_104 : decode cX6_takeOrder 104 = .ok (.getfield 261, 3) := by decide +kernel
theorem dX6_takeOrder_107 : decode cX6_takeOrder 107 = .ok (.iload_n 2, 1) := by decide +kernel
theorem dX6_takeOrder_108 : decode cX6_takeOrder 108 = .ok (.laload, 1) := by decide +kernel
theorem dX6_takeOrder_109 : decode cX6_takeOrder 109 = .ok (.aload_n 0, 1) := by decide +kernel
theorem dX6_takeOrder_110 : decode cX6_takeOrder 110 = .ok (.getfield 80, 3) := by decide +kernel
theorem dX6_takeOrder_113 : decode cX6_takeOrder 113 = .ok (.invokevirtual 269, 3) := by decide +kernel
theorem dX6_takeOrder_116 : decode cX6_takeOrder 116 = .ok (.ifCond .eq 9, 3) := by decide +kernel
theorem dX6_takeOrder_119 : decode cX6_takeOrder 119 = .ok (.aload_n 0, 1) := by decide +kernel
theorem dX6_takeOrder_120 : decode cX6_takeOrder 120 = .ok (.iconst 3, 1) := by decide +kernel
theorem dX6_takeOrder_121 : decode cX6_takeOrder 121 = .ok (.invokevirtual 47, 3) := by decide +kernel
theorem dX6_takeOrder_124 : decode cX6_takeOrder 124 = .ok (.ireturn, 1) := by decide +kernel
theorem dX6_takeOrder_125 : decode cX6_takeOrder 125 = .ok (.aload_n 1, 1) := by decide +kernel
theorem dX6_takeOrder_126 : decode cX6_takeOrder 126 = .ok (.getfield 273, 3) := by decide +kernel
theorem dX6_takeOrder_129 : decode cX6_takeOrder 129 = .ok (.iload_n 2, 1) := by decide +kernel
theorem dX6_takeOrder_130 : decode cX6_takeOrder 130 = .ok (.aload_n 0, 1) := by decide +kernel
theorem dX6_takeOrder_131 : decode cX6_takeOrder 131 = .ok (.getfield 80, 3) := by decide +kernel
theorem dX6_takeOrder_134 : decode cX6_takeOrder 134 = .ok (.iastore, 1) := by decide +kernel
theorem dX6_takeOrder_135 : decode cX6_takeOrder 135 = .ok (.aload_n 0, 1) := by decide +kernel
theorem dX6_takeOrder_136 : decode cX6_takeOrder 136 = .ok (.invokevirtual 37, 3) := by decide +kernel
theorem dX6_takeOrder_139 : decode cX6_takeOrder 139 = .ok (.aload_n 1, 1) := by decide +kernel
theorem dX6_takeOrder_140 : decode cX6_takeOrder 140 = .ok (.dup, 1) := by decide +kernel
theorem dX6_takeOrder_141 : decode cX6_takeOrder 141 = .ok (.getfield 154, 3) := by decide +kernel
theorem dX6_takeOrder_144 : decode cX6_takeOrder 144 = .ok (.iconst 1, 1) := by decide +kernel
theorem dX6_takeOrder_145 : decode cX6_takeOrder 145 = .ok (.iadd, 1) := by decide +kernel
theorem dX6_takeOrder_146 : decode cX6_takeOrder 146 = .ok (.putfield 154, 3) := by decide +kernel
theorem dX6_takeOrder_149 : decode cX6_takeOrder 149 = .ok (.iconst 1, 1) := by decide +kernel
theorem dX6_takeOrder_150 : decode cX6_takeOrder 150 = .ok (.ireturn, 1) := by decide +kernel
theorem dX6_takeSeen_0 : decode cX6_takeSeen 0 = .ok (.aload_n 0, 1) := by decide +kernel
theorem dX6_takeSeen_1 : decode cX6_takeSeen 1 = .ok (.getfield 19, 3) := by decide +kernel
theorem dX6_takeSeen_4 : decode cX6_takeSeen 4 = .ok (.getfield 150, 3) := by decide +kernel
theorem dX6_takeSeen_7 : decode cX6_takeSeen 7 = .ok (.astore_n 1, 1) := by decide +kernel
theorem dX6_takeSeen_8 : decode cX6_takeSeen 8 = .ok (.aload_n 1, 1) := by decide +kernel
theorem dX6_takeSeen_9 : decode cX6_takeSeen 9 = .ok (.getfield 160, 3) := by decide +kernel
theorem dX6_takeSeen_12 : decode cX6_takeSeen 12 = .ok (.istore_n 2, 1) := by decide +kernel
theorem dX6_takeSeen_13 : decode cX6_takeSeen 13 = .ok (.aload_n 0, 1) := by decide +kernel
theorem dX6_takeSeen_14 : decode cX6_takeSeen 14 = .ok (.getfield 44, 3) := by decide +kernel
theorem dX6_takeSeen_17 : decode cX6_takeSeen 17 = .ok (.iconst 1, 1) := by decide +kernel
theorem dX6_takeSeen_18 : decode cX6_takeSeen 18 = .ok (.if_icmp .eq 9, 3) := by decide +kernel
theorem dX6_takeSeen_21 : decode cX6_takeSeen 21 = .ok (.aload_n 0, 1) := by decide +kernel
theorem dX6_takeSeen_22 : decode cX6_takeSeen 22 = .ok (.iconst 1, 1) := by decide +kernel
theorem dX6_takeSeen_23 : decode cX6_takeSeen 23 = .ok (.invokevirtual 47, 3) := by decide +kernel
theorem dX6_takeSeen_26 : decode cX6_takeSeen 26 = .ok (.ireturn, 1) := by decide +kernel
theorem dX6_takeSeen_27 : decode cX6_takeSeen 27 = .ok (.aload_n 1, 1) := by decide +kernel
theorem dX6_takeSeen_28 : decode cX6_takeSeen 28 = .ok (.aload_n 0, 1) := by decide +kernel
theorem dX6_takeSeen_29 : decode cX6_takeSeen 29 = .ok (.getfield 76, 3) := by decide +kernel
theorem dX6_takeSeen_32 : decode cX6_takeSeen 32 = .ok (.invokevirtual 275, 3) := by decide +kernel
theorem dX6_takeSeen_35 : decode cX6_takeSeen 35 = .ok (.ifCond .eq 9, 3) := by decide +kernel
theorem dX6_takeSeen_38 : decode cX6_takeSeen 38 = .ok (.aload_n 0, 1) := by decide +kernel
theorem dX6_takeSeen_39 : decode cX6_takeSeen 39 = .ok (.iconst 3, 1) := by decide +kernel
theorem dX6_takeSeen_40 : decode cX6_takeSeen 40 = .ok (.invokevirtual 47, 3) := by decide +kernel
theorem dX6_takeSeen_43 : decode cX6_takeSeen 43 = .ok (.ireturn, 1) := by decide +kernel
theorem dX6_takeSeen_44 : decode cX6_takeSeen 44 = .ok (.aload_n 1, 1) := by decide +kernel
theorem dX6_takeSeen_45 : decode cX6_takeSeen 45 = .ok (.getfield 278, 3) := by decide +kernel
theorem dX6_takeSeen_48 : decode cX6_takeSeen 48 = .ok (.iload_n 2, 1) := by decide +kernel
theorem dX6_takeSeen_49 : decode cX6_takeSeen 49 = .ok (.aload_n 0, 1) := by decide +kernel
theorem dX6_takeSeen_50 : decode cX6_takeSeen 50 = .ok (.getfield 76, 3) := by decide +kernel
theorem dX6_takeSeen_53 : decode cX6_takeSeen 53 = .ok (.lastore, 1) := by decide +kernel
theorem dX6_takeSeen_54 : decode cX6_takeSeen 54 = .ok (.aload_n 1, 1) := by decide +kernel
theorem dX6_takeSeen_55 : decode cX6_takeSeen 55 = .ok (.getfield 281, 3) := by decide +kernel
theorem dX6_takeSeen_58 : decode cX6_takeSeen 58 = .ok (.iload_n 2, 1) := by decide +kernel
theorem dX6_takeSeen_59 : decode cX6_takeSeen 59 = .ok (.lconst 0, 1) := by decide +kernel
theorem dX6_takeSeen_60 : decode cX6_takeSeen 60 = .ok (.lastore, 1) := by decide +kernel
theorem dX6_takeSeen_61 : decode cX6_takeSeen 61 = .ok (.aload_n 0, 1) := by decide +kernel
theorem dX6_takeSeen_62 : decode cX6_takeSeen 62 = .ok (.invokevirtual 37, 3) := by decide +kernel
theorem dX6_takeSeen_65 : decode cX6_takeSeen 65 = .ok (.aload_n 0, 1) := by decide +kernel
theorem dX6_takeSeen_66 : decode cX6_takeSeen 66 = .ok (.ldc 112, 2) := by decide +kernel
theorem dX6_takeSeen_68 : decode cX6_takeSeen 68 = .ok (.invokevirtual 94, 3) := by decide +kernel
theorem dX6_takeSeen_71 : decode cX6_takeSeen 71 = .ok (.ifCond .ne 38, 3) := by decide +kernel
theorem dX6_takeSeen_74 : decode cX6_takeSeen 74 = .ok (.aload_n 0, 1) := by decide +kernel
theorem dX6_takeSeen_75 : decode cX6_takeSeen 75 = .ok (.ldc 110, 2) := by decide +kernel
theorem dX6_takeSeen_77 : decode cX6_takeSeen 77 = .ok (.invokevirtual 179, 3) := by decide +kernel
theorem dX6_takeSeen_80 : decode cX6_takeSeen 80 = .ok (.ifCond .ne 5, 3) := by decide +kernel
theorem dX6_takeSeen_83 : decode cX6_takeSeen 83 = .ok (.iconst 0, 1) := by decide +kernel
theorem dX6_takeSeen_84 : decode cX6_takeSeen 84 = .ok (.ireturn, 1) := by decide +kernel
theorem dX6_takeSeen_85 : decode cX6_takeSeen 85 = .ok (.aload_n 0, 1) := by decide +kernel
theorem dX6_takeSeen_86 : decode cX6_takeSeen 86 = .ok (.getfield 44, 3) := by decide +kernel
theorem dX6_takeSeen_89 : decode cX6_takeSeen 89 = .ok (.iconst 1, 1) := by decide +kernel
theorem dX6_takeSeen_90 : decode cX6_takeSeen 90 = .ok (.if_icmp .eq 9, 3) := by decide +kernel
theorem dX6_takeSeen_93 : decode cX6_takeSeen 93 = .ok (.aload_n 0, 1) := by decide +kernel
theorem dX6_takeSeen_94 : decode cX6_takeSeen 94 = .ok (.iconst 1, 1) := by decide +kernel
theorem dX6_takeSeen_95 : decode cX6_takeSeen 95 = .ok (.invokevirtual 47, 3) := by decide +kernel
theorem dX6_takeSeen_98 : decode cX6_takeSeen 98 = .ok (.ireturn, 1) := by decide +kernel
theorem dX6_takeSeen_99 : decode cX6_takeSeen 99 = .ok (.aload_n 1, 1) := by decide +kernel
theorem dX6_takeSeen_100 : decode cX6_takeSeen 100 = .ok (.getfield 281, 3) := by decide +kernel
theorem dX6_takeSeen_103 : decode cX6_takeSeen 103 = .ok (.iload_n 2, 1) := by decide +kernel
theorem dX6_takeSeen_104 : decode cX6_takeSeen 104 = .ok (.aload_n 0, 1) := by decide +kernel
theorem dX6_takeSeen_105 : decode cX6_takeSeen 105 = .ok (.getfield 76, 3) := by decide +kernel
theorem dX6_takeSeen_108 : decode cX6_takeSeen 108 = .ok (.lastore, 1) := by decide +kernel
theorem dX6_takeSeen_109 : decode cX6_takeSeen 109 = .ok (.aload_n 0, 1) := by decide +kernel
theorem dX6_takeSeen_110 : decode cX6_takeSeen 110 = .ok (.invokevirtual 37, 3) := by decide +kernel
theorem dX6_takeSeen_113 : decode cX6_takeSeen 113 = .ok (.aload_n 1, 1) := by decide +kernel
theorem dX6_takeSeen_114 : decode cX6_takeSeen 114 = .ok (.dup, 1) := by decide +kernel
theorem dX6_takeSeen_115 : decode cX6_takeSeen 115 = .ok (.getfield 160, 3) := by decide +kernel
theorem dX6_takeSeen_118 : decode cX6_takeSeen 118 = .ok (.iconst 1, 1) := by decide +kernel
theorem dX6_takeSeen_119 : decode cX6_takeSeen 119 = .ok (.iadd, 1) := by decide +kernel
theorem dX6_takeSeen_120 : decode cX6_takeSeen 120 = .ok (.putfield 160, 3) := by decide +kernel
theorem dX6_takeSeen_123 : decode cX6_takeSeen 123 = .ok (.iconst 1, 1) := by decide +kernel
theorem dX6_takeSeen_124 : decode cX6_takeSeen 124 = .ok (.ireturn, 1) := by decide +kernel
theorem dX7_init_0 : decode cX7_init 0 = .ok (.aload_n 0, 1) := by decide +kernel
theorem dX7_init_1 : decode cX7_init 1 = .ok (.invokespecial 3, 3) := by decide +kernel
theorem dX7_init_4 : decode cX7_init 4 = .ok (.aload_n 0, 1) := by decide +kernel
theorem dX7_init_5 : decode cX7_init 5 = .ok (.sipush 128, 3) := by decide +kernel
theorem dX7_init_8 : decode cX7_init 8 = .ok (.newarray .int, 2) := by decide +kernel
theorem dX7_init_10 : decode cX7_init 10 = .ok (.putfield 11, 3) := by decide +kernel
theorem dX7_init_13 : decode cX7_init 13 = .ok (.aload_n 0, 1) := by decide +kernel
theorem dX7_init_14 : decode cX7_init 14 = .ok (.sipush 128, 3) := by decide +kernel
theorem dX7_init_17 : decode cX7_init 17 = .ok (.newarray .int, 2) := by decide +kernel
theorem dX7_init_19 : decode cX7_init 19 = .ok (.putfield 15, 3) := by decide +kernel
theorem dX7_init_22 : decode cX7_init 22 = .ok (.aload_n 0, 1) := by decide +kernel
theorem dX7_init_23 : decode cX7_init 23 = .ok (.sipush 128, 3) := by decide +kernel
theorem dX7_init_26 : decode cX7_init 26 = .ok (.newarray .int, 2) := by decide +kernel
theorem dX7_init_28 : decode cX7_init 28 = .ok (.putfield 18, 3) := by decide +kernel
theorem dX7_init_31 : decode cX7_init 31 = .ok (.aload_n 0, 1) := by decide +kernel
theorem dX7_init_32 : decode cX7_init 32 = .ok (.sipush 128, 3) := by decide +kernel
theorem dX7_init_35 : decode cX7_init 35 = .ok (.newarray .int, 2) := by decide +kernel
theorem dX7_init_37 : decode cX7_init 37 = .ok (.putfield 21, 3) := by decide +kernel
theorem dX7_init_40 : decode cX7_init 40 = .ok (.aload_n 0, 1) := by decide +kernel
theorem dX7_init_41 : decode cX7_init 41 = .ok (.sipush 128, 3) := by decide +kernel
theorem dX7_init_44 : decode cX7_init 44 = .ok (.newarray .int, 2) := by decide +kernel
theorem dX7_init_46 : decode cX7_init 46 = .ok (.putfield 24, 3) := by decide +kernel
theorem dX7_init_49 : decode cX7_init 49 = .ok (.return_, 1) := by decide +kernel
theorem dX7_learn_0 : decode cX7_learn 0 = .ok (.aload_n 0, 1) := by decide +kernel
theorem dX7_learn_1 : decode cX7_learn 1 = .ok (.getfield 27, 3) := by decide +kernel
theorem dX7_learn_4 : decode cX7_learn 4 = .ok (.ifCond .eq 4, 3) := by decide +kernel
theorem dX7_learn_7 : decode cX7_learn 7 = .ok (.return_, 1) := by decide +kernel
theorem dX7_learn_8 : decode cX7_learn 8 = .ok (.aload_n 0, 1) := by decide +kernel
theorem dX7_learn_9 : decode cX7_learn 9 = .ok (.getfield 24, 3) := by decide +kernel
theorem dX7_learn_12 : decode cX7_learn 12 = .ok (.iconst 0, 1) := by decide +kernel
theorem dX7_learn_13 : decode cX7_learn 13 = .ok (.iconst 1, 1) := by decide +kernel
theorem dX7_learn_14 : decode cX7_learn 14 = .ok (.iastore, 1) := by decide +kernel
theorem dX7_learn_15 : decode cX7_learn 15 = .ok (.iconst 1, 1) := by decide +kernel
theorem dX7_learn_16 : decode cX7_learn 16 = .ok (.istore_n 2, 1) := by decide +kernel
theorem dX7_learn_17 : decode cX7_learn 17 = .ok (.iload_n 2, 1) := by decide +kernel
theorem dX7_learn_18 : decode cX7_learn 18 = .ok (.aload_n 1, 1) := by decide +kernel
theorem dX7_learn_19 : decode cX7_learn 19 = .ok (.getfield 31, 3) := by decide +kernel
theorem dX7_learn_22 : decode cX7_learn 22 = .ok (.invokestatic 37, 3) := by decide +kernel
theorem dX7_learn_25 : decode cX7_learn 25 = .ok (.if_icmp .gt 21, 3) := by decide +kernel
theorem dX7_learn_28 : decode cX7_learn 28 = .ok (.aload_n 0, 1) := by decide +kernel
theorem dX7_learn_29 : decode cX7_learn 29 = .ok (.aload_n 1, 1) := by decide +kernel
theorem dX7_learn_30 : decode cX7_learn 30 = .ok (.iload_n 2, 1) := by decide +kernel
theorem dX7_learn_31 : decode cX7_learn 31 = .ok (.invokevirtual 41, 3) := by decide +kernel
theorem dX7_learn_34 : decode cX7_learn 34 = .ok (.aload_n 0, 1) := by decide +kernel
theorem dX7_learn_35 : decode cX7_learn 35 = .ok (.aload_n 1, 1) := by decide +kernel
theorem dX7_learn_36 : decode cX7_learn 36 = .ok (.iload_n 2, 1) := by decide +kernel
theorem dX7_learn_37 : decode cX7_learn 37 = .ok (.invokevirtual 45, 3) := by decide +kernel
theorem dX7_learn_40 : decode cX7_learn 40 = .ok (.iinc 2 1, 3) := by decide +kernel
theorem dX7_learn_43 : decode cX7_learn 43 = .ok (.goto (-26), 3) := by decide +kernel
theorem dX7_learn_46 : decode cX7_learn 46 = .ok (.aload_n 0, 1) := by decide +kernel
theorem dX7_learn_47 : decode cX7_learn 47 = .ok (.iconst 1, 1) := by decide +kernel
theorem dX7_learn_48 : decode cX7_learn 48 = .ok (.putfield 27, 3) := by decide +kernel
theorem dX7_learn_51 : decode cX7_learn 51 = .ok (.return_, 1) := by decide +kernel
theorem dX7_addUp_0 : decode cX7_addUp 0 = .ok (.iload_n 2, 1) := by decide +kernel
theorem dX7_addUp_1 : decode cX7_addUp 1 = .ok (.invokestatic 48, 3) := by decide +kernel
theorem dX7_addUp_4 : decode cX7_addUp 4 = .ok (.istore_n 3, 1) := by decide +kernel
theorem dX7_addUp_5 : decode cX7_addUp 5 = .ok (.iload_n 2, 1) := by decide +kernel
theorem dX7_addUp_6 : decode cX7_addUp 6 = .ok (.iload_n 3, 1) := by decide +kernel
theorem dX7_addUp_7 : decode cX7_addUp 7 = .ok (.invokestatic 53, 3) := by decide +kernel
theorem dX7_addUp_10 : decode cX7_addUp 10 = .ok (.iconst (-1), 1) := by decide +kernel
theorem dX7_addUp_11 : decode cX7_addUp 11 = .ok (.ixor, 1) := by decide +kernel
theorem dX7_addUp_12 : decode cX7_addUp 12 = .ok (.iand, 1) := by decide +kernel
theorem dX7_addUp_13 : decode cX7_addUp 13 = .ok (.istore 4, 2) := by decide +kernel
theorem dX7_addUp_15 : decode cX7_addUp 15 = .ok (.aload_n 0, 1) := by decide +kernel
theorem dX7_addUp_16 : decode cX7_addUp 16 = .ok (.getfield 11, 3) := by decide +kernel
theorem dX7_addUp_19 : decode cX7_addUp 19 = .ok (.iload_n 2, 1) := by decide +kernel
theorem dX7_addUp_20 : decode cX7_addUp 20 = .ok (.aload_n 0, 1) := by decide +kernel
theorem dX7_addUp_21 : decode cX7_addUp 21 = .ok (.getfield 11, 3) := by decide +kernel
theorem dX7_addUp_24 : decode cX7_addUp 24 = .ok (.iload 4, 2) := by decide +kernel
theorem dX7_addUp_26 : decode cX7_addUp 26 = .ok (.iaload, 1) := by decide +kernel
theorem dX7_addUp_27 : decode cX7_addUp 27 = .ok (.aload_n 1, 1) := by decide +kernel
theorem dX7_addUp_28 : decode cX7_addUp 28 = .ok (.getfield 56, 3) := by decide +kernel
theorem dX7_addUp_31 : decode cX7_addUp 31 = .ok (.iload_n 3, 1) := by decide +kernel
theorem dX7_addUp_32 : decode cX7_addUp 32 = .ok (.iaload, 1) := by decide +kernel
theorem dX7_addUp_33 : decode cX7_addUp 33 = .ok (.iadd, 1) := by decide +kernel
theorem dX7_addUp_34 : decode cX7_addUp 34 = .ok (.iastore, 1) := by decide +kernel
theorem dX7_addUp_35 : decode cX7_addUp 35 = .ok (.aload_n 0, 1) := by decide +kernel
theorem dX7_addUp_36 : decode cX7_addUp 36 = .ok (.getfield 15, 3) := by decide +kernel
theorem dX7_addUp_39 : decode cX7_addUp 39 = .ok (.iload_n 2, 1) := by decide +kernel
theorem dX7_addUp_40 : decode cX7_addUp 40 = .ok (.aload_n 0, 1) := by decide +kernel
theorem dX7_addUp_41 : decode cX7_addUp 41 = .ok (.getfield 15, 3) := by decide +kernel
theorem dX7_addUp_44 : decode cX7_addUp 44 = .ok (.iload 4, 2) := by decide +kernel
theorem dX7_addUp_46 : decode cX7_addUp 46 = .ok (.iaload, 1) := by decide +kernel
theorem dX7_addUp_47 : decode cX7_addUp 47 = .ok (.aload_n 1, 1) := by decide +kernel
theorem dX7_addUp_48 : decode cX7_addUp 48 = .ok (.getfield 57, 3) := by decide +kernel
theorem dX7_addUp_51 : decode cX7_addUp 51 = .ok (.iload_n 3, 1) := by decide +kernel
theorem dX7_addUp_52 : decode cX7_addUp 52 = .ok (.iaload, 1) := by decide +kernel
theorem dX7_addUp_53 : decode cX7_addUp 53 = .ok (.iadd, 1) := by decide +kernel
theorem dX7_addUp_54 : decode cX7_addUp 54 = .ok (.iastore, 1) := by decide +kernel
theorem dX7_addUp_55 : decode cX7_addUp 55 = .ok (.aload_n 0, 1) := by decide +kernel
theorem dX7_addUp_56 : decode cX7_addUp 56 = .ok (.getfield 18, 3) := by decide +kernel
theorem dX7_addUp_59 : decode cX7_addUp 59 = .ok (.iload_n 2, 1) := by decide +kernel
theorem dX7_addUp_60 : decode cX7_addUp 60 = .ok (.aload_n 0, 1) := by decide +kernel
theorem dX7_addUp_61 : decode cX7_addUp 61 = .ok (.getfield 18, 3) := by decide +kernel
theorem dX7_addUp_64 : decode cX7_addUp 64 = .ok (.iload 4, 2) := by decide +kernel
theorem dX7_addUp_66 : decode cX7_addUp 66 = .ok (.iaload, 1) := by decide +kernel
theorem dX7_addUp_67 : decode cX7_addUp 67 = .ok (.aload_n 1, 1) := by decide +kernel
theorem dX7_addUp_68 : decode cX7_addUp 68 = .ok (.getfield 58, 3) := by decide +kernel
theorem dX7_addUp_71 : decode cX7_addUp 71 = .ok (.iload_n 3, 1) := by decide +kernel
theorem dX7_addUp_72 : decode cX7_addUp 72 = .ok (.iaload, 1) := by decide +kernel
theorem dX7_addUp_73 : decode cX7_addUp 73 = .ok (.ior, 1) := by decide +kernel
theorem dX7_addUp_74 : decode cX7_addUp 74 = .ok (.iastore, 1) := by decide +kernel
theorem dX7_addUp_75 : decode cX7_addUp 75 = .ok (.return_, 1) := by decide +kernel
theorem dX7_weigh_0 : decode cX7_weigh 0 = .ok (.iconst (-1), 1) := by decide +kernel
theorem dX7_weigh_1 : decode cX7_weigh 1 = .ok (.istore_n 3, 1) := by decide +kernel
theorem dX7_weigh_2 : decode cX7_weigh 2 = .ok (.iconst 0, 1) := by decide +kernel
theorem dX7_weigh_3 : decode cX7_weigh 3 = .ok (.istore 4, 2) := by decide +kernel
theorem dX7_weigh_5 : decode cX7_weigh 5 = .ok (.iconst 0, 1) := by decide +kernel
theorem dX7_weigh_6 : decode cX7_weigh 6 = .ok (.istore 5, 2) := by decide +kernel
theorem dX7_weigh_8 : decode cX7_weigh 8 = .ok (.iload 5, 2) := by decide +kernel
theorem dX7_weigh_10 : decode cX7_weigh 10 = .ok (.aload_n 1, 1) := by decide +kernel
theorem dX7_weigh_11 : decode cX7_weigh 11 = .ok (.getfield 31, 3) := by decide +kernel
theorem dX7_weigh_14 : decode cX7_weigh 14 = .ok (.if_icmp .ge 66, 3) := by decide +kernel
theorem dX7_weigh_17 : decode cX7_weigh 17 = .ok (.aload_n 1, 1) := by decide +kernel
theorem dX7_weigh_18 : decode cX7_weigh 18 = .ok (.iload_n 2, 1) := by decide +kernel
theorem dX7_weigh_19 : decode cX7_weigh 19 = .ok (.iload 5, 2) := by decide +kernel
theorem dX7_weigh_21 : decode cX7_weigh 21 = .ok (.invokestatic 61, 3) := by decide +kernel
theorem dX7_weigh_24 : decode cX7_weigh 24 = .ok (.ifCond .eq 50, 3) := by decide +kernel
theorem dX7_weigh_27 : decode cX7_weigh 27 = .ok (.aload_n 0, 1) := by decide +kernel
theorem dX7_weigh_28 : decode cX7_weigh 28 = .ok (.aload_n 1, 1) := by decide +kernel
theorem dX7_weigh_29 : decode cX7_weigh 29 = .ok (.iload_n 2, 1) := by decide +kernel
theorem dX7_weigh_30 : decode cX7_weigh 30 = .ok (.iload 5, 2) := by decide +kernel
theorem dX7_weigh_32 : decode cX7_weigh 32 = .ok (.invokevirtual 65, 3) := by decide +kernel
theorem dX7_weigh_35 : decode cX7_weigh 35 = .ok (.istore 6, 2) := by decide +kernel
theorem dX7_weigh_37 : decode cX7_weigh 37 = .ok (.iload_n 3, 1) := by decide +kernel
theorem dX7_weigh_38 : decode cX7_weigh 38 = .ok (.iconst (-1), 1) := by decide +kernel
theorem dX7_weigh_39 : decode cX7_weigh 39 = .ok (.if_icmp .eq 9, 3) := by decide +kernel
theorem dX7_weigh_42 : decode cX7_weigh 42 = .ok (.iload 6, 2) := by decide +kernel
theorem dX7_weigh_44 : decode cX7_weigh 44 = .ok (.iload_n 3, 1) := by decide +kernel
theorem dX7_weigh_45 : decode cX7_weigh 45 = .ok (.if_icmp .ge 8, 3) := by decide +kernel
theorem dX7_weigh_48 : decode cX7_weigh 48 = .ok (.iload 6, 2) := by decide +kernel
theorem dX7_weigh_50 : decode cX7_weigh 50 = .ok (.goto 4, 3) := by decide +kernel
theorem dX7_weigh_53 : decode cX7_weigh 53 = .ok (.iload_n 3, 1) := by decide +kernel
theorem dX7_weigh_54 : decode cX7_weigh 54 = .ok (.istore_n 3, 1) := by decide +kernel
theorem dX7_weigh_55 : decode cX7_weigh 55 = .ok (.iload 4, 2) := by decide +kernel
theorem dX7_weigh_57 : decode cX7_weigh 57 = .ok (.aload_n 0, 1) := by decide +kernel
theorem dX7_weigh_58 : decode cX7_weigh 58 = .ok (.getfield 24, 3) := by decide +kernel
theorem dX7_weigh_61 : decode cX7_weigh 61 = .ok (.iload_n 2, 1) := by decide +kernel
theorem dX7_weigh_62 : decode cX7_weigh 62 = .ok (.iload 5, 2) := by decide +kernel
theorem dX7_weigh_64 : decode cX7_weigh 64 = .ok (.invokestatic 53, 3) := by decide +kernel
theorem dX7_weigh_67 : decode cX7_weigh 67 = .ok (.iconst (-1), 1) := by decide +kernel
theorem dX7_weigh_68 : decode cX7_weigh 68 = .ok (.ixor, 1) := by decide +kernel
theorem dX7_weigh_69 : decode cX7_weigh 69 = .ok (.iand, 1) := by decide +kernel
theorem dX7_weigh_70 : decode cX7_weigh 70 = .ok (.iaload, 1) := by decide +kernel
theorem dX7_weigh_71 : decode cX7_weigh 71 = .ok (.iadd, 1) := by decide +kernel
theorem dX7_weigh_72 : decode cX7_weigh 72 = .ok (.istore 4, 2) := by decide +kernel
theorem dX7_weigh_74 : decode cX7_weigh 74 = .ok (.iinc 5 1, 3) := by decide +kernel
theorem dX7_weigh_77 : decode cX7_weigh 77 = .ok (.goto (-69), 3) := by decide +kernel
theorem dX7_weigh_80 : decode cX7_weigh 80 = .ok (.aload_n 0, 1) := by decide +kernel
theorem dX7_weigh_81 : decode cX7_weigh 81 = .ok (.getfield 21, 3) := by decide +kernel
theorem dX7_weigh_84 : decode cX7_weigh 84 = .ok (.iload_n 2, 1) := by decide +kernel
theorem dX7_weigh_85 : decode cX7_weigh 85 = .ok (.iload_n 3, 1) := by decide +kernel
theorem dX7_weigh_86 : decode cX7_weigh 86 = .ok (.iastore, 1) := by decide +kernel
theorem dX7_weigh_87 : decode cX7_weigh 87 = .ok (.aload_n 0, 1) := by decide +kernel
theorem dX7_weigh_88 : decode cX7_weigh 88 = .ok (.getfield 24, 3) := by decide +kernel
theorem dX7_weigh_91 : decode cX7_weigh 91 = .ok (.iload_n 2, 1) := by decide +kernel
theorem dX7_weigh_92 : decode cX7_weigh 92 = .ok (.iload 4, 2) := by decide +kernel
theorem dX7_weigh_94 : decode cX7_weigh 94 = .ok (.iastore, 1) := by decide +kernel
theorem dX7_weigh_95 : decode cX7_weigh 95 = .ok (.return_, 1) := by decide +kernel
theorem dX7_canBegin_0 : decode cX7_canBegin 0 = .ok (.iload_n 1, 1) := by decide +kernel
theorem dX7_canBegin_1 : decode cX7_canBegin 1 = .ok (.iload_n 2, 1) := by decide +kernel
theorem dX7_canBegin_2 : decode cX7_canBegin 2 = .ok (.invokestatic 53, 3) := by decide +kernel
theorem dX7_canBegin_5 : decode cX7_canBegin 5 = .ok (.iand, 1) := by decide +kernel
theorem dX7_canBegin_6 : decode cX7_canBegin 6 = .ok (.ifCond .eq 18, 3) := by decide +kernel
theorem dX7_canBegin_9 : decode cX7_canBegin 9 = .ok (.aload_n 0, 1) := by decide +kernel
theorem dX7_canBegin_10 : decode cX7_canBegin 10 = .ok (.getfield 58, 3) := by decide +kernel
theorem dX7_canBegin_13 : decode cX7_canBegin 13 = .ok (.iload_n 2, 1) := by decide +kernel
theorem dX7_canBegin_14 : decode cX7_canBegin 14 = .ok (.iaload, 1) := by decide +kernel
theorem dX7_canBegin_15 : decode cX7_canBegin 15 = .ok (.iload_n 1, 1) := by decide +kernel
theorem dX7_canBegin_16 : decode cX7_canBegin 16 = .ok (.iand, 1) := by decide +kernel
theorem dX7_canBegin_17 : decode cX7_canBegin 17 = .ok (.ifCond .ne 7, 3) := by decide +kernel
theorem dX7_canBegin_20 : decode cX7_canBegin 20 = .ok (.iconst 1, 1) := by decide +kernel
theorem dX7_canBegin_21 : decode cX7_canBegin 21 = .ok (.goto 4, 3) := by decide +kernel
theorem dX7_canBegin_24 : decode cX7_canBegin 24 = .ok (.iconst 0, 1) := by decide +kernel
theorem dX7_canBegin_25 : decode cX7_canBegin 25 = .ok (.ireturn, 1) := by decide +kernel
theorem dX7_costFirst_0 : decode cX7_costFirst 0 = .ok (.aload_n 1, 1) := by decide +kernel
theorem dX7_costFirst_1 : decode cX7_costFirst 1 = .ok (.getfield 57, 3) := by decide +kernel
theorem dX7_costFirst_4 : decode cX7_costFirst 4 = .ok (.iload_n 3, 1) := by decide +kernel
theorem dX7_costFirst_5 : decode cX7_costFirst 5 = .ok (.iaload, 1) := by decide +kernel
theorem dX7_costFirst_6 : decode cX7_costFirst 6 = .ok (.aload_n 0, 1) := by decide +kernel
theorem dX7_costFirst_7 : decode cX7_costFirst 7 = .ok (.getfield 11, 3) := by decide +kernel
theorem dX7_costFirst_10 : decode cX7_costFirst 10 = .ok (.iload_n 2, 1) := by decide +kernel
theorem dX7_costFirst_11 : decode cX7_costFirst 11 = .ok (.iaload, 1) := by decide +kernel
theorem dX7_costFirst_12 : decode cX7_costFirst 12 = .ok (.imul, 1) := by decide +kernel
theorem dX7_costFirst_13 : decode cX7_costFirst 13 = .ok (.aload_n 0, 1) := by decide +kernel
theorem dX7_costFirst_14 : decode cX7_costFirst 14 = .ok (.getfield 21, 3) := by decide +kernel
theorem dX7_costFirst_17 : decode cX7_costFirst 17 = .ok (.iload_n 2, 1) := by decide +kernel
theorem dX7_costFirst_18 : decode cX7_costFirst 18 = .ok (.iload_n 3, 1) := by decide +kernel
theorem dX7_costFirst_19 : decode cX7_costFirst 19 = .ok (.invokestatic 53, 3) := by decide +kernel
theorem dX7_costFirst_22 : decode cX7_costFirst 22 = .ok (.iconst (-1), 1) := by decide +kernel
theorem dX7_costFirst_23 : decode cX7_costFirst 23 = .ok (.ixor, 1) := by decide +kernel
theorem dX7_costFirst_24 : decode cX7_costFirst 24 = .ok (.iand, 1) := by decide +kernel
theorem dX7_costFirst_25 : decode cX7_costFirst 25 = .ok (.iaload, 1) := by decide +kernel
theorem dX7_costFirst_26 : decode cX7_costFirst 26 = .ok (.iadd, 1) := by decide +kernel
theorem dX7_costFirst_27 : decode cX7_costFirst 27 = .ok (.ireturn, 1) := by decide +kernel
theorem dX7_oddsOf_0 : decode cX7_oddsOf 0 = .ok (.aload_n 0, 1) := by decide +kernel
theorem dX7_oddsOf_1 : decode cX7_oddsOf 1 = .ok (.getfield 11, 3) := by decide +kernel
theorem dX7_oddsOf_4 : decode cX7_oddsOf 4 = .ok (.iload_n 1, 1) := by decide +kernel
theorem dX7_oddsOf_5 : decode cX7_oddsOf 5 = .ok (.iaload, 1) := by decide +kernel
theorem dX7_oddsOf_6 : decode cX7_oddsOf 6 = .ok (.ireturn, 1) := by decide +kernel
theorem dX7_leastCost_0 : decode cX7_leastCost 0 = .ok (.aload_n 0, 1) := by decide +kernel
theorem dX7_leastCost_1 : decode cX7_leastCost 1 = .ok (.getfield 21, 3) := by decide +kernel
theorem dX7_leastCost_4 : decode cX7_leastCost 4 = .ok (.iload_n 1, 1) := by decide +kernel
theorem dX7_leastCost_5 : decode cX7_leastCost 5 = .ok (.iaload, 1) := by decide +kernel
theorem dX7_leastCost_6 : decode cX7_leastCost 6 = .ok (.ireturn, 1) := by decide +kernel
theorem dX7_rowsOf_0 : decode cX7_rowsOf 0 = .ok (.aload_n 0, 1) := by decide +kernel
theorem dX7_rowsOf_1 : decode cX7_rowsOf 1 = .ok (.getfield 24, 3) := by decide +kernel
theorem dX7_rowsOf_4 : decode cX7_rowsOf 4 = .ok (.iload_n 1, 1) := by decide +kernel
theorem dX7_rowsOf_5 : decode cX7_rowsOf 5 = .ok (.iaload, 1) := by decide +kernel
theorem dX7_rowsOf_6 : decode cX7_rowsOf 6 = .ok (.ireturn, 1) := by decide +kernel
theorem dX7_rowAt_0 : decode cX7_rowAt 0 = .ok (.iload_n 2, 1) := by decide +kernel
theorem dX7_rowAt_1 : decode cX7_rowAt 1 = .ok (.istore 4, 2) := by decide +kernel
theorem dX7_rowAt_3 : decode cX7_rowAt 3 = .ok (.iconst (-1), 1) := by decide +kernel
theorem dX7_rowAt_4 : decode cX7_rowAt 4 = .ok (.istore 5, 2) := by decide +kernel
theorem dX7_rowAt_6 : decode cX7_rowAt 6 = .ok (.iconst 0, 1) := by decide +kernel
theorem dX7_rowAt_7 : decode cX7_rowAt 7 = .ok (.istore 6, 2) := by decide +kernel
theorem dX7_rowAt_9 : decode cX7_rowAt 9 = .ok (.iload 6, 2) := by decide +kernel
theorem dX7_rowAt_11 : decode cX7_rowAt 11 = .ok (.iload_n 3, 1) := by decide +kernel
theorem dX7_rowAt_12 : decode cX7_rowAt 12 = .ok (.if_icmp .gt 38, 3) := by decide +kernel
theorem dX7_rowAt_15 : decode cX7_rowAt 15 = .ok (.aload_n 0, 1) := by decide +kernel
theorem dX7_rowAt_16 : decode cX7_rowAt 16 = .ok (.aload_n 1, 1) := by decide +kernel
theorem dX7_rowAt_17 : decode cX7_rowAt 17 = .ok (.iload 4, 2) := by decide +kernel
theorem dX7_rowAt_19 : decode cX7_rowAt 19 = .ok (.invokevirtual 69, 3) := by decide +kernel
theorem dX7_rowAt_22 : decode cX7_rowAt 22 = .ok (.istore 5, 2) := by decide +kernel
theorem dX7_rowAt_24 : decode cX7_rowAt 24 = .ok (.iload 5, 2) := by decide +kernel
theorem dX7_rowAt_26 : decode cX7_rowAt 26 = .ok (.iconst (-1), 1) := by decide +kernel
theorem dX7_rowAt_27 : decode cX7_rowAt 27 = .ok (.if_icmp .ne 5, 3) := by decide +kernel
theorem dX7_rowAt_30 : decode cX7_rowAt 30 = .ok (.iconst (-1), 1) := by decide +kernel
theorem dX7_rowAt_31 : decode cX7_rowAt 31 = .ok (.ireturn, 1) := by decide +kernel
theorem dX7_rowAt_32 : decode cX7_rowAt 32 = .ok (.iload 4, 2) := by decide +kernel
theorem dX7_rowAt_34 : decode cX7_rowAt 34 = .ok (.iload 5, 2) := by decide +kernel
theorem dX7_rowAt_36 : decode cX7_rowAt 36 = .ok (.invokestatic 53, 3) := by decide +kernel
theorem dX7_rowAt_39 : decode cX7_rowAt 39 = .ok (.iconst (-1), 1) := by decide +kernel
theorem dX7_rowAt_40 : decode cX7_rowAt 40 = .ok (.ixor, 1) := by decide +kernel
theorem dX7_rowAt_41 : decode cX7_rowAt 41 = .ok (.iand, 1) := by decide +kernel
theorem dX7_rowAt_42 : decode cX7_rowAt 42 = .ok (.istore 4, 2) := by decide +kernel
theorem dX7_rowAt_44 : decode cX7_rowAt 44 = .ok (.iinc 6 1, 3) := by decide +kernel
theorem dX7_rowAt_47 : decode cX7_rowAt 47 = .ok (.goto (-38), 3) := by decide +kernel
theorem dX7_rowAt_50 : decode cX7_rowAt 50 = .ok (.iload 5, 2) := by decide +kernel
theorem dX7_rowAt_52 : decode cX7_rowAt 52 = .ok (.ireturn, 1) := by decide +kernel
theorem dX7_firstOfBest_0 : decode cX7_firstOfBest 0 = .ok (.iconst 0, 1) := by decide +kernel
theorem dX7_firstOfBest_1 : decode cX7_firstOfBest 1 = .ok (.istore_n 3, 1) := by decide +kernel
theorem dX7_firstOfBest_2 : decode cX7_firstOfBest 2 = .ok (.iload_n 3, 1) := by decide +kernel
theorem dX7_firstOfBest_3 : decode cX7_firstOfBest 3 = .ok (.aload_n 1, 1) := by decide +kernel
theorem dX7_firstOfBest_4 : decode cX7_firstOfBest 4 = .ok (.getfield 31, 3) := by decide +kernel
theorem dX7_firstOfBest_7 : decode cX7_firstOfBest 7 = .ok (.if_icmp .ge 36, 3) := by decide +kernel
theorem dX7_firstOfBest_10 : decode cX7_firstOfBest 10 = .ok (.aload_n 1, 1) := by decide +kernel
theorem dX7_firstOfBest_11 : decode cX7_firstOfBest 11 = .ok (.iload_n 2, 1) := by decide +kernel
theorem dX7_firstOfBest_12 : decode cX7_firstOfBest 12 = .ok (.iload_n 3, 1) := by decide +kernel
theorem dX7_firstOfBest_13 : decode cX7_firstOfBest 13 = .ok (.invokestatic 61, 3) := by decide +kernel
theorem dX7_firstOfBest_16 : decode cX7_firstOfBest 16 = .ok (.ifCond .eq 21, 3) := by decide +kernel
theorem dX7_firstOfBest_19 : decode cX7_firstOfBest 19 = .ok (.aload_n 0, 1) := by decide +kernel
theorem dX7_firstOfBest_20 : decode cX7_firstOfBest 20 = .ok (.aload_n 1, 1) := by decide +kernel
theorem dX7_firstOfBest_21 : decode cX7_firstOfBest 21 = .ok (.iload_n 2, 1) := by decide +kernel
theorem dX7_firstOfBest_22 : decode cX7_firstOfBest 22 = .ok (.iload_n 3, 1) := by decide +kernel
theorem dX7_firstOfBest_23 : decode cX7_firstOfBest 23 = .ok (.invokevirtual 65, 3) := by decide +kernel
theorem dX7_firstOfBest_26 : decode cX7_firstOfBest 26 = .ok (.aload_n 0, 1) := by decide +kernel
theorem dX7_firstOfBest_27 : decode cX7_firstOfBest 27 = .ok (.getfield 21, 3) := by decide +kernel
theorem dX7_firstOfBest_30 : decode cX7_firstOfBest 30 = .ok (.iload_n 2, 1) := by decide +kernel
theorem dX7_firstOfBest_31 : decode cX7_firstOfBest 31 = .ok (.iaload, 1) := by decide +kernel
theorem dX7_firstOfBest_32 : decode cX7_firstOfBest 32 = .ok (.if_icmp .ne 5, 3) := by decide +kernel
theorem dX7_firstOfBest_35 : decode cX7_firstOfBest 35 = .ok (.iload_n 3, 1) := by decide +kernel
theorem dX7_firstOfBest_36 : decode cX7_firstOfBest 36 = .ok (.ireturn, 1) := by decide +kernel
theorem dX7_firstOfBest_37 : decode cX7_firstOfBest 37 = .ok (.iinc 3 1, 3) := by decide +kernel
theorem dX7_firstOfBest_40 : decode cX7_firstOfBest 40 = .ok (.goto (-38), 3) := by decide +kernel
theorem dX7_firstOfBest_43 : decode cX7_firstOfBest 43 = .ok (.iconst (-1), 1) := by decide +kernel
theorem dX7_firstOfBest_44 : decode cX7_firstOfBest 44 = .ok (.ireturn, 1) := by decide +kernel
theorem dX7_likeliestIn_0 : decode cX7_likeliestIn 0 = .ok (.iconst 0, 1) := by decide +kernel
theorem dX7_likeliestIn_1 : decode cX7_likeliestIn 1 = .ok (.istore_n 3, 1) := by decide +kernel
theorem dX7_likeliestIn_2 : decode cX7_likeliestIn 2 = .ok (.iconst 1, 1) := by decide +kernel
theorem dX7_likeliestIn_3 : decode cX7_likeliestIn 3 = .ok (.istore 4, 2) := by decide +kernel
theorem dX7_likeliestIn_5 : decode cX7_likeliestIn 5 = .ok (.iload 4, 2) := by decide +kernel
theorem dX7_likeliestIn_7 : decode cX7_likeliestIn 7 = .ok (.iload_n 1, 1) := by decide +kernel
theorem dX7_likeliestIn_8 : decode cX7_likeliestIn 8 = .ok (.if_icmp .gt 77, 3) := by decide +kernel
theorem dX7_likeliestIn_11 : decode cX7_likeliestIn 11 = .ok (.iload 4, 2) := by decide +kernel
theorem dX7_likeliestIn_13 : decode cX7_likeliestIn 13 = .ok (.iload_n 1, 1) := by decide +kernel
theorem dX7_likeliestIn_14 : decode cX7_likeliestIn 14 = .ok (.iconst (-1), 1) := by decide +kernel
theorem dX7_likeliestIn_15 : decode cX7_likeliestIn 15 = .ok (.ixor, 1) := by decide +kernel
theorem dX7_likeliestIn_16 : decode cX7_likeliestIn 16 = .ok (.iand, 1) := by decide +kernel
theorem dX7_likeliestIn_17 : decode cX7_likeliestIn 17 = .ok (.ifCond .ne 24, 3) := by decide +kernel
theorem dX7_likeliestIn_20 : decode cX7_likeliestIn 20 = .ok (.aload_n 0, 1) := by decide +kernel
theorem dX7_likeliestIn_21 : decode cX7_likeliestIn 21 = .ok (.getfield 18, 3) := by decide +kernel
theorem dX7_likeliestIn_24 : decode cX7_likeliestIn 24 = .ok (.iload 4, 2) := by decide +kernel
theorem dX7_likeliestIn_26 : decode cX7_likeliestIn 26 = .ok (.iaload, 1) := by decide +kernel
theorem dX7_likeliestIn_27 : decode cX7_likeliestIn 27 = .ok (.iload_n 1, 1) := by decide +kernel
theorem dX7_likeliestIn_28 : decode cX7_likeliestIn 28 = .ok (.iand, 1) := by decide +kernel
theorem dX7_likeliestIn_29 : decode cX7_likeliestIn 29 = .ok (.iload 4, 2) := by decide +kernel
theorem dX7_likeliestIn_31 : decode cX7_likeliestIn 31 = .ok (.iconst (-1), 1) := by decide +kernel
theorem dX7_likeliestIn_32 : decode cX7_likeliestIn 32 = .ok (.ixor, 1) := by decide +kernel
theorem dX7_likeliestIn_33 : decode cX7_likeliestIn 33 = .ok (.iand, 1) := by decide +kernel
theorem dX7_likeliestIn_34 : decode cX7_likeliestIn 34 = .ok (.ifCond .ne 7, 3) := by decide +kernel
theorem dX7_likeliestIn_37 : decode cX7_likeliestIn 37 = .ok (.iconst 1, 1) := by decide +kernel
theorem dX7_likeliestIn_38 : decode cX7_likeliestIn 38 = .ok (.goto 4, 3) := by decide +kernel
theorem dX7_likeliestIn_41 : decode cX7_likeliestIn 41 = .ok (.iconst 0, 1) := by decide +kernel
theorem dX7_likeliestIn_42 : decode cX7_likeliestIn 42 = .ok (.istore 5, 2) := by decide +kernel
theorem dX7_likeliestIn_44 : decode cX7_likeliestIn 44 = .ok (.iload 5, 2) := by decide +kernel
theorem dX7_likeliestIn_46 : decode cX7_likeliestIn 46 = .ok (.ifCond .eq 33, 3) := by decide +kernel
theorem dX7_likeliestIn_49 : decode cX7_likeliestIn 49 = .ok (.aload_n 0, 1) := by decide +kernel
theorem dX7_likeliestIn_50 : decode cX7_likeliestIn 50 = .ok (.getfield 15, 3) := by decide +kernel
theorem dX7_likeliestIn_53 : decode cX7_likeliestIn 53 = .ok (.iload 4, 2) := by decide +kernel
theorem dX7_likeliestIn_55 : decode cX7_likeliestIn 55 = .ok (.iaload, 1) := by decide +kernel
theorem dX7_likeliestIn_56 : decode cX7_likeliestIn 56 = .ok (.iload_n 2, 1) := by decide +kernel
theorem dX7_likeliestIn_57 : decode cX7_likeliestIn 57 = .ok (.if_icmp .gt 22, 3) := by decide +kernel
theorem dX7_likeliestIn_60 : decode cX7_likeliestIn 60 = .ok (.aload_n 0, 1) := by decide +kernel
theorem dX7_likeliestIn_61 : decode cX7_likeliestIn 61 = .ok (.getfield 11, 3) := by decide +kernel
theorem dX7_likeliestIn_64 : decode cX7_likeliestIn 64 = .ok (.iload 4, 2) := by decide +kernel
theorem dX7_likeliestIn_66 : decode cX7_likeliestIn 66 = .ok (.iaload, 1) := by decide +kernel
theorem dX7_likeliestIn_67 : decode cX7_likeliestIn 67 = .ok (.aload_n 0, 1) := by decide +kernel
theorem dX7_likeliestIn_68 : decode cX7_likeliestIn 68 = .ok (.getfield 11, 3) := by decide +kernel
theorem dX7_likeliestIn_71 : decode cX7_likeliestIn 71 = .ok (.iload_n 3, 1) := by decide +kernel
theorem dX7_likeliestIn_72 : decode cX7_likeliestIn 72 = .ok (.iaload, 1) := by decide +kernel
theorem dX7_likeliestIn_73 : decode cX7_likeliestIn 73 = .ok (.if_icmp .le 6, 3) := by decide +kernel
theorem dX7_likeliestIn_76 : decode cX7_likeliestIn 76 = .ok (.iload 4, 2) := by decide +kernel
theorem dX7_likeliestIn_78 : decode cX7_likeliestIn 78 = .ok (.istore_n 3, 1) := by decide +kernel
theorem dX7_likeliestIn_79 : decode cX7_likeliestIn 79 = .ok (.iinc 4 1, 3) := by decide +kernel
theorem dX7_likeliestIn_82 : decode cX7_likeliestIn 82 = .ok (.goto (-77), 3) := by decide +kernel
theorem dX7_likeliestIn_85 : decode cX7_likeliestIn 85 = .ok (.iload_n 3, 1) := by decide +kernel
theorem dX7_likeliestIn_86 : decode cX7_likeliestIn 86 = .ok (.ireturn, 1) := by decide +kernel
theorem dX8_init_0 : decode cX8_init 0 = .ok (.aload_n 0, 1) := by decide +kernel
theorem dX8_init_1 : decode cX8_init 1 = .ok (.invokespecial 3, 3) := by decide +kernel
theorem dX8_init_4 : decode cX8_init 4 = .ok (.aload_n 0, 1) := by decide +kernel
theorem dX8_init_5 : decode cX8_init 5 = .ok (.bipush 7, 2) := by decide +kernel
theorem dX8_init_7 : decode cX8_init 7 = .ok (.newarray .long, 2) := by decide +kernel
theorem dX8_init_9 : decode cX8_init 9 = .ok (.putfield 9, 3) := by decide +kernel
theorem dX8_init_12 : decode cX8_init 12 = .ok (.aload_n 0, 1) := by decide +kernel
theorem dX8_init_13 : decode cX8_init 13 = .ok (.bipush 7, 2) := by decide +kernel
theorem dX8_init_15 : decode cX8_init 15 = .ok (.newarray .int, 2) := by decide +kernel
theorem dX8_init_17 : decode cX8_init 17 = .ok (.putfield 15, 3) := by decide +kernel
theorem dX8_init_20 : decode cX8_init 20 = .ok (.aload_n 0, 1) := by decide +kernel
theorem dX8_init_21 : decode cX8_init 21 = .ok (.bipush 7, 2) := by decide +kernel
theorem dX8_init_23 : decode cX8_init 23 = .ok (.newarray .int, 2) := by decide +kernel
theorem dX8_init_25 : decode cX8_init 25 = .ok (.putfield 19, 3) := by decide +kernel
theorem dX8_init_28 : decode cX8_init 28 = .ok (.aload_n 0, 1) := by decide +kernel
theorem dX8_init_29 : decode cX8_init 29 = .ok (.bipush 7, 2) := by decide +kernel
theorem dX8_init_31 : decode cX8_init 31 = .ok (.newarray .int, 2) := by decide +kernel
theorem dX8_init_33 : decode cX8_init 33 = .ok (.putfield 22, 3) := by decide +kernel
theorem dX8_init_36 : decode cX8_init 36 = .ok (.return_, 1) := by decide +kernel
theorem dX8_weight_0 : decode cX8_weight 0 = .ok (.aload_n 0, 1) := by decide +kernel
theorem dX8_weight_1 : decode cX8_weight 1 = .ok (.getfield 15, 3) := by decide +kernel
theorem dX8_weight_4 : decode cX8_weight 4 = .ok (.iload_n 1, 1) := by decide +kernel
theorem dX8_weight_5 : decode cX8_weight 5 = .ok (.iaload, 1) := by decide +kernel
theorem dX8_weight_6 : decode cX8_weight 6 = .ok (.lookupswitch 44 #[(1, 26), (2, 35)], 26) := by decide +kernel
theorem dX8_weight_32 : decode cX8_weight 32 = .ok (.iconst 2, 1) := by decide +kernel
theorem dX8_weight_33 : decode cX8_weight 33 = .ok (.aload_n 0, 1) := by decide +kernel
theorem dX8_weight_34 : decode cX8_weight 34 = .ok (.getfield 22, 3) := by decide +kernel
theorem dX8_weight_37 : decode cX8_weight 37 = .ok (.iload_n 1, 1) := by decide +kernel
theorem dX8_weight_38 : decode cX8_weight 38 = .ok (.iaload, 1) := by decide +kernel
theorem dX8_weight_39 : decode cX8_weight 39 = .ok (.imul, 1) := by decide +kernel
theorem dX8_weight_40 : decode cX8_weight 40 = .ok (.ireturn, 1) := by decide +kernel
theorem dX8_weight_41 : decode cX8_weight 41 = .ok (.aload_n 0, 1) := by decide +kernel
theorem dX8_weight_42 : decode cX8_weight 42 = .ok (.getfield 22, 3) := by decide +kernel
theorem dX8_weight_45 : decode cX8_weight 45 = .ok (.iload_n 1, 1) := by decide +kernel
theorem dX8_weight_46 : decode cX8_weight 46 = .ok (.iaload, 1) := by decide +kernel
theorem dX8_weight_47 : decode cX8_weight 47 = .ok (.iconst 2, 1) := by decide +kernel
theorem dX8_weight_48 : decode cX8_weight 48 = .ok (.idiv, 1) := by decide +kernel
theorem dX8_weight_49 : decode cX8_weight 49 = .ok (.ireturn, 1) := by decide +kernel
theorem dX8_weight_50 : decode cX8_weight 50 = .ok (.aload_n 0, 1) := by decide +kernel
theorem dX8_weight_51 : decode cX8_weight 51 = .ok (.getfield 22, 3) := by decide +kernel
theorem dX8_weight_54 : decode cX8_weight 54 = .ok (.iload_n 1, 1) := by decide +kernel
theorem dX8_weight_55 : decode cX8_weight 55 = .ok (.iaload, 1) := by decide +kernel
theorem dX8_weight_56 : decode cX8_weight 56 = .ok (.ireturn, 1) := by decide +kernel
theorem dX8_anySheep_0 : decode cX8_anySheep 0 = .ok (.iconst 0, 1) := by decide +kernel
theorem dX8_anySheep_1 : decode cX8_anySheep 1 = .ok (.istore_n 2, 1) := by decide +kernel
theorem dX8_anySheep_2 : decode cX8_anySheep 2 = .ok (.iload_n 2, 1) := by decide +kernel
theorem dX8_anySheep_3 : decode cX8_anySheep 3 = .ok (.aload_n 0, 1) := by decide +kernel
theorem dX8_anySheep_4 : decode cX8_anySheep 4 = .ok (.getfield 25, 3) := by decide +kernel
theorem dX8_anySheep_7 : decode cX8_anySheep 7 = .ok (.if_icmp .ge 30, 3) := by decide +kernel
theorem dX8_anySheep_10 : decode cX8_anySheep 10 = .ok (.aload_n 0, 1) := by decide +kernel
theorem dX8_anySheep_11 : decode cX8_anySheep 11 = .ok (.getfield 15, 3) := by decide +kernel
theorem dX8_anySheep_14 : decode cX8_anySheep 14 = .ok (.iload_n 2, 1) := by decide +kernel
theorem dX8_anySheep_15 : decode cX8_anySheep 15 = .ok (.iaload, 1) := by decide +kernel
theorem dX8_anySheep_16 : decode cX8_anySheep 16 = .ok (.iconst 3, 1) := by decide +kernel
theorem dX8_anySheep_17 : decode cX8_anySheep 17 = .ok (.if_icmp .ne 14, 3) := by decide +kernel
theorem dX8_anySheep_20 : decode cX8_anySheep 20 = .ok (.iload_n 1, 1) := by decide +kernel
theorem dX8_anySheep_21 : decode cX8_anySheep 21 = .ok (.iload_n 2, 1) := by decide +kernel
theorem dX8_anySheep_22 : decode cX8_anySheep 22 = .ok (.invokestatic 29, 3) := by decide +kernel
theorem dX8_anySheep_25 : decode cX8_anySheep 25 = .ok (.iand, 1) := by decide +kernel
theorem dX8_anySheep_26 : decode cX8_anySheep 26 = .ok (.ifCond .eq 5, 3) := by decide +kernel
theorem dX8_anySheep_29 : decode cX8_anySheep 29 = .ok (.iconst 1, 1) := by decide +kernel
theorem dX8_anySheep_30 : decode cX8_anySheep 30 = .ok (.ireturn, 1) := by decide +kernel
theorem dX8_anySheep_31 : decode cX8_anySheep 31 = .ok (.iinc 2 1, 3) := by decide +kernel
theorem dX8_anySheep_34 : decode cX8_anySheep 34 = .ok (.goto (-32), 3) := by decide +kernel
theorem dX8_anySheep_37 : decode cX8_anySheep 37 = .ok (.iconst 0, 1) := by decide +kernel
theorem dX8_anySheep_38 : decode cX8_anySheep 38 = .ok (.ireturn, 1) := by decide +kernel
theorem dX9_init_0 : decode cX9_init 0 = .ok (.aload_n 0, 1) := by decide +kernel
theorem dX9_init_1 : decode cX9_init 1 = .ok (.invokespecial 3, 3) := by decide +kernel
theorem dX9_init_4 : decode cX9_init 4 = .ok (.aload_n 0, 1) := by decide +kernel
theorem dX9_init_5 : decode cX9_init 5 = .ok (.bipush 7, 2) := by decide +kernel
theorem dX9_init_7 : decode cX9_init 7 = .ok (.newarray .int, 2) := by decide +kernel
theorem dX9_init_9 : decode cX9_init 9 = .ok (.putfield 9, 3) := by decide +kernel
theorem dX9_init_12 : decode cX9_init 12 = .ok (.aload_n 0, 1) := by decide +kernel
theorem dX9_init_13 : decode cX9_init 13 = .ok (.sipush 2928, 3) := by decide +kernel
theorem dX9_init_16 : decode cX9_init 16 = .ok (.newarray .int, 2) := by decide +kernel
theorem dX9_init_18 : decode cX9_init 18 = .ok (.putfield 15, 3) := by decide +kernel
theorem dX9_init_21 : decode cX9_init 21 = .ok (.return_, 1) := by decide +kernel
theorem dX9_learn_0 : decode cX9_learn 0 = .ok (.aload_n 0, 1) := by decide +kernel
theorem dX9_learn_1 : decode cX9_learn 1 = .ok (.getfield 18, 3) := by decide +kernel
theorem dX9_learn_4 : decode cX9_learn 4 = .ok (.ifCond .eq 4, 3) := by decide +kernel
theorem dX9_learn_7 : decode cX9_learn 7 = .ok (.return_, 1) := by decide +kernel
theorem dX9_learn_8 : decode cX9_learn 8 = .ok (.aload_n 0, 1) := by decide +kernel
theorem dX9_learn_9 : decode cX9_learn 9 = .ok (.iconst 0, 1) := by decide +kernel
theorem dX9_learn_10 : decode cX9_learn 10 = .ok (.putfield 22, 3) := by decide +kernel
theorem dX9_learn_13 : decode cX9_learn 13 = .ok (.iconst 0, 1) := by decide +kernel
theorem dX9_learn_14 : decode cX9_learn 14 = .ok (.istore_n 2, 1) := by decide +kernel
theorem dX9_learn_15 : decode cX9_learn 15 = .ok (.iconst 0, 1) := by decide +kernel
theorem dX9_learn_16 : decode cX9_learn 16 = .ok (.istore_n 3, 1) := by decide +kernel
theorem dX9_learn_17 : decode cX9_learn 17 = .ok (.iload_n 3, 1) := by decide +kernel
theorem dX9_learn_18 : decode cX9_learn 18 = .ok (.aload_n 1, 1) := by decide +kernel
theorem dX9_learn_19 : decode cX9_learn 19 = .ok (.getfield 26, 3) := by decide +kernel
theorem dX9_learn_22 : decode cX9_learn 22 = .ok (.getfield 32, 3) := by decide +kernel
theorem dX9_learn_25 : decode cX9_learn 25 = .ok (.if_icmp .ge 49, 3) := by decide +kernel
theorem dX9_learn_28 : decode cX9_learn 28 = .ok (.aload_n 0, 1) := by decide +kernel
theorem dX9_learn_29 : decode cX9_learn 29 = .ok (.dup, 1) := by decide +kernel
theorem dX9_learn_30 : decode cX9_learn 30 = .ok (.getfield 22, 3) := by decide +kernel
theorem dX9_learn_33 : decode cX9_learn 33 = .ok (.iload_n 3, 1) := by decide +kernel
theorem dX9_learn_34 : decode cX9_learn 34 = .ok (.aload_n 1, 1) := by decide +kernel
theorem dX9_learn_35 : decode cX9_learn 35 = .ok (.getfield 26, 3) := by decide +kernel
theorem dX9_learn_38 : decode cX9_learn 38 = .ok (.getfield 37, 3) := by decide +kernel
theorem dX9_learn_41 : decode cX9_learn 41 = .ok (.iload_n 3, 1) := by decide +kernel
theorem dX9_learn_42 : decode cX9_learn 42 = .ok (.iaload, 1) := by decide +kernel
theorem dX9_learn_43 : decode cX9_learn 43 = .ok (.invokestatic 40, 3) := by decide +kernel
theorem dX9_learn_46 : decode cX9_learn 46 = .ok (.iadd, 1) := by decide +kernel
theorem dX9_learn_47 : decode cX9_learn 47 = .ok (.putfield 22, 3) := by decide +kernel
theorem dX9_learn_50 : decode cX9_learn 50 = .ok (.iload_n 2, 1) := by decide +kernel
theorem dX9_learn_51 : decode cX9_learn 51 = .ok (.iload_n 3, 1) := by decide +kernel
theorem dX9_learn_52 : decode cX9_learn 52 = .ok (.aload_n 1, 1) := by decide +kernel
theorem dX9_learn_53 : decode cX9_learn 53 = .ok (.getfield 26, 3) := by decide +kernel
theorem dX9_learn_56 : decode cX9_learn 56 = .ok (.getfield 37, 3) := by decide +kernel
theorem dX9_learn_59 : decode cX9_learn 59 = .ok (.iload_n 3, 1) := by decide +kernel
theorem dX9_learn_60 : decode cX9_learn 60 = .ok (.iaload, 1) := by decide +kernel
theorem dX9_learn_61 : decode cX9_learn 61 = .ok (.iconst 1, 1) := by decide +kernel
theorem dX9_learn_62 : decode cX9_learn 62 = .ok (.iadd, 1) := by decide +kernel
theorem dX9_learn_63 : decode cX9_learn 63 = .ok (.invokestatic 40, 3) := by decide +kernel
theorem dX9_learn_66 : decode cX9_learn 66 = .ok (.iadd, 1) := by decide +kernel
theorem dX9_learn_67 : decode cX9_learn 67 = .ok (.istore_n 2, 1) := by decide +kernel
theorem dX9_learn_68 : decode cX9_learn 68 = .ok (.iinc 3 1, 3) := by decide +kernel
theorem dX9_learn_71 : decode cX9_learn 71 = .ok (.goto (-54), 3) := by decide +kernel
theorem dX9_learn_74 : decode cX9_learn 74 = .ok (.aload_n 1, 1) := by decide +kernel
theorem dX9_learn_75 : decode cX9_learn 75 = .ok (.getfield 44, 3) := by decide +kernel
theorem dX9_learn_78 : decode cX9_learn 78 = .ok (.getfield 48, 3) := by decide +kernel
theorem dX9_learn_81 : decode cX9_learn 81 = .ok (.istore_n 3, 1) := by decide +kernel
theorem dX9_learn_82 : decode cX9_learn 82 = .ok (.iconst 0, 1) := by decide +kernel
theorem dX9_learn_83 : decode cX9_learn 83 = .ok (.istore 4, 2) := by decide +kernel
theorem dX9_learn_85 : decode cX9_learn 85 = .ok (.iload 4, 2) := by decide +kernel
theorem dX9_learn_87 : decode cX9_learn 87 = .ok (.iload_n 2, 1) := by decide +kernel
theorem dX9_learn_88 : decode cX9_learn 88 = .ok (.if_icmp .gt 23, 3) := by decide +kernel
theorem dX9_learn_91 : decode cX9_learn 91 = .ok (.aload_n 0, 1) := by decide +kernel
theorem dX9_learn_92 : decode cX9_learn 92 = .ok (.getfield 15, 3) := by decide +kernel
theorem dX9_learn_95 : decode cX9_learn 95 = .ok (.iload_n 3, 1) := by decide +kernel
theorem dX9_learn_96 : decode cX9_learn 96 = .ok (.sipush 366, 3) := by decide +kernel
theorem dX9_learn_99 : decode cX9_learn 99 = .ok (.imul, 1) := by decide +kernel
theorem dX9_learn_100 : decode cX9_learn 100 = .ok (.iload 4, 2) := by decide +kernel
theorem dX9_learn_102 : decode cX9_learn 102 = .ok (.iadd, 1) := by decide +kernel
theorem dX9_learn_103 : decode cX9_learn 103 = .ok (.iconst 0, 1) := by decide +kernel
theorem dX9_learn_104 : decode cX9_learn 104 = .ok (.iastore, 1) := by decide +kernel
theorem dX9_learn_105 : decode cX9_learn 105 = .ok (.iinc 4 1, 3) := by decide +kernel
theorem dX9_learn_108 : decode cX9_learn 108 = .ok (.goto (-23), 3) := by decide +kernel
theorem dX9_learn_111 : decode cX9_learn 111 = .ok (.iload_n 3, 1) := by decide +kernel
theorem dX9_learn_112 : decode cX9_learn 112 = .ok (.iconst 1, 1) := by decide +kernel
theorem dX9_learn_113 : decode cX9_learn 113 = .ok (.isub, 1) := by decide +kernel
theorem dX9_learn_114 : decode cX9_learn 114 = .ok (.istore 4, 2) := by decide +kernel
theorem dX9_learn_116 : decode cX9_learn 116 = .ok (.iload 4, 2) := by decide +kernel
theorem dX9_learn_118 : decode cX9_learn 118 = .ok (.ifCond .lt 47, 3) := by decide +kernel
theorem dX9_learn_121 : decode cX9_learn 121 = .ok (.iconst 0, 1) := by decide +kernel
theorem dX9_learn_122 : decode cX9_learn 122 = .ok (.istore 5, 2) := by decide +kernel
theorem dX9_learn_124 : decode cX9_learn 124 = .ok (.iload 5, 2) := by decide +kernel
theorem dX9_learn_126 : decode cX9_learn 126 = .ok (.iload_n 2, 1) := by decide +kernel
theorem dX9_learn_127 : decode cX9_learn 127 = .ok (.if_icmp .gt 32, 3) := by decide +kernel
theorem dX9_learn_130 : decode cX9_learn 130 = .ok (.aload_n 0, 1) := by decide +kernel
theorem dX9_learn_131 : decode cX9_learn 131 = .ok (.getfield 15, 3) := by decide +kernel
theorem dX9_learn_134 : decode cX9_learn 134 = .ok (.iload 4, 2) := by decide +kernel
theorem dX9_learn_136 : decode cX9_learn 136 = .ok (.sipush 366, 3) := by decide +kernel
theorem dX9_learn_139 : decode cX9_learn 139 = .ok (.imul, 1) := by decide +kernel
theorem dX9_learn_140 : decode cX9_learn 140 = .ok (.iload 5, 2) := by decide +kernel
theorem dX9_learn_142 : decode cX9_learn 142 = .ok (.iadd, 1) := by decide +kernel
theorem dX9_learn_143 : decode cX9_learn 143 = .ok (.aload_n 0, 1) := by decide +kernel
theorem dX9_learn_144 : decode cX9_learn 144 = .ok (.aload_n 1, 1) := by decide +kernel
theorem dX9_learn_145 : decode cX9_learn 145 = .ok (.iload 4, 2) := by decide +kernel
theorem dX9_learn_147 : decode cX9_learn 147 = .ok (.iload 5, 2) := by decide +kernel
theorem dX9_learn_149 : decode cX9_learn 149 = .ok (.invokevirtual 51, 3) := by decide +kernel
theorem dX9_learn_152 : decode cX9_learn 152 = .ok (.iastore, 1) := by decide +kernel
theorem dX9_learn_153 : decode cX9_learn 153 = .ok (.iinc 5 1, 3) := by decide +kernel
theorem dX9_learn_156 : decode cX9_learn 156 = .ok (.goto (-32), 3) := by decide +kernel
theorem dX9_learn_159 : decode cX9_learn 159 = .ok (.iinc 4 (-1), 3) := by decide +kernel
theorem dX9_learn_162 : decode cX9_learn 162 = .ok (.goto (-46), 3) := by decide +kernel
theorem dX9_learn_165 : decode cX9_learn 165 = .ok (.aload_n 0, 1) := by decide +kernel
theorem dX9_learn_166 : decode cX9_learn 166 = .ok (.aload_n 1, 1) := by decide +kernel
theorem dX9_learn_167 : decode cX9_learn 167 = .ok (.invokevirtual 55, 3) := by decide +kernel
theorem dX9_learn_170 : decode cX9_learn 170 = .ok (.aload_n 0, 1) := by decide +kernel
theorem dX9_learn_171 : decode cX9_learn 171 = .ok (.iconst 1, 1) := by decide +kernel
theorem dX9_learn_172 : decode cX9_learn 172 = .ok (.putfield 18, 3) := by decide +kernel
theorem dX9_learn_175 : decode cX9_learn 175 = .ok (.return_, 1) := by decide +kernel
theorem dX9_greatest_0 : decode cX9_greatest 0 = .ok (.aload_n 0, 1) := by decide +kernel
theorem dX9_greatest_1 : decode cX9_greatest 1 = .ok (.getfield 15, 3) := by decide +kernel
theorem dX9_greatest_4 : decode cX9_greatest 4 = .ok (.iload_n 1, 1) := by decide +kernel
theorem dX9_greatest_5 : decode cX9_greatest 5 = .ok (.iaload, 1) := by decide +kernel
theorem dX9_greatest_6 : decode cX9_greatest 6 = .ok (.ireturn, 1) := by decide +kernel
theorem dX9_bestOf_0 : decode cX9_bestOf 0 = .ok (.aload_n 0, 1) := by decide +kernel
theorem dX9_bestOf_1 : decode cX9_bestOf 1 = .ok (.getfield 15, 3) := by decide +kernel
theorem dX9_bestOf_4 : decode cX9_bestOf 4 = .ok (.iload_n 2, 1) := by decide +kernel
theorem dX9_bestOf_5 : decode cX9_bestOf 5 = .ok (.iconst 1, 1) := by decide +kernel
theorem dX9_bestOf_6 : decode cX9_bestOf 6 = .ok (.iadd, 1) := by decide +kernel
theorem dX9_bestOf_7 : decode cX9_bestOf 7 = .ok (.sipush 366, 3) := by decide +kernel
theorem dX9_bestOf_10 : decode cX9_bestOf 10 = .ok (.imul, 1) := by decide +kernel
theorem dX9_bestOf_11 : decode cX9_bestOf 11 = .ok (.iload_n 3, 1) := by decide +kernel
theorem dX9_bestOf_12 : decode cX9_bestOf 12 = .ok (.iadd, 1) := by decide +kernel
theorem dX9_bestOf_13 : decode cX9_bestOf 13 = .ok (.iaload, 1) := by decide +kernel
theorem dX9_bestOf_14 : decode cX9_bestOf 14 = .ok (.istore 4, 2) := by decide +kernel
theorem dX9_bestOf_16 : decode cX9_bestOf 16 = .ok (.iconst 0, 1) := by decide +kernel
theorem dX9_bestOf_17 : decode cX9_bestOf 17 = .ok (.istore 5, 2) := by decide +kernel
theorem dX9_bestOf_19 : decode cX9_bestOf 19 = .ok (.iload 5, 2) := by decide +kernel
theorem dX9_bestOf_21 : decode cX9_bestOf 21 = .ok (.aload_n 1, 1) := by decide +kernel
theorem dX9_bestOf_22 : decode cX9_bestOf 22 = .ok (.getfield 26, 3) := by decide +kernel
theorem dX9_bestOf_25 : decode cX9_bestOf 25 = .ok (.getfield 32, 3) := by decide +kernel
theorem dX9_bestOf_28 : decode cX9_bestOf 28 = .ok (.if_icmp .ge 36, 3) := by decide +kernel
theorem dX9_bestOf_31 : decode cX9_bestOf 31 = .ok (.aload_n 1, 1) := by decide +kernel
theorem dX9_bestOf_32 : decode cX9_bestOf 32 = .ok (.iload 5, 2) := by decide +kernel
theorem dX9_bestOf_34 : decode cX9_bestOf 34 = .ok (.iload_n 2, 1) := by decide +kernel
theorem dX9_bestOf_35 : decode cX9_bestOf 35 = .ok (.iload_n 3, 1) := by decide +kernel
theorem dX9_bestOf_36 : decode cX9_bestOf 36 = .ok (.invokestatic 59, 3) := by decide +kernel
theorem dX9_bestOf_39 : decode cX9_bestOf 39 = .ok (.ifCond .eq 19, 3) := by decide +kernel
theorem dX9_bestOf_42 : decode cX9_bestOf 42 = .ok (.iload 4, 2) := by decide +kernel
theorem dX9_bestOf_44 : decode cX9_bestOf 44 = .ok (.aload_n 0, 1) := by decide +kernel
theorem dX9_bestOf_45 : decode cX9_bestOf 45 = .ok (.aload_n 1, 1) := by decide +kernel
theorem dX9_bestOf_46 : decode cX9_bestOf 46 = .ok (.iload 5, 2) := by decide +kernel
theorem dX9_bestOf_48 : decode cX9_bestOf 48 = .ok (.iload_n 2, 1) := by decide +kernel
theorem dX9_bestOf_49 : decode cX9_bestOf 49 = .ok (.iload_n 3, 1) := by decide +kernel
theorem dX9_bestOf_50 : decode cX9_bestOf 50 = .ok (.invokevirtual 63, 3) := by decide +kernel
theorem dX9_bestOf_53 : decode cX9_bestOf 53 = .ok (.invokestatic 67, 3) := by decide +kernel
theorem dX9_bestOf_56 : decode cX9_bestOf 56 = .ok (.istore 4, 2) := by decide +kernel
theorem dX9_bestOf_58 : decode cX9_bestOf 58 = .ok (.iinc 5 1, 3) := by decide +kernel
theorem dX9_bestOf_61 : decode cX9_bestOf 61 = .ok (.goto (-42), 3) := by decide +kernel
theorem dX9_bestOf_64 : decode cX9_bestOf 64 = .ok (.iload 4, 2) := by decide +kernel
theorem dX9_bestOf_66 : decode cX9_bestOf 66 = .ok (.ireturn, 1) := by decide +kernel
theorem dX9_canTake_0 : decode cX9_canTake 0 = .ok (.iload_n 3, 1) := by decide +kernel
theorem dX9_canTake_1 : decode cX9_canTake 1 = .ok (.iconst 3, 1) := by decide +kernel
theorem dX9_canTake_2 : decode cX9_canTake 2 = .ok (.iload_n 1, 1) := by decide +kernel
theorem dX9_canTake_3 : decode cX9_canTake 3 = .ok (.imul, 1) := by decide +kernel
theorem dX9_canTake_4 : decode cX9_canTake 4 = .ok (.ishr, 1) := by decide +kernel
theorem dX9_canTake_5 : decode cX9_canTake 5 = .ok (.bipush 7, 2) := by decide +kernel
theorem dX9_canTake_7 : decode cX9_canTake 7 = .ok (.iand, 1) := by decide +kernel
theorem dX9_canTake_8 : decode cX9_canTake 8 = .ok (.ifCond .le 16, 3) := by decide +kernel
theorem dX9_canTake_11 : decode cX9_canTake 11 = .ok (.aload_n 0, 1) := by decide +kernel
theorem dX9_canTake_12 : decode cX9_canTake 12 = .ok (.iload_n 1, 1) := by decide +kernel
theorem dX9_canTake_13 : decode cX9_canTake 13 = .ok (.iload_n 2, 1) := by decide +kernel
theorem dX9_canTake_14 : decode cX9_canTake 14 = .ok (.invokevirtual 72, 3) := by decide +kernel
theorem dX9_canTake_17 : decode cX9_canTake 17 = .ok (.ifCond .eq 7, 3) := by decide +kernel
theorem dX9_canTake_20 : decode cX9_canTake 20 = .ok (.iconst 1, 1) := by decide +kernel
theorem dX9_canTake_21 : decode cX9_canTake 21 = .ok (.goto 4, 3) := by decide +kernel
theorem dX9_canTake_24 : decode cX9_canTake 24 = .ok (.iconst 0, 1) := by decide +kernel
theorem dX9_canTake_25 : decode cX9_canTake 25 = .ok (.ireturn, 1) := by decide +kernel
theorem dX9_tendedFor_0 : decode cX9_tendedFor 0 = .ok (.aload_n 1, 1) := by decide +kernel
theorem dX9_tendedFor_1 : decode cX9_tendedFor 1 = .ok (.getfield 44, 3) := by decide +kernel
theorem dX9_tendedFor_4 : decode cX9_tendedFor 4 = .ok (.iload_n 3, 1) := by decide +kernel
theorem dX9_tendedFor_5 : decode cX9_tendedFor 5 = .ok (.invokevirtual 76, 3) := by decide +kernel
theorem dX9_tendedFor_8 : decode cX9_tendedFor 8 = .ok (.aload_n 0, 1) := by decide +kernel
theorem dX9_tendedFor_9 : decode cX9_tendedFor 9 = .ok (.getfield 15, 3) := by decide +kernel
theorem dX9_tendedFor_12 : decode cX9_tendedFor 12 = .ok (.iload_n 3, 1) := by decide +kernel
theorem dX9_tendedFor_13 : decode cX9_tendedFor 13 = .ok (.iconst 1, 1) := by decide +kernel
theorem dX9_tendedFor_14 : decode cX9_tendedFor 14 = .ok (.iadd, 1) := by decide +kernel
theorem dX9_tendedFor_15 : decode cX9_tendedFor 15 = .ok (.sipush 366, 3) := by decide +kernel
theorem dX9_tendedFor_18 : decode cX9_tendedFor 18 = .ok (.imul, 1) := by decide +kernel
theorem dX9_tendedFor_19 : decode cX9_tendedFor 19 = .ok (.iload 4, 2) := by decide +kernel
theorem dX9_tendedFor_21 : decode cX9_tendedFor 21 = .ok (.iadd, 1) := by decide +kernel
theorem dX9_tendedFor_22 : decode cX9_tendedFor 22 = .ok (.iload_n 2, 1) := by decide +kernel
theorem dX9_tendedFor_23 : decode cX9_tendedFor 23 = .ok (.iconst 1, 1) := by decide +kernel
theorem dX9_tendedFor_24 : decode cX9_tendedFor 24 = .ok (.invokestatic 40, 3) := by decide +kernel
theorem dX9_tendedFor_27 : decode cX9_tendedFor 27 = .ok (.isub, 1) := by decide +kernel
theorem dX9_tendedFor_28 : decode cX9_tendedFor 28 = .ok (.iaload, 1) := by decide +kernel
theorem dX9_tendedFor_29 : decode cX9_tendedFor 29 = .ok (.iadd, 1) := by decide +kernel
theorem dX9_tendedFor_30 : decode cX9_tendedFor 30 = .ok (.ireturn, 1) := by decide +kernel
theorem dX9_follow_0 : decode cX9_follow 0 = .ok (.aload_n 0, 1) := by decide +kernel
theorem dX9_follow_1 : decode cX9_follow 1 = .ok (.getfield 22, 3) := by decide +kernel
theorem dX9_follow_4 : decode cX9_follow 4 = .ok (.istore_n 2, 1) := by decide +kernel
theorem dX9_follow_5 : decode cX9_follow 5 = .ok (.aload_n 0, 1) := by decide +kernel
theorem dX9_follow_6 : decode cX9_follow 6 = .ok (.iconst 0, 1) := by decide +kernel
theorem dX9_follow_7 : decode cX9_follow 7 = .ok (.putfield 80, 3) := by decide +kernel
theorem dX9_follow_10 : decode cX9_follow 10 = .ok (.iconst 0, 1) := by decide +kernel
theorem dX9_follow_11 : decode cX9_follow 11 = .ok (.istore_n 3, 1) := by decide +kernel
theorem dX9_follow_12 : decode cX9_follow 12 = .ok (.iload_n 3, 1) := by decide +kernel
theorem dX9_follow_13 : decode cX9_follow 13 = .ok (.aload_n 1, 1) := by decide +kernel
theorem dX9_follow_14 : decode cX9_follow 14 = .ok (.getfield 44, 3) := by decide +kernel
theorem dX9_follow_17 : decode cX9_follow 17 = .ok (.getfield 48, 3) := by decide +kernel
theorem dX9_follow_20 : decode cX9_follow 20 = .ok (.if_icmp .ge 129, 3) := by decide +kernel
theorem dX9_follow_23 : decode cX9_follow 23 = .ok (.aload_n 0, 1) := by decide +kernel
theorem dX9_follow_24 : decode cX9_follow 24 = .ok (.getfield 9, 3) := by decide +kernel
theorem dX9_follow_27 : decode cX9_follow 27 = .ok (.iload_n 3, 1) := by decide +kernel
theorem dX9_follow_28 : decode cX9_follow 28 = .ok (.bipush (-2), 2) := by decide +kernel
theorem dX9_follow_30 : decode cX9_follow 30 = .ok (.iastore, 1) := by decide +kernel
theorem dX9_follow_31 : decode cX9_follow 31 = .ok (.iconst 0, 1) := by decide +kernel
theorem dX9_follow_32 : decode cX9_follow 32 = .ok (.istore 4, 2) := by decide +kernel
theorem dX9_follow_34 : decode cX9_follow 34 = .ok (.iload 4, 2) := by decide +kernel
theorem dX9_follow_36 : decode cX9_follow 36 = .ok (.aload_n 1, 1) := by decide +kernel
theorem dX9_follow_37 : decode cX9_follow 37 = .ok (.getfield 26, 3) := by decide +kernel
theorem dX9_follow_40 : decode cX9_follow 40 = .ok (.getfield 32, 3) := by decide +kernel
theorem dX9_follow_43 : decode cX9_follow 43 = .ok (.if_icmp .ge 63, 3) := by decide +kernel
theorem dX9_follow_46 : decode cX9_follow 46 = .ok (.aload_n 0, 1) := by decide +kernel
theorem dX9_follow_47 : decode cX9_follow 47 = .ok (.getfield 9, 3) := by decide +kernel
theorem dX9_follow_50 : decode cX9_follow 50 = .ok (.iload_n 3, 1) := by decide +kernel
theorem dX9_follow_51 : decode cX9_follow 51 = .ok (.iaload, 1) := by decide +kernel
theorem dX9_follow_52 : decode cX9_follow 52 = .ok (.bipush (-2), 2) := by decide +kernel
theorem dX9_follow_54 : decode cX9_follow 54 = .ok (.if_icmp .ne 46, 3) := by decide +kernel
theorem dX9_follow_57 : decode cX9_follow 57 = .ok (.aload_n 1, 1) := by decide +kernel
theorem dX9_follow_58 : decode cX9_follow 58 = .ok (.iload 4, 2) := by decide +kernel
theorem dX9_follow_60 : decode cX9_follow 60 = .ok (.iload_n 3, 1) := by decide +kernel
theorem dX9_follow_61 : decode cX9_follow 61 = .ok (.iload_n 2, 1) := by decide +kernel
theorem dX9_follow_62 : decode cX9_follow 62 = .ok (.invokestatic 59, 3) := by decide +kernel
theorem dX9_follow_65 : decode cX9_follow 65 = .ok (.ifCond .eq 35, 3) := by decide +kernel
theorem dX9_follow_68 : decode cX9_follow 68 = .ok (.aload_n 0, 1) := by decide +kernel
theorem dX9_follow_69 : decode cX9_follow 69 = .ok (.aload_n 1, 1) := by decide +kernel
theorem dX9_follow_70 : decode cX9_follow 70 = .ok (.iload 4, 2) := by decide +kernel
theorem dX9_follow_72 : decode cX9_follow 72 = .ok (.iload_n 3, 1) := by decide +kernel
theorem dX9_follow_73 : decode cX9_follow 73 = .ok (.iload_n 2, 1) := by decide +kernel
theorem dX9_follow_74 : decode cX9_follow 74 = .ok (.invokevirtual 63, 3) := by decide +kernel
theorem dX9_follow_77 : decode cX9_follow 77 = .ok (.aload_n 0, 1) := by decide +kernel
theorem dX9_follow_78 : decode cX9_follow 78 = .ok (.getfield 15, 3) := by decide +kernel
theorem dX9_follow_81 : decode cX9_follow 81 = .ok (.iload_n 3, 1) := by decide +kernel
theorem dX9_follow_82 : decode cX9_follow 82 = .ok (.sipush 366, 3) := by decide +kernel
theorem dX9_follow_85 : decode cX9_follow 85 = .ok (.imul, 1) := by decide +kernel
theorem dX9_follow_86 : decode cX9_follow 86 = .ok (.iload_n 2, 1) := by decide +kernel
theorem dX9_follow_87 : decode cX9_follow 87 = .ok (.iadd, 1) := by decide +kernel
theorem dX9_follow_88 : decode cX9_follow 88 = .ok (.iaload, 1) := by decide +kernel
theorem dX9_follow_89 : decode cX9_follow 89 = .ok (.if_icmp .ne 11, 3) := by decide +kernel
theorem dX9_follow_92 : decode cX9_follow 92 = .ok (.aload_n 0, 1) := by decide +kernel
theorem dX9_follow_93 : decode cX9_follow 93 = .ok (.getfield 9, 3) := by decide +kernel
theorem dX9_follow_96 : decode cX9_follow 96 = .ok (.iload_n 3, 1) := by decide +kernel
theorem dX9_follow_97 : decode cX9_follow 97 = .ok (.iload 4, 2) := by decide +kernel
theorem dX9_follow_99 : decode cX9_follow 99 = .ok (.iastore, 1) := by decide +kernel
theorem dX9_follow_100 : decode cX9_follow 100 = .ok (.iinc 4 1, 3) := by decide +kernel
theorem dX9_follow_103 : decode cX9_follow 103 = .ok (.goto (-69), 3) := by decide +kernel
theorem dX9_follow_106 : decode cX9_follow 106 = .ok (.aload_n 0, 1) := by decide +kernel
theorem dX9_follow_107 : decode cX9_follow 107 = .ok (.getfield 9, 3) := by decide +kernel
theorem dX9_follow_110 : decode cX9_follow 110 = .ok (.iload_n 3, 1) := by decide +kernel
theorem dX9_follow_111 : decode cX9_follow 111 = .ok (.iaload, 1) := by decide +kernel
theorem dX9_follow_112 : decode cX9_follow 112 = .ok (.bipush (-2), 2) := by decide +kernel
theorem dX9_follow_114 : decode cX9_follow 114 = .ok (.if_icmp .eq 29, 3) := by decide +kernel
theorem dX9_follow_117 : decode cX9_follow 117 = .ok (.iload_n 2, 1) := by decide +kernel
theorem dX9_follow_118 : decode cX9_follow 118 = .ok (.aload_n 0, 1) := by decide +kernel
theorem dX9_follow_119 : decode cX9_follow 119 = .ok (.getfield 9, 3) := by decide +kernel
theorem dX9_follow_122 : decode cX9_follow 122 = .ok (.iload_n 3, 1) := by decide +kernel
theorem dX9_follow_123 : decode cX9_follow 123 = .ok (.iaload, 1) := by decide +kernel
theorem dX9_follow_124 : decode cX9_follow 124 = .ok (.iconst 1, 1) := by decide +kernel
theorem dX9_follow_125 : decode cX9_follow 125 = .ok (.invokestatic 40, 3) := by decide +kernel
theorem dX9_follow_128 : decode cX9_follow 128 = .ok (.isub, 1) := by decide +kernel
theorem dX9_follow_129 : decode cX9_follow 129 = .ok (.istore_n 2, 1) := by decide +kernel
theorem dX9_follow_130 : decode cX9_follow 130 = .ok (.aload_n 0, 1) := by decide +kernel
theorem dX9_follow_131 : decode cX9_follow 131 = .ok (.dup, 1) := by decide +kernel
theorem dX9_follow_132 : decode cX9_follow 132 = .ok (.getfield 80, 3) := by decide +kernel
theorem dX9_follow_135 : decode cX9_follow 135 = .ok (.iload_n 3, 1) := by decide +kernel
theorem dX9_follow_136 : decode cX9_follow 136 = .ok (.invokestatic 83, 3) := by decide +kernel
theorem dX9_follow_139 : decode cX9_follow 139 = .ok (.ior, 1) := by decide +kernel
theorem dX9_follow_140 : decode cX9_follow 140 = .ok (.putfield 80, 3) := by decide +kernel
theorem dX9_follow_143 : decode cX9_follow 143 = .ok (.iinc 3 1, 3) := by decide +kernel
theorem dX9_follow_146 : decode cX9_follow 146 = .ok (.goto (-134), 3) := by decide +kernel
theorem dX9_follow_149 : decode cX9_follow 149 = .ok (.return_, 1) := by decide +kernel
theorem dX10_init_0 : decode cX10_init 0 = .ok (.aload_n 0, 1) := by decide +kernel
theorem dX10_init_1 : decode cX10_init 1 = .ok (.invokespecial 3, 3) := by decide +kernel
theorem dX10_init_4 : decode cX10_init 4 = .ok (.aload_n 0, 1) := by decide +kernel
theorem dX10_init_5 : decode cX10_init 5 = .ok (.bipush 7, 2) := by decide +kernel
theorem dX10_init_7 : decode cX10_init 7 = .ok (.newarray .long, 2) := by decide +kernel
theorem dX10_init_9 : decode cX10_init 9 = .ok (.putfield 9, 3) := by decide +kernel
theorem dX10_init_12 : decode cX10_init 12 = .ok (.aload_n 0, 1) := by decide +kernel
theorem dX10_init_13 : decode cX10_init 13 = .ok (.bipush 7, 2) := by decide +kernel
theorem dX10_init_15 : decode cX10_init 15 = .ok (.newarray .int, 2) := by decide +kernel
theorem dX10_init_17 : decode cX10_init 17 = .ok (.putfield 15, 3) := by decide +kernel
theorem dX10_init_20 : decode cX10_init 20 = .ok (.aload_n 0, 1) := by decide +kernel
theorem dX10_init_21 : decode cX10_init 21 = .ok (.bipush 7, 2) := by decide +kernel
theorem dX10_init_23 : decode cX10_init 23 = .ok (.newarray .int, 2) := by decide +kernel
theorem dX10_init_25 : decode cX10_init 25 = .ok (.putfield 19, 3) := by decide +kernel
theorem dX10_init_28 : decode cX10_init 28 = .ok (.aload_n 0, 1) := by decide +kernel
theorem dX10_init_29 : decode cX10_init 29 = .ok (.bipush 7, 2) := by decide +kernel
theorem dX10_init_31 : decode cX10_init 31 = .ok (.newarray .int, 2) := by decide +kernel
theorem dX10_init_33 : decode cX10_init 33 = .ok (.putfield 22, 3) := by decide +kernel
theorem dX10_init_36 : decode cX10_init 36 = .ok (.aload_n 0, 1) := by decide +kernel
theorem dX10_init_37 : decode cX10_init 37 = .ok (.bipush 7, 2) := by decide +kernel
theorem dX10_init_39 : decode cX10_init 39 = .ok (.newarray .int, 2) := by decide +kernel
theorem dX10_init_41 : decode cX10_init 41 = .ok (.putfield 25, 3) := by decide +kernel
theorem dX10_init_44 : decode cX10_init 44 = .ok (.return_, 1) := by decide +kernel
theorem dX10_find_0 : decode cX10_find 0 = .ok (.iconst 0, 1) := by decide +kernel
theorem dX10_find_1 : decode cX10_find 1 = .ok (.istore_n 3, 1) := by decide +kernel
theorem dX10_find_2 : decode cX10_find 2 = .ok (.iload_n 3, 1) := by decide +kernel
theorem dX10_find_3 : decode cX10_find 3 = .ok (.aload_n 0, 1) := by decide +kernel
theorem dX10_find_4 : decode cX10_find 4 = .ok (.getfield 28, 3) := by decide +kernel
theorem dX10_find_7 : decode cX10_find 7 = .ok (.if_icmp .ge 22, 3) := by decide +kernel
theorem dX10_find_10 : decode cX10_find 10 = .ok (.aload_n 0, 1) := by decide +kernel
theorem dX10_find_11 : decode cX10_find 11 = .ok (.getfield 9, 3) := by decide +kernel
theorem dX10_find_14 : decode cX10_find 14 = .ok (.iload_n 3, 1) := by decide +kernel
theorem dX10_find_15 : decode cX10_find 15 = .ok (.laload, 1) := by decide +kernel
theorem dX10_find_16 : decode cX10_find 16 = .ok (.lload_n 1, 1) := by decide +kernel
theorem dX10_find_17 : decode cX10_find 17 = .ok (.lcmp, 1) := by decide +kernel
theorem dX10_find_18 : decode cX10_find 18 = .ok (.ifCond .ne 5, 3) := by decide +kernel
theorem dX10_find_21 : decode cX10_find 21 = .ok (.iload_n 3, 1) := by decide +kernel
theorem dX10_find_22 : decode cX10_find 22 = .ok (.ireturn, 1) := by decide +kernel
theorem dX10_find_23 : decode cX10_find 23 = .ok (.iinc 3 1, 3) := by decide +kernel
theorem dX10_find_26 : decode cX10_find 26 = .ok (.goto (-24), 3) := by decide +kernel
theorem dX10_find_29 : decode cX10_find 29 = .ok (.iconst (-1), 1) := by decide +kernel
theorem dX10_find_30 : decode cX10_find 30 = .ok (.ireturn, 1) := by decide +kernel
theorem dX10_putBefore_0 : decode cX10_putBefore 0 = .ok (.aload_n 0, 1) := by decide +kernel
theorem dX10_putBefore_1 : decode cX10_putBefore 1 = .ok (.getfield 22, 3) := by decide +kernel
theorem dX10_putBefore_4 : decode cX10_putBefore 4 = .ok (.iload_n 2, 1) := by decide +kernel
theorem dX10_putBefore_5 : decode cX10_putBefore 5 = .ok (.dup2, 1) := by decide +kernel
theorem dX10_putBefore_6 : decode cX10_putBefore 6 = .ok (.iaload, 1) := by decide +kernel
theorem dX10_putBefore_7 : decode cX10_putBefore 7 = .ok (.iload_n 1, 1) := by decide +kernel
theorem dX10_putBefore_8 : decode cX10_putBefore 8 = .ok (.invokestatic 32, 3) := by decide +kernel
theorem dX10_putBefore_11 : decode cX10_putBefore 11 = .ok (.ior, 1) := by decide +kernel
theorem dX10_putBefore_12 : decode cX10_putBefore 12 = .ok (.iastore, 1) := by decide +kernel
theorem dX10_putBefore_13 : decode cX10_putBefore 13 = .ok (.aload_n 0, 1) := by decide +kernel
theorem dX10_putBefore_14 : decode cX10_putBefore 14 = .ok (.getfield 25, 3) := by decide +kernel
theorem dX10_putBefore_17 : decode cX10_putBefore 17 = .ok (.iload_n 1, 1) := by decide +kernel
theorem dX10_putBefore_18 : decode cX10_putBefore 18 = .ok (.iaload, 1) := by decide +kernel
theorem dX10_putBefore_19 : decode cX10_putBefore 19 = .ok (.iload_n 1, 1) := by decide +kernel
theorem dX10_putBefore_20 : decode cX10_putBefore 20 = .ok (.invokestatic 32, 3) := by decide +kernel
theorem dX10_putBefore_23 : decode cX10_putBefore 23 = .ok (.ior, 1) := by decide +kernel
theorem dX10_putBefore_24 : decode cX10_putBefore 24 = .ok (.istore_n 3, 1) := by decide +kernel
theorem dX10_putBefore_25 : decode cX10_putBefore 25 = .ok (.iconst 0, 1) := by decide +kernel
theorem dX10_putBefore_26 : decode cX10_putBefore 26 = .ok (.istore 4, 2) := by decide +kernel
theorem dX10_putBefore_28 : decode cX10_putBefore 28 = .ok (.iload 4, 2) := by decide +kernel
theorem dX10_putBefore_30 : decode cX10_putBefore 30 = .ok (.aload_n 0, 1) := by decide +kernel
theorem dX10_putBefore_31 : decode cX10_putBefore 31 = .ok (.getfield 28, 3) := by decide +kernel
theorem dX10_putBefore_34 : decode cX10_putBefore 34 = .ok (.if_icmp .ge 41, 3) := by decide +kernel
theorem dX10_putBefore_37 : decode cX10_putBefore 37 = .ok (.iload 4, 2) := by decide +kernel
theorem dX10_putBefore_39 : decode cX10_putBefore 39 = .ok (.iload_n 2, 1) := by decide +kernel
theorem dX10_putBefore_40 : decode cX10_putBefore 40 = .ok (.if_icmp .eq 18, 3) := by decide +kernel
theorem dX10_putBefore_43 : decode cX10_putBefore 43 = .ok (.aload_n 0, 1) := by decide +kernel
theorem dX10_putBefore_44 : decode cX10_putBefore 44 = .ok (.getfield 25, 3) := by decide +kernel
theorem dX10_putBefore_47 : decode cX10_putBefore 47 = .ok (.iload 4, 2) := by decide +kernel
theorem dX10_putBefore_49 : decode cX10_putBefore 49 = .ok (.iaload, 1) := by decide +kernel
theorem dX10_putBefore_50 : decode cX10_putBefore 50 = .ok (.iload_n 2, 1) := by decide +kernel
theorem dX10_putBefore_51 : decode cX10_putBefore 51 = .ok (.invokestatic 32, 3) := by decide +kernel
theorem dX10_putBefore_54 : decode cX10_putBefore 54 = .ok (.iand, 1) := by decide +kernel
theorem dX10_putBefore_55 : decode cX10_putBefore 55 = .ok (.ifCond .eq 14, 3) := by decide +kernel
theorem dX10_putBefore_58 : decode cX10_putBefore 58 = .ok (.aload_n 0, 1) := by decide +kernel
theorem dX10_putBefore_59 : decode cX10_putBefore 59 = .ok (.getfield 25, 3) := by decide +kernel
theorem dX10_putBefore_62 : decode cX10_putBefore 62 = .ok (.iload 4, 2) := by decide +kernel
theorem dX10_putBefore_64 : decode cX10_putBefore 64 = .ok (.dup2, 1) := by decide +kernel
theorem dX10_putBefore_65 : decode cX10_putBefore 65 = .ok (.iaload, 1) := by decide +kernel
theorem dX10_putBefore_66 : decode cX10_putBefore 66 = .ok (.iload_n 3, 1) := by decide +kernel
theorem dX10_putBefore_67 : decode cX10_putBefore 67 = .ok (.ior, 1) := by decide +kernel
theorem dX10_putBefore_68 : decode cX10_putBefore 68 = .ok (.iastore, 1) := by decide +kernel
theorem dX10_putBefore_69 : decode cX10_putBefore 69 = .ok (.iinc 4 1, 3) := by decide +kernel
theorem dX10_putBefore_72 : decode cX10_putBefore 72 = .ok (.goto (-44), 3) := by decide +kernel
theorem dX10_putBefore_75 : decode cX10_putBefore 75 = .ok (.aload_n 0, 1) := by decide +kernel
theorem dX10_putBefore_76 : decode cX10_putBefore 76 = .ok (.dup, 1) := by decide +kernel
theorem dX10_putBefore_77 : decode cX10_putBefore 77 = .ok (.getfield 36, 3) := by decide +kernel
theorem dX10_putBefore_80 : decode cX10_putBefore 80 = .ok (.iconst 1, 1) := by decide +kernel
theorem dX10_putBefore_81 : decode cX10_putBefore 81 = .ok (.iadd, 1) := by decide +kernel
theorem dX10_putBefore_82 : decode cX10_putBefore 82 = .ok (.putfield 36, 3) := by decide +kernel
theorem dX10_putBefore_85 : decode cX10_putBefore 85 = .ok (.return_, 1) := by decide +kernel
theorem dJ6_numberOfTrailingZeros_0f7a4_0 : decode cJ6_numberOfTrailingZeros_0f7a4 0 = .ok (.iload_n 0, 1) := by decide +kernel
theorem dJ6_numberOfTrailingZeros_0f7a4_1 : decode cJ6_numberOfTrailingZeros_0f7a4 1 = .ok (.iconst (-1), 1) := by decide +kernel
theorem dJ6_numberOfTrailingZeros_0f7a4_2 : decode cJ6_numberOfTrailingZeros_0f7a4 2 = .ok (.ixor, 1) := by decide +kernel
theorem dJ6_numberOfTrailingZeros_0f7a4_3 : decode cJ6_numberOfTrailingZeros_0f7a4 3 = .ok (.iload_n 0, 1) := by decide +kernel
theorem dJ6_numberOfTrailingZeros_0f7a4_4 : decode cJ6_numberOfTrailingZeros_0f7a4 4 = .ok (.iconst 1, 1) := by decide +kernel
theorem dJ6_numberOfTrailingZeros_0f7a4_5 : decode cJ6_numberOfTrailingZeros_0f7a4 5 = .ok (.isub, 1) := by decide +kernel
theorem dJ6_numberOfTrailingZeros_0f7a4_6 : decode cJ6_numberOfTrailingZeros_0f7a4 6 = .ok (.iand, 1) := by decide +kernel
theorem dJ6_numberOfTrailingZeros_0f7a4_7 : decode cJ6_numberOfTrailingZeros_0f7a4 7 = .ok (.istore_n 0, 1) := by decide +kernel
theorem dJ6_numberOfTrailingZeros_0f7a4_8 : decode cJ6_numberOfTrailingZeros_0f7a4 8 = .ok (.iload_n 0, 1) := by decide +kernel
theorem dJ6_numberOfTrailingZeros_0f7a4_9 : decode cJ6_numberOfTrailingZeros_0f7a4 9 = .ok (.ifCond .gt 8, 3) := by decide +kernel
theorem dJ6_numberOfTrailingZeros_0f7a4_12 : decode cJ6_numberOfTrailingZeros_0f7a4 12 = .ok (.iload_n 0, 1) := by decide +kernel
theorem dJ6_numberOfTrailingZeros_0f7a4_13 : decode cJ6_numberOfTrailingZeros_0f7a4 13 = .ok (.bipush 32, 2) := by decide +kernel
theorem dJ6_numberOfTrailingZeros_0f7a4_15 : decode cJ6_numberOfTrailingZeros_0f7a4 15 = .ok (.iand, 1) := by decide +kernel
theorem dJ6_numberOfTrailingZeros_0f7a4_16 : decode cJ6_numberOfTrailingZeros_0f7a4 16 = .ok (.ireturn, 1) := by decide +kernel
theorem dJ6_numberOfTrailingZeros_0f7a4_17 : decode cJ6_numberOfTrailingZeros_0f7a4 17 = .ok (.iconst 1, 1) := by decide +kernel
theorem dJ6_numberOfTrailingZeros_0f7a4_18 : decode cJ6_numberOfTrailingZeros_0f7a4 18 = .ok (.istore_n 1, 1) := by decide +kernel
theorem dJ6_numberOfTrailingZeros_0f7a4_19 : decode cJ6_numberOfTrailingZeros_0f7a4 19 = .ok (.iload_n 0, 1) := by decide +kernel
theorem dJ6_numberOfTrailingZeros_0f7a4_20 : decode cJ6_numberOfTrailingZeros_0f7a4 20 = .ok (.ldc_w 264, 3) := by decide +kernel
theorem dJ6_numberOfTrailingZeros_0f7a4_23 : decode cJ6_numberOfTrailingZeros_0f7a4 23 = .ok (.if_icmp .le 11, 3) := by decide +kernel
theorem dJ6_numberOfTrailingZeros_0f7a4_26 : decode cJ6_numberOfTrailingZeros_0f7a4 26 = .ok (.iinc 1 16, 3) := by decide +kernel
theorem dJ6_numberOfTrailingZeros_0f7a4_29 : decode cJ6_numberOfTrailingZeros_0f7a4 29 = .ok (.iload_n 0, 1) := by decide +kernel
theorem dJ6_numberOfTrailingZeros_0f7a4_30 : decode cJ6_numberOfTrailingZeros_0f7a4 30 = .ok (.bipush 16, 2) := by decide +kernel
theorem dJ6_numberOfTrailingZeros_0f7a4_32 : decode cJ6_numberOfTrailingZeros_0f7a4 32 = .ok (.iushr, 1) := by decide +kernel
theorem dJ6_numberOfTrailingZeros_0f7a4_33 : decode cJ6_numberOfTrailingZeros_0f7a4 33 = .ok (.istore_n 0, 1) := by decide +kernel
theorem dJ6_numberOfTrailingZeros_0f7a4_34 : decode cJ6_numberOfTrailingZeros_0f7a4 34 = .ok (.iload_n 0, 1) := by decide +kernel
theorem dJ6_numberOfTrailingZeros_0f7a4_35 : decode cJ6_numberOfTrailingZeros_0f7a4 35 = .ok (.sipush 256, 3) := by decide +kernel
theorem dJ6_numberOfTrailingZeros_0f7a4_38 : decode cJ6_numberOfTrailingZeros_0f7a4 38 = .ok (.if_icmp .le 11, 3) := by decide +kernel
theorem dJ6_numberOfTrailingZeros_0f7a4_41 : decode cJ6_numberOfTrailingZeros_0f7a4 41 = .ok (.iinc 1 8, 3) := by decide +kernel
theorem dJ6_numberOfTrailingZeros_0f7a4_44 : decode cJ6_numberOfTrailingZeros_0f7a4 44 = .ok (.iload_n 0, 1) := by decide +kernel
theorem dJ6_numberOfTrailingZeros_0f7a4_45 : decode cJ6_numberOfTrailingZeros_0f7a4 45 = .ok (.bipush 8, 2) := by decide +kernel
theorem dJ6_numberOfTrailingZeros_0f7a4_47 : decode cJ6_numberOfTrailingZeros_0f7a4 47 = .ok (.iushr, 1) := by decide +kernel
theorem dJ6_numberOfTrailingZeros_0f7a4_48 : decode cJ6_numberOfTrailingZeros_0f7a4 48 = .ok (.istore_n 0, 1) := by decide +kernel
theorem dJ6_numberOfTrailingZeros_0f7a4_49 : decode cJ6_numberOfTrailingZeros_0f7a4 49 = .ok (.iload_n 0, 1) := by decide +kernel
theorem dJ6_numberOfTrailingZeros_0f7a4_50 : decode cJ6_numberOfTrailingZeros_0f7a4 50 = .ok (.bipush 16, 2) := by decide +kernel
theorem dJ6_numberOfTrailingZeros_0f7a4_52 : decode cJ6_numberOfTrailingZeros_0f7a4 52 = .ok (.if_icmp .le 10, 3) := by decide +kernel
theorem dJ6_numberOfTrailingZeros_0f7a4_55 : decode cJ6_numberOfTrailingZeros_0f7a4 55 = .ok (.iinc 1 4, 3) := by decide +kernel
theorem dJ6_numberOfTrailingZeros_0f7a4_58 : decode cJ6_numberOfTrailingZeros_0f7a4 58 = .ok (.iload_n 0, 1) := by decide +kernel
theorem dJ6_numberOfTrailingZeros_0f7a4_59 : decode cJ6_numberOfTrailingZeros_0f7a4 59 = .ok (.iconst 4, 1) := by decide +kernel
theorem dJ6_numberOfTrailingZeros_0f7a4_60 : decode cJ6_numberOfTrailingZeros_0f7a4 60 = .ok (.iushr, 1) := by decide +kernel
theorem dJ6_numberOfTrailingZeros_0f7a4_61 : decode cJ6_numberOfTrailingZeros_0f7a4 61 = .ok (.istore_n 0, 1) := by decide +kernel
theorem dJ6_numberOfTrailingZeros_0f7a4_62 : decode cJ6_numberOfTrailingZeros_0f7a4 62 = .ok (.iload_n 0, 1) := by decide +kernel
theorem dJ6_numberOfTrailingZeros_0f7a4_63 : decode cJ6_numberOfTrailingZeros_0f7a4 63 = .ok (.iconst 4, 1) := by decide +kernel
theorem dJ6_numberOfTrailingZeros_0f7a4_64 : decode cJ6_numberOfTrailingZeros_0f7a4 64 = .ok (.if_icmp .le 10, 3) := by decide +kernel
theorem dJ6_numberOfTrailingZeros_0f7a4_67 : decode cJ6_numberOfTrailingZeros_0f7a4 67 = .ok (.iinc 1 2, 3) := by decide +kernel
theorem dJ6_numberOfTrailingZeros_0f7a4_70 : decode cJ6_numberOfTrailingZeros_0f7a4 70 = .ok (.iload_n 0, 1) := by decide +kernel
theorem dJ6_numberOfTrailingZeros_0f7a4_71 : decode cJ6_numberOfTrailingZeros_0f7a4 71 = .ok (.iconst 2, 1) := by decide +kernel
theorem dJ6_numberOfTrailingZeros_0f7a4_72 : decode cJ6_numberOfTrailingZeros_0f7a4 72 = .ok (.iushr, 1) := by decide +kernel
theorem dJ6_numberOfTrailingZeros_0f7a4_73 : decode cJ6_numberOfTrailingZeros_0f7a4 73 = .ok (.istore_n 0, 1) := by decide +kernel
theorem dJ6_numberOfTrailingZeros_0f7a4_74 : decode cJ6_numberOfTrailingZeros_0f7a4 74 = .ok (.iload_n 1, 1) := by decide +kernel
theorem dJ6_numberOfTrailingZeros_0f7a4_75 : decode cJ6_numberOfTrailingZeros_0f7a4 75 = .ok (.iload_n 0, 1) := by decide +kernel
theorem dJ6_numberOfTrailingZeros_0f7a4_76 : decode cJ6_numberOfTrailingZeros_0f7a4 76 = .ok (.iconst 1, 1) := by decide +kernel
theorem dJ6_numberOfTrailingZeros_0f7a4_77 : decode cJ6_numberOfTrailingZeros_0f7a4 77 = .ok (.iushr, 1) := by decide +kernel
theorem dJ6_numberOfTrailingZeros_0f7a4_78 : decode cJ6_numberOfTrailingZeros_0f7a4 78 = .ok (.iadd, 1) := by decide +kernel
theorem dJ6_numberOfTrailingZeros_0f7a4_79 : decode cJ6_numberOfTrailingZeros_0f7a4 79 = .ok (.ireturn, 1) := by decide +kernel
theorem dJ6_bitCount_0f7a4_0 : decode cJ6_bitCount_0f7a4 0 = .ok (.iload_n 0, 1) := by decide +kernel
theorem dJ6_bitCount_0f7a4_1 : decode cJ6_bitCount_0f7a4 1 = .ok (.iload_n 0, 1) := by decide +kernel
theorem dJ6_bitCount_0f7a4_2 : decode cJ6_bitCount_0f7a4 2 = .ok (.iconst 1, 1) := by decide +kernel
theorem dJ6_bitCount_0f7a4_3 : decode cJ6_bitCount_0f7a4 3 = .ok (.iushr, 1) := by decide +kernel
theorem dJ6_bitCount_0f7a4_4 : decode cJ6_bitCount_0f7a4 4 = .ok (.ldc_w 265, 3) := by decide +kernel
theorem dJ6_bitCount_0f7a4_7 : decode cJ6_bitCount_0f7a4 7 = .ok (.iand, 1) := by decide +kernel
theorem dJ6_bitCount_0f7a4_8 : decode cJ6_bitCount_0f7a4 8 = .ok (.isub, 1) := by decide +kernel
theorem dJ6_bitCount_0f7a4_9 : decode cJ6_bitCount_0f7a4 9 = .ok (.istore_n 0, 1) := by decide +kernel
theorem dJ6_bitCount_0f7a4_10 : decode cJ6_bitCount_0f7a4 10 = .ok (.iload_n 0, 1) := by decide +kernel
theorem dJ6_bitCount_0f7a4_11 : decode cJ6_bitCount_0f7a4 11 = .ok (.ldc_w 266, 3) := by decide +kernel
theorem dJ6_bitCount_0f7a4_14 : decode cJ6_bitCount_0f7a4 14 = .ok (.iand, 1) := by decide +kernel
theorem dJ6_bitCount_0f7a4_15 : decode cJ6_bitCount_0f7a4 15 = .ok (.iload_n 0, 1) := by decide +kernel
theorem dJ6_bitCount_0f7a4_16 : decode cJ6_bitCount_0f7a4 16 = .ok (.iconst 2, 1) := by decide +kernel
theorem dJ6_bitCount_0f7a4_17 : decode cJ6_bitCount_0f7a4 17 = .ok (.iushr, 1) := by decide +kernel
theorem dJ6_bitCount_0f7a4_18 : decode cJ6_bitCount_0f7a4 18 = .ok (.ldc_w 266, 3) := by decide +kernel
theorem dJ6_bitCount_0f7a4_21 : decode cJ6_bitCount_0f7a4 21 = .ok (.iand, 1) := by decide +kernel
theorem dJ6_bitCount_0f7a4_22 : decode cJ6_bitCount_0f7a4 22 = .ok (.iadd, 1) := by decide +kernel
theorem dJ6_bitCount_0f7a4_23 : decode cJ6_bitCount_0f7a4 23 = .ok (.istore_n 0, 1) := by decide +kernel
theorem dJ6_bitCount_0f7a4_24 : decode cJ6_bitCount_0f7a4 24 = .ok (.iload_n 0, 1) := by decide +kernel
theorem dJ6_bitCount_0f7a4_25 : decode cJ6_bitCount_0f7a4 25 = .ok (.iload_n 0, 1) := by decide +kernel
theorem dJ6_bitCount_0f7a4_26 : decode cJ6_bitCount_0f7a4 26 = .ok (.iconst 4, 1) := by decide +kernel
theorem dJ6_bitCount_0f7a4_27 : decode cJ6_bitCount_0f7a4 27 = .ok (.iushr, 1) := by decide +kernel
theorem dJ6_bitCount_0f7a4_28 : decode cJ6_bitCount_0f7a4 28 = .ok (.iadd, 1) := by decide +kernel
theorem dJ6_bitCount_0f7a4_29 : decode cJ6_bitCount_0f7a4 29 = .ok (.ldc_w 267, 3) := by decide +kernel
theorem dJ6_bitCount_0f7a4_32 : decode cJ6_bitCount_0f7a4 32 = .ok (.iand, 1) := by decide +kernel
theorem dJ6_bitCount_0f7a4_33 : decode cJ6_bitCount_0f7a4 33 = .ok (.istore_n 0, 1) := by decide +kernel
theorem dJ6_bitCount_0f7a4_34 : decode cJ6_bitCount_0f7a4 34 = .ok (.iload_n 0, 1) := by decide +kernel
theorem dJ6_bitCount_0f7a4_35 : decode cJ6_bitCount_0f7a4 35 = .ok (.iload_n 0, 1) := by decide +kernel
theorem dJ6_bitCount_0f7a4_36 : decode cJ6_bitCount_0f7a4 36 = .ok (.bipush 8, 2) := by decide +kernel
theorem dJ6_bitCount_0f7a4_38 : decode cJ6_bitCount_0f7a4 38 = .ok (.iushr, 1) := by decide +kernel
theorem dJ6_bitCount_0f7a4_39 : decode cJ6_bitCount_0f7a4 39 = .ok (.iadd, 1) := by decide +kernel
theorem dJ6_bitCount_0f7a4_40 : decode cJ6_bitCount_0f7a4 40 = .ok (.istore_n 0, 1) := by decide +kernel
theorem dJ6_bitCount_0f7a4_41 : decode cJ6_bitCount_0f7a4 41 = .ok (.iload_n 0, 1) := by decide +kernel
theorem dJ6_bitCount_0f7a4_42 : decode cJ6_bitCount_0f7a4 42 = .ok (.iload_n 0, 1) := by decide +kernel
theorem dJ6_bitCount_0f7a4_43 : decode cJ6_bitCount_0f7a4 43 = .ok (.bipush 16, 2) := by decide +kernel
theorem dJ6_bitCount_0f7a4_45 : decode cJ6_bitCount_0f7a4 45 = .ok (.iushr, 1) := by decide +kernel
theorem dJ6_bitCount_0f7a4_46 : decode cJ6_bitCount_0f7a4 46 = .ok (.iadd, 1) := by decide +kernel
theorem dJ6_bitCount_0f7a4_47 : decode cJ6_bitCount_0f7a4 47 = .ok (.istore_n 0, 1) := by decide +kernel
theorem dJ6_bitCount_0f7a4_48 : decode cJ6_bitCount_0f7a4 48 = .ok (.iload_n 0, 1) := by decide +kernel
theorem dJ6_bitCount_0f7a4_49 : decode cJ6_bitCount_0f7a4 49 = .ok (.bipush 63, 2) := by decide +kernel
theorem dJ6_bitCount_0f7a4_51 : decode cJ6_bitCount_0f7a4 51 = .ok (.iand, 1) := by decide +kernel
theorem dJ6_bitCount_0f7a4_52 : decode cJ6_bitCount_0f7a4 52 = .ok (.ireturn, 1) := by decide +kernel
theorem dJ9_abs_0f7a4_0 : decode cJ9_abs_0f7a4 0 = .ok (.iload_n 0, 1) := by decide +kernel
theorem dJ9_abs_0f7a4_1 : decode cJ9_abs_0f7a4 1 = .ok (.ifCond .ge 8, 3) := by decide +kernel
theorem dJ9_abs_0f7a4_4 : decode cJ9_abs_0f7a4 4 = .ok (.iload_n 0, 1) := by decide +kernel
theorem dJ9_abs_0f7a4_5 : decode cJ9_abs_0f7a4 5 = .ok (.ineg, 1) := by decide +kernel
theorem dJ9_abs_0f7a4_6 : decode cJ9_abs_0f7a4 6 = .ok (.goto 4, 3) := by decide +kernel
theorem dJ9_abs_0f7a4_9 : decode cJ9_abs_0f7a4 9 = .ok (.iload_n 0, 1) := by decide +kernel
theorem dJ9_abs_0f7a4_10 : decode cJ9_abs_0f7a4 10 = .ok (.ireturn, 1) := by decide +kernel
theorem dJ9_max_7cf53_0 : decode cJ9_max_7cf53 0 = .ok (.iload_n 0, 1) := by decide +kernel
theorem dJ9_max_7cf53_1 : decode cJ9_max_7cf53 1 = .ok (.iload_n 1, 1) := by decide +kernel
theorem dJ9_max_7cf53_2 : decode cJ9_max_7cf53 2 = .ok (.if_icmp .lt 7, 3) := by decide +kernel
theorem dJ9_max_7cf53_5 : decode cJ9_max_7cf53 5 = .ok (.iload_n 0, 1) := by decide +kernel
theorem dJ9_max_7cf53_6 : decode cJ9_max_7cf53 6 = .ok (.goto 4, 3) := by decide +kernel
theorem dJ9_max_7cf53_9 : decode cJ9_max_7cf53 9 = .ok (.iload_n 1, 1) := by decide +kernel
theorem dJ9_max_7cf53_10 : decode cJ9_max_7cf53 10 = .ok (.ireturn, 1) := by decide +kernel
theorem dJ9_min_7cf53_0 : decode cJ9_min_7cf53 0 = .ok (.iload_n 0, 1) := by decide +kernel
theorem dJ9_min_7cf53_1 : decode cJ9_min_7cf53 1 = .ok (.iload_n 1, 1) := by decide +kernel
theorem dJ9_min_7cf53_2 : decode cJ9_min_7cf53 2 = .ok (.if_icmp .gt 7, 3) := by decide +kernel
theorem dJ9_min_7cf53_5 : decode cJ9_min_7cf53 5 = .ok (.iload_n 0, 1) := by decide +kernel
theorem dJ9_min_7cf53_6 : decode cJ9_min_7cf53 6 = .ok (.goto 4, 3) := by decide +kernel
theorem dJ9_min_7cf53_9 : decode cJ9_min_7cf53 9 = .ok (.iload_n 1, 1) := by decide +kernel
theorem dJ9_min_7cf53_10 : decode cJ9_min_7cf53 10 = .ok (.ireturn, 1) := by decide +kernel
theorem dJ0_length_8abf5_0 : decode cJ0_length_8abf5 0 = .ok (.aload_n 0, 1) := by decide +kernel
theorem dJ0_length_8abf5_1 : decode cJ0_length_8abf5 1 = .ok (.getfield 9, 3) := by decide +kernel
theorem dJ0_length_8abf5_4 : decode cJ0_length_8abf5 4 = .ok (.arraylength, 1) := by decide +kernel
theorem dJ0_length_8abf5_5 : decode cJ0_length_8abf5 5 = .ok (.aload_n 0, 1) := by decide +kernel
theorem dJ0_length_8abf5_6 : decode cJ0_length_8abf5 6 = .ok (.invokevirtual 335, 3) := by decide +kernel
theorem dJ0_length_8abf5_9 : decode cJ0_length_8abf5 9 = .ok (.ishr, 1) := by decide +kernel
theorem dJ0_length_8abf5_10 : decode cJ0_length_8abf5 10 = .ok (.ireturn, 1) := by decide +kernel
theorem dJ0_charAt_5068e_0 : decode cJ0_charAt_5068e 0 = .ok (.aload_n 0, 1) := by decide +kernel
theorem dJ0_charAt_5068e_1 : decode cJ0_charAt_5068e 1 = .ok (.invokevirtual 492, 3) := by decide +kernel
theorem dJ0_charAt_5068e_4 : decode cJ0_charAt_5068e 4 = .ok (.ifCond .eq 12, 3) := by decide +kernel
theorem dJ0_charAt_5068e_7 : decode cJ0_charAt_5068e 7 = .ok (.aload_n 0, 1) := by decide +kernel
theorem dJ0_charAt_5068e_8 : decode cJ0_charAt_5068e 8 = .ok (.getfield 9, 3) := by decide +kernel
theorem dJ0_charAt_5068e_11 : decode cJ0_charAt_5068e 11 = .ok (.iload_n 1, 1) := by decide +kernel
theorem dJ0_charAt_5068e_12 : decode cJ0_charAt_5068e 12 = .ok (.invokestatic 495, 3) := by decide +kernel
theorem dJ0_charAt_5068e_15 : decode cJ0_charAt_5068e 15 = .ok (.ireturn, 1) := by decide +kernel
theorem dJ0_charAt_5068e_16 : decode cJ0_charAt_5068e 16 = .ok (.aload_n 0, 1) := by decide +kernel
theorem dJ0_charAt_5068e_17 : decode cJ0_charAt_5068e 17 = .ok (.getfield 9, 3) := by decide +kernel
theorem dJ0_charAt_5068e_20 : decode cJ0_charAt_5068e 20 = .ok (.iload_n 1, 1) := by decide +kernel
theorem dJ0_charAt_5068e_21 : decode cJ0_charAt_5068e 21 = .ok (.invokestatic 498, 3) := by decide +kernel
theorem dJ0_charAt_5068e_24 : decode cJ0_charAt_5068e 24 = .ok (.ireturn, 1) := by decide +kernel
theorem dJ0_coder_7d493_0 : decode cJ0_coder_7d493 0 = .ok (.getstatic 38, 3) := by decide +kernel
theorem dJ0_coder_7d493_3 : decode cJ0_coder_7d493 3 = .ok (.ifCond .eq 10, 3) := by decide +kernel
theorem dJ0_coder_7d493_6 : decode cJ0_coder_7d493 6 = .ok (.aload_n 0, 1) := by decide +kernel
theorem dJ0_coder_7d493_7 : decode cJ0_coder_7d493 7 = .ok (.getfield 15, 3) := by decide +kernel
theorem dJ0_coder_7d493_10 : decode cJ0_coder_7d493 10 = .ok (.goto 4, 3) := by decide +kernel
theorem dJ0_coder_7d493_13 : decode cJ0_coder_7d493 13 = .ok (.iconst 1, 1) := by decide +kernel
theorem dJ0_coder_7d493_14 : decode cJ0_coder_7d493 14 = .ok (.ireturn, 1) := by decide +kernel
theorem dJ0_isLatin1_aae02_0 : decode cJ0_isLatin1_aae02 0 = .ok (.getstatic 38, 3) := by decide +kernel
theorem dJ0_isLatin1_aae02_3 : decode cJ0_isLatin1_aae02 3 = .ok (.ifCond .eq 14, 3) := by decide +kernel
theorem dJ0_isLatin1_aae02_6 : decode cJ0_isLatin1_aae02 6 = .ok (.aload_n 0, 1) := by decide +kernel
theorem dJ0_isLatin1_aae02_7 : decode cJ0_isLatin1_aae02 7 = .ok (.getfield 15, 3) := by decide +kernel
theorem dJ0_isLatin1_aae02_10 : decode cJ0_isLatin1_aae02 10 = .ok (.ifCond .ne 7, 3) := by decide +kernel
theorem dJ0_isLatin1_aae02_13 : decode cJ0_isLatin1_aae02 13 = .ok (.iconst 1, 1) := by decide +kernel
theorem dJ0_isLatin1_aae02_14 : decode cJ0_isLatin1_aae02 14 = .ok (.goto 4, 3) := by decide +kernel
theorem dJ0_isLatin1_aae02_17 : decode cJ0_isLatin1_aae02 17 = .ok (.iconst 0, 1) := by decide +kernel
theorem dJ0_isLatin1_aae02_18 : decode cJ0_isLatin1_aae02 18 = .ok (.ireturn, 1) := by decide +kernel
theorem dJ0_checkIndex_df160_0 : decode cJ0_checkIndex_df160 0 = .ok (.iload_n 0, 1) := by decide +kernel
theorem dJ0_checkIndex_df160_1 : decode cJ0_checkIndex_df160 1 = .ok (.iload_n 1, 1) := by decide +kernel
theorem dJ0_checkIndex_df160_2 : decode cJ0_checkIndex_df160 2 = .ok (.getstatic 1053, 3) := by decide +kernel
theorem dJ0_checkIndex_df160_5 : decode cJ0_checkIndex_df160 5 = .ok (.invokestatic 1059, 3) := by decide +kernel
theorem dJ0_checkIndex_df160_8 : decode cJ0_checkIndex_df160 8 = .ok (.pop, 1) := by decide +kernel
theorem dJ0_checkIndex_df160_9 : decode cJ0_checkIndex_df160 9 = .ok (.return_, 1) := by decide +kernel
theorem dJ1_charAt_3b067_0 : decode cJ1_charAt_3b067 0 = .ok (.iload_n 1, 1) := by decide +kernel
theorem dJ1_charAt_3b067_1 : decode cJ1_charAt_3b067 1 = .ok (.aload_n 0, 1) := by decide +kernel
theorem dJ1_charAt_3b067_2 : decode cJ1_charAt_3b067 2 = .ok (.arraylength, 1) := by decide +kernel
theorem dJ1_charAt_3b067_3 : decode cJ1_charAt_3b067 3 = .ok (.invokestatic 9, 3) := by decide +kernel
theorem dJ1_charAt_3b067_6 : decode cJ1_charAt_3b067 6 = .ok (.aload_n 0, 1) := by decide +kernel
theorem dJ1_charAt_3b067_7 : decode cJ1_charAt_3b067 7 = .ok (.iload_n 1, 1) := by decide +kernel
theorem dJ1_charAt_3b067_8 : decode cJ1_charAt_3b067 8 = .ok (.baload, 1) := by decide +kernel
theorem dJ1_charAt_3b067_9 : decode cJ1_charAt_3b067 9 = .ok (.sipush 255, 3) := by decide +kernel
theorem dJ1_charAt_3b067_12 : decode cJ1_charAt_3b067 12 = .ok (.iand, 1) := by decide +kernel
theorem dJ1_charAt_3b067_13 : decode cJ1_charAt_3b067 13 = .ok (.i2c, 1) := by decide +kernel
theorem dJ1_charAt_3b067_14 : decode cJ1_charAt_3b067 14 = .ok (.ireturn, 1) := by decide +kernel
theorem dJ3_checkIndex_8e157_0 : decode cJ3_checkIndex_8e157 0 = .ok (.iload_n 0, 1) := by decide +kernel
theorem dJ3_checkIndex_8e157_1 : decode cJ3_checkIndex_8e157 1 = .ok (.ifCond .lt 8, 3) := by decide +kernel
theorem dJ3_checkIndex_8e157_4 : decode cJ3_checkIndex_8e157 4 = .ok (.iload_n 0, 1) := by decide +kernel
theorem dJ3_checkIndex_8e157_5 : decode cJ3_checkIndex_8e157 5 = .ok (.iload_n 1, 1) := by decide +kernel
theorem dJ3_checkIndex_8e157_6 : decode cJ3_checkIndex_8e157 6 = .ok (.if_icmp .lt 10, 3) := by decide +kernel
theorem dJ3_checkIndex_8e157_9 : decode cJ3_checkIndex_8e157 9 = .ok (.aload_n 2, 1) := by decide +kernel
theorem dJ3_checkIndex_8e157_10 : decode cJ3_checkIndex_8e157 10 = .ok (.iload_n 0, 1) := by decide +kernel
theorem dJ3_checkIndex_8e157_11 : decode cJ3_checkIndex_8e157 11 = .ok (.iload_n 1, 1) := by decide +kernel
theorem dJ3_checkIndex_8e157_12 : decode cJ3_checkIndex_8e157 12 = .ok (.invokestatic 95, 3) := by decide +kernel
theorem dJ3_checkIndex_8e157_15 : decode cJ3_checkIndex_8e157 15 = .ok (.athrow, 1) := by decide +kernel
theorem dJ3_checkIndex_8e157_16 : decode cJ3_checkIndex_8e157 16 = .ok (.iload_n 0, 1) := by decide +kernel
theorem dJ3_checkIndex_8e157_17 : decode cJ3_checkIndex_8e157 17 = .ok (.ireturn, 1) := by decide +kernel
