theorem dX12_init_0 : decode cX12_init 0 = .ok (.aload_n 0, 1) := by decide +kernel
theorem dX12_init_1 : decode cX12_init 1 = .ok (.invokespecial 1, 3) := by decide +kernel
theorem dX12_init_4 : decode cX12_init 4 = .ok (.aload_n 0, 1) := by decide +kernel
theorem dX12_init_5 : decode cX12_init 5 = .ok (.sipush 900, 3) := by decide +kernel
theorem dX12_init_8 : decode cX12_init 8 = .ok (.newarray .int, 2) := by decide +kernel
theorem dX12_init_10 : decode cX12_init 10 = .ok (.putfield 7, 3) := by decide +kernel
theorem dX12_init_13 : decode cX12_init 13 = .ok (.aload_n 0, 1) := by decide +kernel
theorem dX12_init_14 : decode cX12_init 14 = .ok (.iconst (-1), 1) := by decide +kernel
theorem dX12_init_15 : decode cX12_init 15 = .ok (.putfield 13, 3) := by decide +kernel
theorem dX12_init_18 : decode cX12_init 18 = .ok (.aload_n 0, 1) := by decide +kernel
theorem dX12_init_19 : decode cX12_init 19 = .ok (.bipush 8, 2) := by decide +kernel
theorem dX12_init_21 : decode cX12_init 21 = .ok (.newarray .int, 2) := by decide +kernel
theorem dX12_init_23 : decode cX12_init 23 = .ok (.putfield 17, 3) := by decide +kernel
theorem dX12_init_26 : decode cX12_init 26 = .ok (.aload_n 0, 1) := by decide +kernel
theorem dX12_init_27 : decode cX12_init 27 = .ok (.sipush 421, 3) := by decide +kernel
theorem dX12_init_30 : decode cX12_init 30 = .ok (.newarray .int, 2) := by decide +kernel
theorem dX12_init_32 : decode cX12_init 32 = .ok (.putfield 20, 3) := by decide +kernel
theorem dX12_init_35 : decode cX12_init 35 = .ok (.aload_n 0, 1) := by decide +kernel
theorem dX12_init_36 : decode cX12_init 36 = .ok (.sipush 421, 3) := by decide +kernel
theorem dX12_init_39 : decode cX12_init 39 = .ok (.newarray .int, 2) := by decide +kernel
theorem dX12_init_41 : decode cX12_init 41 = .ok (.putfield 23, 3) := by decide +kernel
theorem dX12_init_44 : decode cX12_init 44 = .ok (.aload_n 0, 1) := by decide +kernel
theorem dX12_init_45 : decode cX12_init 45 = .ok (.bipush 18, 2) := by decide +kernel
theorem dX12_init_47 : decode cX12_init 47 = .ok (.newarray .int, 2) := by decide +kernel
theorem dX12_init_49 : decode cX12_init 49 = .ok (.putfield 26, 3) := by decide +kernel
theorem dX12_init_52 : decode cX12_init 52 = .ok (.aload_n 0, 1) := by decide +kernel
theorem dX12_init_53 : decode cX12_init 53 = .ok (.sipush 288, 3) := by decide +kernel
theorem dX12_init_56 : decode cX12_init 56 = .ok (.newarray .int, 2) := by decide +kernel
theorem dX12_init_58 : decode cX12_init 58 = .ok (.putfield 29, 3) := by decide +kernel
theorem dX12_init_61 : decode cX12_init 61 = .ok (.aload_n 0, 1) := by decide +kernel
theorem dX12_init_62 : decode cX12_init 62 = .ok (.bipush 54, 2) := by decide +kernel
theorem dX12_init_64 : decode cX12_init 64 = .ok (.newarray .int, 2) := by decide +kernel
theorem dX12_init_66 : decode cX12_init 66 = .ok (.putfield 32, 3) := by decide +kernel
theorem dX12_init_69 : decode cX12_init 69 = .ok (.aload_n 0, 1) := by decide +kernel
theorem dX12_init_70 : decode cX12_init 70 = .ok (.bipush 7, 2) := by decide +kernel
theorem dX12_init_72 : decode cX12_init 72 = .ok (.newarray .int, 2) := by decide +kernel
theorem dX12_init_74 : decode cX12_init 74 = .ok (.putfield 35, 3) := by decide +kernel
theorem dX12_init_77 : decode cX12_init 77 = .ok (.aload_n 0, 1) := by decide +kernel
theorem dX12_init_78 : decode cX12_init 78 = .ok (.bipush 7, 2) := by decide +kernel
theorem dX12_init_80 : decode cX12_init 80 = .ok (.newarray .int, 2) := by decide +kernel
theorem dX12_init_82 : decode cX12_init 82 = .ok (.putfield 38, 3) := by decide +kernel
theorem dX12_init_85 : decode cX12_init 85 = .ok (.aload_n 0, 1) := by decide +kernel
theorem dX12_init_86 : decode cX12_init 86 = .ok (.iconst 3, 1) := by decide +kernel
theorem dX12_init_87 : decode cX12_init 87 = .ok (.newarray .int, 2) := by decide +kernel
theorem dX12_init_89 : decode cX12_init 89 = .ok (.putfield 41, 3) := by decide +kernel
theorem dX12_init_92 : decode cX12_init 92 = .ok (.aload_n 0, 1) := by decide +kernel
theorem dX12_init_93 : decode cX12_init 93 = .ok (.bipush 7, 2) := by decide +kernel
theorem dX12_init_95 : decode cX12_init 95 = .ok (.newarray .int, 2) := by decide +kernel
theorem dX12_init_97 : decode cX12_init 97 = .ok (.putfield 44, 3) := by decide +kernel
theorem dX12_init_100 : decode cX12_init 100 = .ok (.aload_n 0, 1) := by decide +kernel
theorem dX12_init_101 : decode cX12_init 101 = .ok (.bipush 7, 2) := by decide +kernel
theorem dX12_init_103 : decode cX12_init 103 = .ok (.newarray .int, 2) := by decide +kernel
theorem dX12_init_105 : decode cX12_init 105 = .ok (.putfield 47, 3) := by decide +kernel
theorem dX12_init_108 : decode cX12_init 108 = .ok (.aload_n 0, 1) := by decide +kernel
theorem dX12_init_109 : decode cX12_init 109 = .ok (.bipush 7, 2) := by decide +kernel
theorem dX12_init_111 : decode cX12_init 111 = .ok (.newarray .int, 2) := by decide +kernel
theorem dX12_init_113 : decode cX12_init 113 = .ok (.putfield 50, 3) := by decide +kernel
theorem dX12_init_116 : decode cX12_init 116 = .ok (.return_, 1) := by decide +kernel
theorem dX12_thrown_0 : decode cX12_thrown 0 = .ok (.aload_n 0, 1) := by decide +kernel
theorem dX12_thrown_1 : decode cX12_thrown 1 = .ok (.getfield 53, 3) := by decide +kernel
theorem dX12_thrown_4 : decode cX12_thrown 4 = .ok (.ireturn, 1) := by decide +kernel
theorem dX12_good_0 : decode cX12_good 0 = .ok (.aload_n 0, 1) := by decide +kernel
theorem dX12_good_1 : decode cX12_good 1 = .ok (.iconst 0, 1) := by decide +kernel
theorem dX12_good_2 : decode cX12_good 2 = .ok (.putfield 53, 3) := by decide +kernel
theorem dX12_good_5 : decode cX12_good 5 = .ok (.aload_n 0, 1) := by decide +kernel
theorem dX12_good_6 : decode cX12_good 6 = .ok (.iconst 0, 1) := by decide +kernel
theorem dX12_good_7 : decode cX12_good 7 = .ok (.putfield 56, 3) := by decide +kernel
theorem dX12_good_10 : decode cX12_good 10 = .ok (.return_, 1) := by decide +kernel
theorem dX12_no_0 : decode cX12_no 0 = .ok (.aload_n 0, 1) := by decide +kernel
theorem dX12_no_1 : decode cX12_no 1 = .ok (.iload_n 1, 1) := by decide +kernel
theorem dX12_no_2 : decode cX12_no 2 = .ok (.putfield 56, 3) := by decide +kernel
theorem dX12_no_5 : decode cX12_no 5 = .ok (.iconst (-1), 1) := by decide +kernel
theorem dX12_no_6 : decode cX12_no 6 = .ok (.ireturn, 1) := by decide +kernel
theorem dX12_isNot_0 : decode cX12_isNot 0 = .ok (.aload_n 0, 1) := by decide +kernel
theorem dX12_isNot_1 : decode cX12_isNot 1 = .ok (.iload_n 1, 1) := by decide +kernel
theorem dX12_isNot_2 : decode cX12_isNot 2 = .ok (.putfield 56, 3) := by decide +kernel
theorem dX12_isNot_5 : decode cX12_isNot 5 = .ok (.iconst 0, 1) := by decide +kernel
theorem dX12_isNot_6 : decode cX12_isNot 6 = .ok (.ireturn, 1) := by decide +kernel
theorem dX12_in_0 : decode cX12_in 0 = .ok (.iload_n 0, 1) := by decide +kernel
theorem dX12_in_1 : decode cX12_in 1 = .ok (.iload_n 1, 1) := by decide +kernel
theorem dX12_in_2 : decode cX12_in 2 = .ok (.if_icmp .lt 12, 3) := by decide +kernel
theorem dX12_in_5 : decode cX12_in 5 = .ok (.iload_n 0, 1) := by decide +kernel
theorem dX12_in_6 : decode cX12_in 6 = .ok (.iload_n 2, 1) := by decide +kernel
theorem dX12_in_7 : decode cX12_in 7 = .ok (.if_icmp .gt 7, 3) := by decide +kernel
theorem dX12_in_10 : decode cX12_in 10 = .ok (.iconst 1, 1) := by decide +kernel
theorem dX12_in_11 : decode cX12_in 11 = .ok (.goto 4, 3) := by decide +kernel
theorem dX12_in_14 : decode cX12_in 14 = .ok (.iconst 0, 1) := by decide +kernel
theorem dX12_in_15 : decode cX12_in 15 = .ok (.ireturn, 1) := by decide +kernel
theorem dX12_hasBit_0 : decode cX12_hasBit 0 = .ok (.iload_n 0, 1) := by decide +kernel
theorem dX12_hasBit_1 : decode cX12_hasBit 1 = .ok (.iload_n 1, 1) := by decide +kernel
theorem dX12_hasBit_2 : decode cX12_hasBit 2 = .ok (.ishr, 1) := by decide +kernel
theorem dX12_hasBit_3 : decode cX12_hasBit 3 = .ok (.iconst 1, 1) := by decide +kernel
theorem dX12_hasBit_4 : decode cX12_hasBit 4 = .ok (.iand, 1) := by decide +kernel
theorem dX12_hasBit_5 : decode cX12_hasBit 5 = .ok (.iconst 1, 1) := by decide +kernel
theorem dX12_hasBit_6 : decode cX12_hasBit 6 = .ok (.if_icmp .ne 7, 3) := by decide +kernel
theorem dX12_hasBit_9 : decode cX12_hasBit 9 = .ok (.iconst 1, 1) := by decide +kernel
theorem dX12_hasBit_10 : decode cX12_hasBit 10 = .ok (.goto 4, 3) := by decide +kernel
theorem dX12_hasBit_13 : decode cX12_hasBit 13 = .ok (.iconst 0, 1) := by decide +kernel
theorem dX12_hasBit_14 : decode cX12_hasBit 14 = .ok (.ireturn, 1) := by decide +kernel
theorem dX12_ones_0 : decode cX12_ones 0 = .ok (.iconst 0, 1) := by decide +kernel
theorem dX12_ones_1 : decode cX12_ones 1 = .ok (.istore_n 1, 1) := by decide +kernel
theorem dX12_ones_2 : decode cX12_ones 2 = .ok (.iconst 0, 1) := by decide +kernel
theorem dX12_ones_3 : decode cX12_ones 3 = .ok (.istore_n 2, 1) := by decide +kernel
theorem dX12_ones_4 : decode cX12_ones 4 = .ok (.iload_n 2, 1) := by decide +kernel
theorem dX12_ones_5 : decode cX12_ones 5 = .ok (.bipush 8, 2) := by decide +kernel
theorem dX12_ones_7 : decode cX12_ones 7 = .ok (.if_icmp .ge 17, 3) := by decide +kernel
theorem dX12_ones_10 : decode cX12_ones 10 = .ok (.iload_n 1, 1) := by decide +kernel
theorem dX12_ones_11 : decode cX12_ones 11 = .ok (.iload_n 0, 1) := by decide +kernel
theorem dX12_ones_12 : decode cX12_ones 12 = .ok (.iload_n 2, 1) := by decide +kernel
theorem dX12_ones_13 : decode cX12_ones 13 = .ok (.ishr, 1) := by decide +kernel
theorem dX12_ones_14 : decode cX12_ones 14 = .ok (.iconst 1, 1) := by decide +kernel
theorem dX12_ones_15 : decode cX12_ones 15 = .ok (.iand, 1) := by decide +kernel
theorem dX12_ones_16 : decode cX12_ones 16 = .ok (.iadd, 1) := by decide +kernel
theorem dX12_ones_17 : decode cX12_ones 17 = .ok (.istore_n 1, 1) := by decide +kernel
theorem dX12_ones_18 : decode cX12_ones 18 = .ok (.iinc 2 1, 3) := by decide +kernel
theorem dX12_ones_21 : decode cX12_ones 21 = .ok (.goto (-17), 3) := by decide +kernel
theorem dX12_ones_24 : decode cX12_ones 24 = .ok (.iload_n 1, 1) := by decide +kernel
theorem dX12_ones_25 : decode cX12_ones 25 = .ok (.ireturn, 1) := by decide +kernel
theorem dX12_copy_0 : decode cX12_copy 0 = .ok (.iconst 0, 1) := by decide +kernel
theorem dX12_copy_1 : decode cX12_copy 1 = .ok (.istore 5, 2) := by decide +kernel
theorem dX12_copy_3 : decode cX12_copy 3 = .ok (.iload 5, 2) := by decide +kernel
theorem dX12_copy_5 : decode cX12_copy 5 = .ok (.iload 4, 2) := by decide +kernel
theorem dX12_copy_7 : decode cX12_copy 7 = .ok (.if_icmp .ge 21, 3) := by decide +kernel
theorem dX12_copy_10 : decode cX12_copy 10 = .ok (.aload_n 2, 1) := by decide +kernel
theorem dX12_copy_11 : decode cX12_copy 11 = .ok (.iload_n 3, 1) := by decide +kernel
theorem dX12_copy_12 : decode cX12_copy 12 = .ok (.iload 5, 2) := by decide +kernel
theorem dX12_copy_14 : decode cX12_copy 14 = .ok (.iadd, 1) := by decide +kernel
theorem dX12_copy_15 : decode cX12_copy 15 = .ok (.aload_n 0, 1) := by decide +kernel
theorem dX12_copy_16 : decode cX12_copy 16 = .ok (.iload_n 1, 1) := by decide +kernel
theorem dX12_copy_17 : decode cX12_copy 17 = .ok (.iload 5, 2) := by decide +kernel
theorem dX12_copy_19 : decode cX12_copy 19 = .ok (.iadd, 1) := by decide +kernel
theorem dX12_copy_20 : decode cX12_copy 20 = .ok (.iaload, 1) := by decide +kernel
theorem dX12_copy_21 : decode cX12_copy 21 = .ok (.iastore, 1) := by decide +kernel
theorem dX12_copy_22 : decode cX12_copy 22 = .ok (.iinc 5 1, 3) := by decide +kernel
theorem dX12_copy_25 : decode cX12_copy 25 = .ok (.goto (-22), 3) := by decide +kernel
theorem dX12_copy_28 : decode cX12_copy 28 = .ok (.return_, 1) := by decide +kernel
theorem dX12_lowest_0 : decode cX12_lowest 0 = .ok (.lload_n 2, 1) := by decide +kernel
theorem dX12_lowest_1 : decode cX12_lowest 1 = .ok (.lstore 5, 2) := by decide +kernel
theorem dX12_lowest_3 : decode cX12_lowest 3 = .ok (.lload_n 0, 1) := by decide +kernel
theorem dX12_lowest_4 : decode cX12_lowest 4 = .ok (.lstore 7, 2) := by decide +kernel
theorem dX12_lowest_6 : decode cX12_lowest 6 = .ok (.lload 7, 2) := by decide +kernel
theorem dX12_lowest_8 : decode cX12_lowest 8 = .ok (.lconst 0, 1) := by decide +kernel
theorem dX12_lowest_9 : decode cX12_lowest 9 = .ok (.lcmp, 1) := by decide +kernel
theorem dX12_lowest_10 : decode cX12_lowest 10 = .ok (.ifCond .eq 21, 3) := by decide +kernel
theorem dX12_lowest_13 : decode cX12_lowest 13 = .ok (.lload 5, 2) := by decide +kernel
theorem dX12_lowest_15 : decode cX12_lowest 15 = .ok (.lload 7, 2) := by decide +kernel
theorem dX12_lowest_17 : decode cX12_lowest 17 = .ok (.lrem, 1) := by decide +kernel
theorem dX12_lowest_18 : decode cX12_lowest 18 = .ok (.lstore 9, 2) := by decide +kernel
theorem dX12_lowest_20 : decode cX12_lowest 20 = .ok (.lload 7, 2) := by decide +kernel
theorem dX12_lowest_22 : decode cX12_lowest 22 = .ok (.lstore 5, 2) := by decide +kernel
theorem dX12_lowest_24 : decode cX12_lowest 24 = .ok (.lload 9, 2) := by decide +kernel
theorem dX12_lowest_26 : decode cX12_lowest 26 = .ok (.lstore 7, 2) := by decide +kernel
theorem dX12_lowest_28 : decode cX12_lowest 28 = .ok (.goto (-22), 3) := by decide +kernel
theorem dX12_lowest_31 : decode cX12_lowest 31 = .ok (.iload 4, 2) := by decide +kernel
theorem dX12_lowest_33 : decode cX12_lowest 33 = .ok (.ifCond .eq 7, 3) := by decide +kernel
theorem dX12_lowest_36 : decode cX12_lowest 36 = .ok (.lload_n 2, 1) := by decide +kernel
theorem dX12_lowest_37 : decode cX12_lowest 37 = .ok (.goto 4, 3) := by decide +kernel
theorem dX12_lowest_40 : decode cX12_lowest 40 = .ok (.lload_n 0, 1) := by decide +kernel
theorem dX12_lowest_41 : decode cX12_lowest 41 = .ok (.lload 5, 2) := by decide +kernel
theorem dX12_lowest_43 : decode cX12_lowest 43 = .ok (.ldiv, 1) := by decide +kernel
theorem dX12_lowest_44 : decode cX12_lowest 44 = .ok (.lreturn, 1) := by decide +kernel
theorem dX12_feed_0 : decode cX12_feed 0 = .ok (.aload_n 0, 1) := by decide +kernel
theorem dX12_feed_1 : decode cX12_feed 1 = .ok (.iconst 0, 1) := by decide +kernel
theorem dX12_feed_2 : decode cX12_feed 2 = .ok (.putfield 53, 3) := by decide +kernel
theorem dX12_feed_5 : decode cX12_feed 5 = .ok (.aload_n 0, 1) := by decide +kernel
theorem dX12_feed_6 : decode cX12_feed 6 = .ok (.getfield 59, 3) := by decide +kernel
theorem dX12_feed_9 : decode cX12_feed 9 = .ok (.bipush 20, 2) := by decide +kernel
theorem dX12_feed_11 : decode cX12_feed 11 = .ok (.iadd, 1) := by decide +kernel
theorem dX12_feed_12 : decode cX12_feed 12 = .ok (.sipush 900, 3) := by decide +kernel
theorem dX12_feed_15 : decode cX12_feed 15 = .ok (.if_icmp .le 5, 3) := by decide +kernel
theorem dX12_feed_18 : decode cX12_feed 18 = .ok (.iconst (-1), 1) := by decide +kernel
theorem dX12_feed_19 : decode cX12_feed 19 = .ok (.ireturn, 1) := by decide +kernel
theorem dX12_feed_20 : decode cX12_feed 20 = .ok (.iconst 0, 1) := by decide +kernel
theorem dX12_feed_21 : decode cX12_feed 21 = .ok (.istore 6, 2) := by decide +kernel
theorem dX12_feed_23 : decode cX12_feed 23 = .ok (.iload 6, 2) := by decide +kernel
theorem dX12_feed_25 : decode cX12_feed 25 = .ok (.bipush 20, 2) := by decide +kernel
theorem dX12_feed_27 : decode cX12_feed 27 = .ok (.if_icmp .ge 93, 3) := by decide +kernel
theorem dX12_feed_30 : decode cX12_feed 30 = .ok (.iload 6, 2) := by decide +kernel
theorem dX12_feed_32 : decode cX12_feed 32 = .ok (.iconst 4, 1) := by decide +kernel
theorem dX12_feed_33 : decode cX12_feed 33 = .ok (.if_icmp .ge 7, 3) := by decide +kernel
theorem dX12_feed_36 : decode cX12_feed 36 = .ok (.iload_n 1, 1) := by decide +kernel
theorem dX12_feed_37 : decode cX12_feed 37 = .ok (.goto 39, 3) := by decide +kernel
theorem dX12_feed_40 : decode cX12_feed 40 = .ok (.iload 6, 2) := by decide +kernel
theorem dX12_feed_42 : decode cX12_feed 42 = .ok (.bipush 8, 2) := by decide +kernel
theorem dX12_feed_44 : decode cX12_feed 44 = .ok (.if_icmp .ge 7, 3) := by decide +kernel
theorem dX12_feed_47 : decode cX12_feed 47 = .ok (.iload_n 2, 1) := by decide +kernel
theorem dX12_feed_48 : decode cX12_feed 48 = .ok (.goto 28, 3) := by decide +kernel
theorem dX12_feed_51 : decode cX12_feed 51 = .ok (.iload 6, 2) := by decide +kernel
theorem dX12_feed_53 : decode cX12_feed 53 = .ok (.bipush 12, 2) := by decide +kernel
theorem dX12_feed_55 : decode cX12_feed 55 = .ok (.if_icmp .ge 7, 3) := by decide +kernel
theorem dX12_feed_58 : decode cX12_feed 58 = .ok (.iload_n 3, 1) := by decide +kernel
theorem dX12_feed_59 : decode cX12_feed 59 = .ok (.goto 17, 3) := by decide +kernel
theorem dX12_feed_62 : decode cX12_feed 62 = .ok (.iload 6, 2) := by decide +kernel
theorem dX12_feed_64 : decode cX12_feed 64 = .ok (.bipush 16, 2) := by decide +kernel
theorem dX12_feed_66 : decode cX12_feed 66 = .ok (.if_icmp .ge 8, 3) := by decide +kernel
theorem dX12_feed_69 : decode cX12_feed 69 = .ok (.iload 4, 2) := by decide +kernel
theorem dX12_feed_71 : decode cX12_feed 71 = .ok (.goto 5, 3) := by decide +kernel
theorem dX12_feed_74 : decode cX12_feed 74 = .ok (.iload 5, 2) := by decide +kernel
theorem dX12_feed_76 : decode cX12_feed 76 = .ok (.istore 7, 2) := by decide +kernel
theorem dX12_feed_78 : decode cX12_feed 78 = .ok (.aload_n 0, 1) := by decide +kernel
theorem dX12_feed_79 : decode cX12_feed 79 = .ok (.getfield 7, 3) := by decide +kernel
theorem dX12_feed_82 : decode cX12_feed 82 = .ok (.aload_n 0, 1) := by decide +kernel
theorem dX12_feed_83 : decode cX12_feed 83 = .ok (.getfield 59, 3) := by decide +kernel
theorem dX12_feed_86 : decode cX12_feed 86 = .ok (.iload 7, 2) := by decide +kernel
theorem dX12_feed_88 : decode cX12_feed 88 = .ok (.bipush 24, 2) := by decide +kernel
theorem dX12_feed_90 : decode cX12_feed 90 = .ok (.bipush 8, 2) := by decide +kernel
theorem dX12_feed_92 : decode cX12_feed 92 = .ok (.iload 6, 2) := by decide +kernel
theorem dX12_feed_94 : decode cX12_feed 94 = .ok (.iconst 4, 1) := by decide +kernel
theorem dX12_feed_95 : decode cX12_feed 95 = .ok (.irem, 1) := by decide +kernel
theorem dX12_feed_96 : decode cX12_feed 96 = .ok (.imul, 1) := by decide +kernel
theorem dX12_feed_97 : decode cX12_feed 97 = .ok (.isub, 1) := by decide +kernel
theorem dX12_feed_98 : decode cX12_feed 98 = .ok (.ishr, 1) := by decide +kernel
theorem dX12_feed_99 : decode cX12_feed 99 = .ok (.sipush 255, 3) := by decide +kernel
theorem dX12_feed_102 : decode cX12_feed 102 = .ok (.iand, 1) := by decide +kernel
theorem dX12_feed_103 : decode cX12_feed 103 = .ok (.iastore, 1) := by decide +kernel
theorem dX12_feed_104 : decode cX12_feed 104 = .ok (.aload_n 0, 1) := by decide +kernel
theorem dX12_feed_105 : decode cX12_feed 105 = .ok (.dup, 1) := by decide +kernel
theorem dX12_feed_106 : decode cX12_feed 106 = .ok (.getfield 59, 3) := by decide +kernel
theorem dX12_feed_109 : decode cX12_feed 109 = .ok (.iconst 1, 1) := by decide +kernel
theorem dX12_feed_110 : decode cX12_feed 110 = .ok (.iadd, 1) := by decide +kernel
theorem dX12_feed_111 : decode cX12_feed 111 = .ok (.putfield 59, 3) := by decide +kernel
theorem dX12_feed_114 : decode cX12_feed 114 = .ok (.iinc 6 1, 3) := by decide +kernel
theorem dX12_feed_117 : decode cX12_feed 117 = .ok (.goto (-94), 3) := by decide +kernel
theorem dX12_feed_120 : decode cX12_feed 120 = .ok (.aload_n 0, 1) := by decide +kernel
theorem dX12_feed_121 : decode cX12_feed 121 = .ok (.getfield 59, 3) := by decide +kernel
theorem dX12_feed_124 : decode cX12_feed 124 = .ok (.ireturn, 1) := by decide +kernel
theorem dX12_look_0 : decode cX12_look 0 = .ok (.iload_n 1, 1) := by decide +kernel
theorem dX12_look_1 : decode cX12_look 1 = .ok (.aload_n 0, 1) := by decide +kernel
theorem dX12_look_2 : decode cX12_look 2 = .ok (.getfield 62, 3) := by decide +kernel
theorem dX12_look_5 : decode cX12_look 5 = .ok (.if_icmp .ge 12, 3) := by decide +kernel
theorem dX12_look_8 : decode cX12_look 8 = .ok (.aload_n 0, 1) := by decide +kernel
theorem dX12_look_9 : decode cX12_look 9 = .ok (.getfield 7, 3) := by decide +kernel
theorem dX12_look_12 : decode cX12_look 12 = .ok (.iload_n 1, 1) := by decide +kernel
theorem dX12_look_13 : decode cX12_look 13 = .ok (.iaload, 1) := by decide +kernel
theorem dX12_look_14 : decode cX12_look 14 = .ok (.goto 4, 3) := by decide +kernel
theorem dX12_look_17 : decode cX12_look 17 = .ok (.iconst (-1), 1) := by decide +kernel
theorem dX12_look_18 : decode cX12_look 18 = .ok (.ireturn, 1) := by decide +kernel
theorem dX12_isSmall_0 : decode cX12_isSmall 0 = .ok (.iload_n 0, 1) := by decide +kernel
theorem dX12_isSmall_1 : decode cX12_isSmall 1 = .ok (.bipush 97, 2) := by decide +kernel
theorem dX12_isSmall_3 : decode cX12_isSmall 3 = .ok (.if_icmp .lt 13, 3) := by decide +kernel
theorem dX12_isSmall_6 : decode cX12_isSmall 6 = .ok (.iload_n 0, 1) := by decide +kernel
theorem dX12_isSmall_7 : decode cX12_isSmall 7 = .ok (.bipush 122, 2) := by decide +kernel
theorem dX12_isSmall_9 : decode cX12_isSmall 9 = .ok (.if_icmp .gt 7, 3) := by decide +kernel
theorem dX12_isSmall_12 : decode cX12_isSmall 12 = .ok (.iconst 1, 1) := by decide +kernel
theorem dX12_isSmall_13 : decode cX12_isSmall 13 = .ok (.goto 4, 3) := by decide +kernel
theorem dX12_isSmall_16 : decode cX12_isSmall 16 = .ok (.iconst 0, 1) := by decide +kernel
theorem dX12_isSmall_17 : decode cX12_isSmall 17 = .ok (.ireturn, 1) := by decide +kernel
theorem dX12_isDigit_0 : decode cX12_isDigit 0 = .ok (.iload_n 0, 1) := by decide +kernel
theorem dX12_isDigit_1 : decode cX12_isDigit 1 = .ok (.bipush 48, 2) := by decide +kernel
theorem dX12_isDigit_3 : decode cX12_isDigit 3 = .ok (.if_icmp .lt 13, 3) := by decide +kernel
theorem dX12_isDigit_6 : decode cX12_isDigit 6 = .ok (.iload_n 0, 1) := by decide +kernel
theorem dX12_isDigit_7 : decode cX12_isDigit 7 = .ok (.bipush 57, 2) := by decide +kernel
theorem dX12_isDigit_9 : decode cX12_isDigit 9 = .ok (.if_icmp .gt 7, 3) := by decide +kernel
theorem dX12_isDigit_12 : decode cX12_isDigit 12 = .ok (.iconst 1, 1) := by decide +kernel
theorem dX12_isDigit_13 : decode cX12_isDigit 13 = .ok (.goto 4, 3) := by decide +kernel
theorem dX12_isDigit_16 : decode cX12_isDigit 16 = .ok (.iconst 0, 1) := by decide +kernel
theorem dX12_isDigit_17 : decode cX12_isDigit 17 = .ok (.ireturn, 1) := by decide +kernel
theorem dX12_goOn_0 : decode cX12_goOn 0 = .ok (.aload_n 0, 1) := by decide +kernel
theorem dX12_goOn_1 : decode cX12_goOn 1 = .ok (.getfield 65, 3) := by decide +kernel
theorem dX12_goOn_4 : decode cX12_goOn 4 = .ok (.istore_n 1, 1) := by decide +kernel
theorem dX12_goOn_5 : decode cX12_goOn 5 = .ok (.aload_n 0, 1) := by decide +kernel
theorem dX12_goOn_6 : decode cX12_goOn 6 = .ok (.iload_n 1, 1) := by decide +kernel
theorem dX12_goOn_7 : decode cX12_goOn 7 = .ok (.invokevirtual 68, 3) := by decide +kernel
theorem dX12_goOn_10 : decode cX12_goOn 10 = .ok (.bipush 32, 2) := by decide +kernel
theorem dX12_goOn_12 : decode cX12_goOn 12 = .ok (.if_icmp .ne 9, 3) := by decide +kernel
theorem dX12_goOn_15 : decode cX12_goOn 15 = .ok (.iinc 1 1, 3) := by decide +kernel
theorem dX12_goOn_18 : decode cX12_goOn 18 = .ok (.goto (-13), 3) := by decide +kernel
theorem dX12_goOn_21 : decode cX12_goOn 21 = .ok (.aload_n 0, 1) := by decide +kernel
theorem dX12_goOn_22 : decode cX12_goOn 22 = .ok (.iload_n 1, 1) := by decide +kernel
theorem dX12_goOn_23 : decode cX12_goOn 23 = .ok (.putfield 72, 3) := by decide +kernel
theorem dX12_goOn_26 : decode cX12_goOn 26 = .ok (.aload_n 0, 1) := by decide +kernel
theorem dX12_goOn_27 : decode cX12_goOn 27 = .ok (.iload_n 1, 1) := by decide +kernel
theorem dX12_goOn_28 : decode cX12_goOn 28 = .ok (.invokevirtual 68, 3) := by decide +kernel
theorem dX12_goOn_31 : decode cX12_goOn 31 = .ok (.istore_n 2, 1) := by decide +kernel
theorem dX12_goOn_32 : decode cX12_goOn 32 = .ok (.aload_n 0, 1) := by decide +kernel
theorem dX12_goOn_33 : decode cX12_goOn 33 = .ok (.iconst 0, 1) := by decide +kernel
theorem dX12_goOn_34 : decode cX12_goOn 34 = .ok (.putfield 75, 3) := by decide +kernel
theorem dX12_goOn_37 : decode cX12_goOn 37 = .ok (.aload_n 0, 1) := by decide +kernel
theorem dX12_goOn_38 : decode cX12_goOn 38 = .ok (.iconst 0, 1) := by decide +kernel
theorem dX12_goOn_39 : decode cX12_goOn 39 = .ok (.putfield 78, 3) := by decide +kernel
theorem dX12_goOn_42 : decode cX12_goOn 42 = .ok (.iload_n 2, 1) := by decide +kernel
theorem dX12_goOn_43 : decode cX12_goOn 43 = .ok (.iconst (-1), 1) := by decide +kernel
theorem dX12_goOn_44 : decode cX12_goOn 44 = .ok (.if_icmp .ne 16, 3) := by decide +kernel
theorem dX12_goOn_47 : decode cX12_goOn 47 = .ok (.aload_n 0, 1) := by decide +kernel
theorem dX12_goOn_48 : decode cX12_goOn 48 = .ok (.iconst 0, 1) := by decide +kernel
theorem dX12_goOn_49 : decode cX12_goOn 49 = .ok (.putfield 81, 3) := by decide +kernel
theorem dX12_goOn_52 : decode cX12_goOn 52 = .ok (.aload_n 0, 1) := by decide +kernel
theorem dX12_goOn_53 : decode cX12_goOn 53 = .ok (.iload_n 1, 1) := by decide +kernel
theorem dX12_goOn_54 : decode cX12_goOn 54 = .ok (.putfield 65, 3) := by decide +kernel
theorem dX12_goOn_57 : decode cX12_goOn 57 = .ok (.goto 184, 3) := by decide +kernel
theorem dX12_goOn_60 : decode cX12_goOn 60 = .ok (.iload_n 2, 1) := by decide +kernel
theorem dX12_goOn_61 : decode cX12_goOn 61 = .ok (.invokestatic 84, 3) := by decide +kernel
theorem dX12_goOn_64 : decode cX12_goOn 64 = .ok (.ifCond .eq 79, 3) := by decide +kernel
theorem dX12_goOn_67 : decode cX12_goOn 67 = .ok (.aload_n 0, 1) := by decide +kernel
theorem dX12_goOn_68 : decode cX12_goOn 68 = .ok (.iload_n 1, 1) := by decide +kernel
theorem dX12_goOn_69 : decode cX12_goOn 69 = .ok (.invokevirtual 68, 3) := by decide +kernel
theorem dX12_goOn_72 : decode cX12_goOn 72 = .ok (.invokestatic 84, 3) := by decide +kernel
theorem dX12_goOn_75 : decode cX12_goOn 75 = .ok (.ifCond .eq 42, 3) := by decide +kernel
theorem dX12_goOn_78 : decode cX12_goOn 78 = .ok (.aload_n 0, 1) := by decide +kernel
theorem dX12_goOn_79 : decode cX12_goOn 79 = .ok (.getfield 75, 3) := by decide +kernel
theorem dX12_goOn_82 : decode cX12_goOn 82 = .ok (.bipush 8, 2) := by decide +kernel
theorem dX12_goOn_84 : decode cX12_goOn 84 = .ok (.if_icmp .ge 17, 3) := by decide +kernel
theorem dX12_goOn_87 : decode cX12_goOn 87 = .ok (.aload_n 0, 1) := by decide +kernel
theorem dX12_goOn_88 : decode cX12_goOn 88 = .ok (.getfield 17, 3) := by decide +kernel
theorem dX12_goOn_91 : decode cX12_goOn 91 = .ok (.aload_n 0, 1) := by decide +kernel
theorem dX12_goOn_92 : decode cX12_goOn 92 = .ok (.getfield 75, 3) := by decide +kernel
theorem dX12_goOn_95 : decode cX12_goOn 95 = .ok (.aload_n 0, 1) := by decide +kernel
theorem dX12_goOn_96 : decode cX12_goOn 96 = .ok (.iload_n 1, 1) := by decide +kernel
theorem dX12_goOn_97 : decode cX12_goOn 97 = .ok (.invokevirtual 68, 3) := by decide +kernel
theorem dX12_goOn_100 : decode cX12_goOn 100 = .ok (.iastore, 1) := by decide +kernel
theorem dX12_goOn_101 : decode cX12_goOn 101 = .ok (.aload_n 0, 1) := by decide +kernel
theorem dX12_goOn_102 : decode cX12_goOn 102 = .ok (.dup, 1) := by decide +kernel
theorem dX12_goOn_103 : decode cX12_goOn 103 = .ok (.getfield 75, 3) := by decide +kernel
theorem dX12_goOn_106 : decode cX12_goOn 106 = .ok (.iconst 1, 1) := by decide +kernel
theorem dX12_goOn_107 : decode cX12_goOn 107 = .ok (.iadd, 1) := by decide +kernel
theorem dX12_goOn_108 : decode cX12_goOn 108 = .ok (.putfield 75, 3) := by decide +kernel
theorem dX12_goOn_111 : decode cX12_goOn 111 = .ok (.iinc 1 1, 3) := by decide +kernel
theorem dX12_goOn_114 : decode cX12_goOn 114 = .ok (.goto (-47), 3) := by decide +kernel
theorem dX12_goOn_117 : decode cX12_goOn 117 = .ok (.aload_n 0, 1) := by decide +kernel
theorem dX12_goOn_118 : decode cX12_goOn 118 = .ok (.iload_n 1, 1) := by decide +kernel
theorem dX12_goOn_119 : decode cX12_goOn 119 = .ok (.putfield 65, 3) := by decide +kernel
theorem dX12_goOn_122 : decode cX12_goOn 122 = .ok (.aload_n 0, 1) := by decide +kernel
theorem dX12_goOn_123 : decode cX12_goOn 123 = .ok (.aload_n 0, 1) := by decide +kernel
theorem dX12_goOn_124 : decode cX12_goOn 124 = .ok (.getfield 75, 3) := by decide +kernel
theorem dX12_goOn_127 : decode cX12_goOn 127 = .ok (.bipush 8, 2) := by decide +kernel
theorem dX12_goOn_129 : decode cX12_goOn 129 = .ok (.if_icmp .le 7, 3) := by decide +kernel
theorem dX12_goOn_132 : decode cX12_goOn 132 = .ok (.iconst 1, 1) := by decide +kernel
theorem dX12_goOn_133 : decode cX12_goOn 133 = .ok (.goto 4, 3) := by decide +kernel
theorem dX12_goOn_136 : decode cX12_goOn 136 = .ok (.iconst 2, 1) := by decide +kernel
theorem dX12_goOn_137 : decode cX12_goOn 137 = .ok (.putfield 81, 3) := by decide +kernel
theorem dX12_goOn_140 : decode cX12_goOn 140 = .ok (.goto 101, 3) := by decide +kernel
theorem dX12_goOn_143 : decode cX12_goOn 143 = .ok (.iload_n 2, 1) := by decide +kernel
theorem dX12_goOn_144 : decode cX12_goOn 144 = .ok (.invokestatic 88, 3) := by decide +kernel
theorem dX12_goOn_147 : decode cX12_goOn 147 = .ok (.ifCond .eq 72, 3) := by decide +kernel
theorem dX12_goOn_150 : decode cX12_goOn 150 = .ok (.iconst 0, 1) := by decide +kernel
theorem dX12_goOn_151 : decode cX12_goOn 151 = .ok (.istore_n 3, 1) := by decide +kernel
theorem dX12_goOn_152 : decode cX12_goOn 152 = .ok (.aload_n 0, 1) := by decide +kernel
theorem dX12_goOn_153 : decode cX12_goOn 153 = .ok (.iload_n 1, 1) := by decide +kernel
theorem dX12_goOn_154 : decode cX12_goOn 154 = .ok (.invokevirtual 68, 3) := by decide +kernel
theorem dX12_goOn_157 : decode cX12_goOn 157 = .ok (.invokestatic 88, 3) := by decide +kernel
theorem dX12_goOn_160 : decode cX12_goOn 160 = .ok (.ifCond .eq 37, 3) := by decide +kernel
theorem dX12_goOn_163 : decode cX12_goOn 163 = .ok (.iload_n 3, 1) := by decide +kernel
theorem dX12_goOn_164 : decode cX12_goOn 164 = .ok (.iconst 3, 1) := by decide +kernel
theorem dX12_goOn_165 : decode cX12_goOn 165 = .ok (.if_icmp .ge 23, 3) := by decide +kernel
theorem dX12_goOn_168 : decode cX12_goOn 168 = .ok (.aload_n 0, 1) := by decide +kernel
theorem dX12_goOn_169 : decode cX12_goOn 169 = .ok (.bipush 10, 2) := by decide +kernel
theorem dX12_goOn_171 : decode cX12_goOn 171 = .ok (.aload_n 0, 1) := by decide +kernel
theorem dX12_goOn_172 : decode cX12_goOn 172 = .ok (.getfield 78, 3) := by decide +kernel
theorem dX12_goOn_175 : decode cX12_goOn 175 = .ok (.imul, 1) := by decide +kernel
theorem dX12_goOn_176 : decode cX12_goOn 176 = .ok (.aload_n 0, 1) := by decide +kernel
theorem dX12_goOn_177 : decode cX12_goOn 177 = .ok (.iload_n 1, 1) := by decide +kernel
theorem dX12_goOn_178 : decode cX12_goOn 178 = .ok (.invokevirtual 68, 3) := by decide +kernel
theorem dX12_goOn_181 : decode cX12_goOn 181 = .ok (.iadd, 1) := by decide +kernel
theorem dX12_goOn_182 : decode cX12_goOn 182 = .ok (.bipush 48, 2) := by decide +kernel
theorem dX12_goOn_184 : decode cX12_goOn 184 = .ok (.isub, 1) := by decide +kernel
theorem dX12_goOn_185 : decode cX12_goOn 185 = .ok (.putfield 78, 3) := by decide +kernel
theorem dX12_goOn_188 : decode cX12_goOn 188 = .ok (.iinc 3 1, 3) := by decide +kernel
theorem dX12_goOn_191 : decode cX12_goOn 191 = .ok (.iinc 1 1, 3) := by decide +kernel
theorem dX12_goOn_194 : decode cX12_goOn 194 = .ok (.goto (-42), 3) := by decide +kernel
theorem dX12_goOn_197 : decode cX12_goOn 197 = .ok (.aload_n 0, 1) := by decide +kernel
theorem dX12_goOn_198 : decode cX12_goOn 198 = .ok (.iload_n 1, 1) := by decide +kernel
theorem dX12_goOn_199 : decode cX12_goOn 199 = .ok (.putfield 65, 3) := by decide +kernel
theorem dX12_goOn_202 : decode cX12_goOn 202 = .ok (.aload_n 0, 1) := by decide +kernel
theorem dX12_goOn_203 : decode cX12_goOn 203 = .ok (.iload_n 3, 1) := by decide +kernel
theorem dX12_goOn_204 : decode cX12_goOn 204 = .ok (.iconst 3, 1) := by decide +kernel
theorem dX12_goOn_205 : decode cX12_goOn 205 = .ok (.if_icmp .le 7, 3) := by decide +kernel
theorem dX12_goOn_208 : decode cX12_goOn 208 = .ok (.iconst 1, 1) := by decide +kernel
theorem dX12_goOn_209 : decode cX12_goOn 209 = .ok (.goto 4, 3) := by decide +kernel
theorem dX12_goOn_212 : decode cX12_goOn 212 = .ok (.iconst 3, 1) := by decide +kernel
theorem dX12_goOn_213 : decode cX12_goOn 213 = .ok (.putfield 81, 3) := by decide +kernel
theorem dX12_goOn_216 : decode cX12_goOn 216 = .ok (.goto 25, 3) := by decide +kernel
theorem dX12_goOn_219 : decode cX12_goOn 219 = .ok (.aload_n 0, 1) := by decide +kernel
theorem dX12_goOn_220 : decode cX12_goOn 220 = .ok (.iload_n 1, 1) := by decide +kernel
theorem dX12_goOn_221 : decode cX12_goOn 221 = .ok (.iconst 1, 1) := by decide +kernel
theorem dX12_goOn_222 : decode cX12_goOn 222 = .ok (.iadd, 1) := by decide +kernel
theorem dX12_goOn_223 : decode cX12_goOn 223 = .ok (.putfield 65, 3) := by decide +kernel
theorem dX12_goOn_226 : decode cX12_goOn 226 = .ok (.aload_n 0, 1) := by decide +kernel
theorem dX12_goOn_227 : decode cX12_goOn 227 = .ok (.iload_n 2, 1) := by decide +kernel
theorem dX12_goOn_228 : decode cX12_goOn 228 = .ok (.bipush 59, 2) := by decide +kernel
theorem dX12_goOn_230 : decode cX12_goOn 230 = .ok (.if_icmp .ne 7, 3) := by decide +kernel
theorem dX12_goOn_233 : decode cX12_goOn 233 = .ok (.iload_n 2, 1) := by decide +kernel
theorem dX12_goOn_234 : decode cX12_goOn 234 = .ok (.goto 4, 3) := by decide +kernel
theorem dX12_goOn_237 : decode cX12_goOn 237 = .ok (.iconst 1, 1) := by decide +kernel
theorem dX12_goOn_238 : decode cX12_goOn 238 = .ok (.putfield 81, 3) := by decide +kernel
theorem dX12_goOn_241 : decode cX12_goOn 241 = .ok (.return_, 1) := by decide +kernel
theorem dX12_wrong_0 : decode cX12_wrong 0 = .ok (.aload_n 0, 1) := by decide +kernel
theorem dX12_wrong_1 : decode cX12_wrong 1 = .ok (.getfield 91, 3) := by decide +kernel
theorem dX12_wrong_4 : decode cX12_wrong 4 = .ok (.ifCond .eq 4, 3) := by decide +kernel
theorem dX12_wrong_7 : decode cX12_wrong 7 = .ok (.return_, 1) := by decide +kernel
theorem dX12_wrong_8 : decode cX12_wrong 8 = .ok (.aload_n 0, 1) := by decide +kernel
theorem dX12_wrong_9 : decode cX12_wrong 9 = .ok (.iconst 1, 1) := by decide +kernel
theorem dX12_wrong_10 : decode cX12_wrong 10 = .ok (.putfield 91, 3) := by decide +kernel
theorem dX12_wrong_13 : decode cX12_wrong 13 = .ok (.aload_n 0, 1) := by decide +kernel
theorem dX12_wrong_14 : decode cX12_wrong 14 = .ok (.iload_n 1, 1) := by decide +kernel
theorem dX12_wrong_15 : decode cX12_wrong 15 = .ok (.putfield 95, 3) := by decide +kernel
theorem dX12_wrong_18 : decode cX12_wrong 18 = .ok (.aload_n 0, 1) := by decide +kernel
theorem dX12_wrong_19 : decode cX12_wrong 19 = .ok (.iload_n 2, 1) := by decide +kernel
theorem dX12_wrong_20 : decode cX12_wrong 20 = .ok (.putfield 13, 3) := by decide +kernel
theorem dX12_wrong_23 : decode cX12_wrong 23 = .ok (.return_, 1) := by decide +kernel
theorem dX12_isWord_0 : decode cX12_isWord 0 = .ok (.aload_n 0, 1) := by decide +kernel
theorem dX12_isWord_1 : decode cX12_isWord 1 = .ok (.getfield 91, 3) := by decide +kernel
theorem dX12_isWord_4 : decode cX12_isWord 4 = .ok (.ifCond .ne 22, 3) := by decide +kernel
theorem dX12_isWord_7 : decode cX12_isWord 7 = .ok (.aload_n 0, 1) := by decide +kernel
theorem dX12_isWord_8 : decode cX12_isWord 8 = .ok (.getfield 81, 3) := by decide +kernel
theorem dX12_isWord_11 : decode cX12_isWord 11 = .ok (.iconst 2, 1) := by decide +kernel
theorem dX12_isWord_12 : decode cX12_isWord 12 = .ok (.if_icmp .ne 14, 3) := by decide +kernel
theorem dX12_isWord_15 : decode cX12_isWord 15 = .ok (.aload_n 0, 1) := by decide +kernel
theorem dX12_isWord_16 : decode cX12_isWord 16 = .ok (.getfield 75, 3) := by decide +kernel
theorem dX12_isWord_19 : decode cX12_isWord 19 = .ok (.aload_n 1, 1) := by decide +kernel
theorem dX12_isWord_20 : decode cX12_isWord 20 = .ok (.invokevirtual 98, 3) := by decide +kernel
theorem dX12_isWord_23 : decode cX12_isWord 23 = .ok (.if_icmp .eq 5, 3) := by decide +kernel
theorem dX12_isWord_26 : decode cX12_isWord 26 = .ok (.iconst 0, 1) := by decide +kernel
theorem dX12_isWord_27 : decode cX12_isWord 27 = .ok (.ireturn, 1) := by decide +kernel
theorem dX12_isWord_28 : decode cX12_isWord 28 = .ok (.iconst 1, 1) := by decide +kernel
theorem dX12_isWord_29 : decode cX12_isWord 29 = .ok (.istore_n 2, 1) := by decide +kernel
theorem dX12_isWord_30 : decode cX12_isWord 30 = .ok (.iconst 0, 1) := by decide +kernel
theorem dX12_isWord_31 : decode cX12_isWord 31 = .ok (.istore_n 3, 1) := by decide +kernel
theorem dX12_isWord_32 : decode cX12_isWord 32 = .ok (.iload_n 3, 1) := by decide +kernel
theorem dX12_isWord_33 : decode cX12_isWord 33 = .ok (.aload_n 0, 1) := by decide +kernel
theorem dX12_isWord_34 : decode cX12_isWord 34 = .ok (.getfield 75, 3) := by decide +kernel
theorem dX12_isWord_37 : decode cX12_isWord 37 = .ok (.if_icmp .ge 33, 3) := by decide +kernel
theorem dX12_isWord_40 : decode cX12_isWord 40 = .ok (.iload_n 2, 1) := by decide +kernel
theorem dX12_isWord_41 : decode cX12_isWord 41 = .ok (.ifCond .eq 21, 3) := by decide +kernel
theorem dX12_isWord_44 : decode cX12_isWord 44 = .ok (.aload_n 0, 1) := by decide +kernel
theorem dX12_isWord_45 : decode cX12_isWord 45 = .ok (.getfield 17, 3) := by decide +kernel
theorem dX12_isWord_48 : decode cX12_isWord 48 = .ok (.iload_n 3, 1) := by decide +kernel
theorem dX12_isWord_49 : decode cX12_isWord 49 = .ok (.iaload, 1) := by decide +kernel
theorem dX12_isWord_50 : decode cX12_isWord 50 = .ok (.aload_n 1, 1) := by decide +kernel
theorem dX12_isWord_51 : decode cX12_isWord 51 = .ok (.iload_n 3, 1) := by decide +kernel
theorem dX12_isWord_52 : decode cX12_isWord 52 = .ok (.invokevirtual 104, 3) := by decide +kernel
theorem dX12_isWord_55 : decode cX12_isWord 55 = .ok (.if_icmp .ne 7, 3) := by decide +kernel
theorem dX12_isWord_58 : decode cX12_isWord 58 = .ok (.iconst 1, 1) := by decide +kernel
theorem dX12_isWord_59 : decode cX12_isWord 59 = .ok (.goto 4, 3) := by decide +kernel
theorem dX12_isWord_62 : decode cX12_isWord 62 = .ok (.iconst 0, 1) := by decide +kernel
theorem dX12_isWord_63 : decode cX12_isWord 63 = .ok (.istore_n 2, 1) := by decide +kernel
theorem dX12_isWord_64 : decode cX12_isWord 64 = .ok (.iinc 3 1, 3) := by decide +kernel
theorem dX12_isWord_67 : decode cX12_isWord 67 = .ok (.goto (-35), 3) := by decide +kernel
theorem dX12_isWord_70 : decode cX12_isWord 70 = .ok (.iload_n 2, 1) := by decide +kernel
theorem dX12_isWord_71 : decode cX12_isWord 71 = .ok (.ireturn, 1) := by decide +kernel
theorem dX12_takesWord_0 : decode cX12_takesWord 0 = .ok (.aload_n 0, 1) := by decide +kernel
theorem dX12_takesWord_1 : decode cX12_takesWord 1 = .ok (.aload_n 1, 1) := by decide +kernel
theorem dX12_takesWord_2 : decode cX12_takesWord 2 = .ok (.invokevirtual 108, 3) := by decide +kernel
theorem dX12_takesWord_5 : decode cX12_takesWord 5 = .ok (.ifCond .ne 5, 3) := by decide +kernel
theorem dX12_takesWord_8 : decode cX12_takesWord 8 = .ok (.iconst 0, 1) := by decide +kernel
theorem dX12_takesWord_9 : decode cX12_takesWord 9 = .ok (.ireturn, 1) := by decide +kernel
theorem dX12_takesWord_10 : decode cX12_takesWord 10 = .ok (.aload_n 0, 1) := by decide +kernel
theorem dX12_takesWord_11 : decode cX12_takesWord 11 = .ok (.invokevirtual 112, 3) := by decide +kernel
theorem dX12_takesWord_14 : decode cX12_takesWord 14 = .ok (.iconst 1, 1) := by decide +kernel
theorem dX12_takesWord_15 : decode cX12_takesWord 15 = .ok (.ireturn, 1) := by decide +kernel
theorem dX12_must_0 : decode cX12_must 0 = .ok (.aload_n 0, 1) := by decide +kernel
theorem dX12_must_1 : decode cX12_must 1 = .ok (.getfield 91, 3) := by decide +kernel
theorem dX12_must_4 : decode cX12_must 4 = .ok (.ifCond .ne 20, 3) := by decide +kernel
theorem dX12_must_7 : decode cX12_must 7 = .ok (.aload_n 0, 1) := by decide +kernel
theorem dX12_must_8 : decode cX12_must 8 = .ok (.aload_n 1, 1) := by decide +kernel
theorem dX12_must_9 : decode cX12_must 9 = .ok (.invokevirtual 115, 3) := by decide +kernel
theorem dX12_must_12 : decode cX12_must 12 = .ok (.ifCond .ne 12, 3) := by decide +kernel
theorem dX12_must_15 : decode cX12_must 15 = .ok (.aload_n 0, 1) := by decide +kernel
theorem dX12_must_16 : decode cX12_must 16 = .ok (.iconst 1, 1) := by decide +kernel
theorem dX12_must_17 : decode cX12_must 17 = .ok (.aload_n 0, 1) := by decide +kernel
theorem dX12_must_18 : decode cX12_must 18 = .ok (.getfield 72, 3) := by decide +kernel
theorem dX12_must_21 : decode cX12_must 21 = .ok (.invokevirtual 118, 3) := by decide +kernel
theorem dX12_must_24 : decode cX12_must 24 = .ok (.return_, 1) := by decide +kernel
theorem dX12_mustName_0 : decode cX12_mustName 0 = .ok (.aload_n 0, 1) := by decide +kernel
theorem dX12_mustName_1 : decode cX12_mustName 1 = .ok (.ldc 122, 2) := by decide +kernel
theorem dX12_mustName_3 : decode cX12_mustName 3 = .ok (.invokevirtual 108, 3) := by decide +kernel
theorem dX12_mustName_6 : decode cX12_mustName 6 = .ok (.ifCond .ne 75, 3) := by decide +kernel
theorem dX12_mustName_9 : decode cX12_mustName 9 = .ok (.aload_n 0, 1) := by decide +kernel
theorem dX12_mustName_10 : decode cX12_mustName 10 = .ok (.ldc 124, 2) := by decide +kernel
theorem dX12_mustName_12 : decode cX12_mustName 12 = .ok (.invokevirtual 108, 3) := by decide +kernel
theorem dX12_mustName_15 : decode cX12_mustName 15 = .ok (.ifCond .ne 66, 3) := by decide +kernel
theorem dX12_mustName_18 : decode cX12_mustName 18 = .ok (.aload_n 0, 1) := by decide +kernel
theorem dX12_mustName_19 : decode cX12_mustName 19 = .ok (.ldc 126, 2) := by decide +kernel
theorem dX12_mustName_21 : decode cX12_mustName 21 = .ok (.invokevirtual 108, 3) := by decide +kernel
theorem dX12_mustName_24 : decode cX12_mustName 24 = .ok (.ifCond .ne 57, 3) := by decide +kernel
theorem dX12_mustName_27 : decode cX12_mustName 27 = .ok (.aload_n 0, 1) := by decide +kernel
theorem dX12_mustName_28 : decode cX12_mustName 28 = .ok (.ldc 128, 2) := by decide +kernel
theorem dX12_mustName_30 : decode cX12_mustName 30 = .ok (.invokevirtual 108, 3) := by decide +kernel
theorem dX12_mustName_33 : decode cX12_mustName 33 = .ok (.ifCond .ne 48, 3) := by decide +kernel
theorem dX12_mustName_36 : decode cX12_mustName 36 = .ok (.aload_n 0, 1) := by decide +kernel
theorem dX12_mustName_37 : decode cX12_mustName 37 = .ok (.ldc 130, 2) := by decide +kernel
theorem dX12_mustName_39 : decode cX12_mustName 39 = .ok (.invokevirtual 108, 3) := by decide +kernel
theorem dX12_mustName_42 : decode cX12_mustName 42 = .ok (.ifCond .ne 39, 3) := by decide +kernel
theorem dX12_mustName_45 : decode cX12_mustName 45 = .ok (.aload_n 0, 1) := by decide +kernel
theorem dX12_mustName_46 : decode cX12_mustName 46 = .ok (.ldc 132, 2) := by decide +kernel
theorem dX12_mustName_48 : decode cX12_mustName 48 = .ok (.invokevirtual 108, 3) := by decide +kernel
theorem dX12_mustName_51 : decode cX12_mustName 51 = .ok (.ifCond .ne 30, 3) := by decide +kernel
theorem dX12_mustName_54 : decode cX12_mustName 54 = .ok (.aload_n 0, 1) := by decide +kernel
theorem dX12_mustName_55 : decode cX12_mustName 55 = .ok (.ldc 134, 2) := by decide +kernel
theorem dX12_mustName_57 : decode cX12_mustName 57 = .ok (.invokevirtual 108, 3) := by decide +kernel
theorem dX12_mustName_60 : decode cX12_mustName 60 = .ok (.ifCond .ne 21, 3) := by decide +kernel
theorem dX12_mustName_63 : decode cX12_mustName 63 = .ok (.aload_n 0, 1) := by decide +kernel
theorem dX12_mustName_64 : decode cX12_mustName 64 = .ok (.ldc 136, 2) := by decide +kernel
theorem dX12_mustName_66 : decode cX12_mustName 66 = .ok (.invokevirtual 108, 3) := by decide +kernel
theorem dX12_mustName_69 : decode cX12_mustName 69 = .ok (.ifCond .ne 12, 3) := by decide +kernel
theorem dX12_mustName_72 : decode cX12_mustName 72 = .ok (.aload_n 0, 1) := by decide +kernel
theorem dX12_mustName_73 : decode cX12_mustName 73 = .ok (.ldc 138, 2) := by decide +kernel
theorem dX12_mustName_75 : decode cX12_mustName 75 = .ok (.invokevirtual 108, 3) := by decide +kernel
theorem dX12_mustName_78 : decode cX12_mustName 78 = .ok (.ifCond .eq 7, 3) := by decide +kernel
theorem dX12_mustName_81 : decode cX12_mustName 81 = .ok (.iconst 1, 1) := by decide +kernel
theorem dX12_mustName_82 : decode cX12_mustName 82 = .ok (.goto 4, 3) := by decide +kernel
theorem dX12_mustName_85 : decode cX12_mustName 85 = .ok (.iconst 0, 1) := by decide +kernel
theorem dX12_mustName_86 : decode cX12_mustName 86 = .ok (.istore_n 1, 1) := by decide +kernel
theorem dX12_mustName_87 : decode cX12_mustName 87 = .ok (.aload_n 0, 1) := by decide +kernel
theorem dX12_mustName_88 : decode cX12_mustName 88 = .ok (.getfield 81, 3) := by decide +kernel
theorem dX12_mustName_91 : decode cX12_mustName 91 = .ok (.iconst 2, 1) := by decide +kernel
theorem dX12_mustName_92 : decode cX12_mustName 92 = .ok (.if_icmp .ne 7, 3) := by decide +kernel
theorem dX12_mustName_95 : decode cX12_mustName 95 = .ok (.iload_n 1, 1) := by decide +kernel
theorem dX12_mustName_96 : decode cX12_mustName 96 = .ok (.ifCond .eq 12, 3) := by decide +kernel
theorem dX12_mustName_99 : decode cX12_mustName 99 = .ok (.aload_n 0, 1) := by decide +kernel
theorem dX12_mustName_100 : decode cX12_mustName 100 = .ok (.iconst 1, 1) := by decide +kernel
theorem dX12_mustName_101 : decode cX12_mustName 101 = .ok (.aload_n 0, 1) := by decide +kernel
theorem dX12_mustName_102 : decode cX12_mustName 102 = .ok (.getfield 72, 3) := by decide +kernel
theorem dX12_mustName_105 : decode cX12_mustName 105 = .ok (.invokevirtual 118, 3) := by decide +kernel
theorem dX12_mustName_108 : decode cX12_mustName 108 = .ok (.return_, 1) := by decide +kernel
theorem dX12_find_0 : decode cX12_find 0 = .ok (.iconst 0, 1) := by decide +kernel
theorem dX12_find_1 : decode cX12_find 1 = .ok (.istore_n 1, 1) := by decide +kernel
theorem dX12_find_2 : decode cX12_find 2 = .ok (.iload_n 1, 1) := by decide +kernel
theorem dX12_find_3 : decode cX12_find 3 = .ok (.bipush 17, 2) := by decide +kernel
theorem dX12_find_5 : decode cX12_find 5 = .ok (.if_icmp .ge 101, 3) := by decide +kernel
theorem dX12_find_8 : decode cX12_find 8 = .ok (.aload_n 0, 1) := by decide +kernel
theorem dX12_find_9 : decode cX12_find 9 = .ok (.getfield 23, 3) := by decide +kernel
theorem dX12_find_12 : decode cX12_find 12 = .ok (.sipush 268, 3) := by decide +kernel
theorem dX12_find_15 : decode cX12_find 15 = .ok (.iload_n 1, 1) := by decide +kernel
theorem dX12_find_16 : decode cX12_find 16 = .ok (.iadd, 1) := by decide +kernel
theorem dX12_find_17 : decode cX12_find 17 = .ok (.iaload, 1) := by decide +kernel
theorem dX12_find_18 : decode cX12_find 18 = .ok (.ifCond .le 24, 3) := by decide +kernel
theorem dX12_find_21 : decode cX12_find 21 = .ok (.aload_n 0, 1) := by decide +kernel
theorem dX12_find_22 : decode cX12_find 22 = .ok (.getfield 23, 3) := by decide +kernel
theorem dX12_find_25 : decode cX12_find 25 = .ok (.sipush 268, 3) := by decide +kernel
theorem dX12_find_28 : decode cX12_find 28 = .ok (.iload_n 1, 1) := by decide +kernel
theorem dX12_find_29 : decode cX12_find 29 = .ok (.iadd, 1) := by decide +kernel
theorem dX12_find_30 : decode cX12_find 30 = .ok (.iaload, 1) := by decide +kernel
theorem dX12_find_31 : decode cX12_find 31 = .ok (.aload_n 0, 1) := by decide +kernel
theorem dX12_find_32 : decode cX12_find 32 = .ok (.getfield 75, 3) := by decide +kernel
theorem dX12_find_35 : decode cX12_find 35 = .ok (.if_icmp .ne 7, 3) := by decide +kernel
theorem dX12_find_38 : decode cX12_find 38 = .ok (.iconst 1, 1) := by decide +kernel
theorem dX12_find_39 : decode cX12_find 39 = .ok (.goto 4, 3) := by decide +kernel
theorem dX12_find_42 : decode cX12_find 42 = .ok (.iconst 0, 1) := by decide +kernel
theorem dX12_find_43 : decode cX12_find 43 = .ok (.istore_n 2, 1) := by decide +kernel
theorem dX12_find_44 : decode cX12_find 44 = .ok (.iconst 0, 1) := by decide +kernel
theorem dX12_find_45 : decode cX12_find 45 = .ok (.istore_n 3, 1) := by decide +kernel
theorem dX12_find_46 : decode cX12_find 46 = .ok (.iload_n 3, 1) := by decide +kernel
theorem dX12_find_47 : decode cX12_find 47 = .ok (.aload_n 0, 1) := by decide +kernel
theorem dX12_find_48 : decode cX12_find 48 = .ok (.getfield 75, 3) := by decide +kernel
theorem dX12_find_51 : decode cX12_find 51 = .ok (.if_icmp .ge 43, 3) := by decide +kernel
theorem dX12_find_54 : decode cX12_find 54 = .ok (.iload_n 2, 1) := by decide +kernel
theorem dX12_find_55 : decode cX12_find 55 = .ok (.ifCond .eq 39, 3) := by decide +kernel
theorem dX12_find_58 : decode cX12_find 58 = .ok (.aload_n 0, 1) := by decide +kernel
theorem dX12_find_59 : decode cX12_find 59 = .ok (.getfield 23, 3) := by decide +kernel
theorem dX12_find_62 : decode cX12_find 62 = .ok (.sipush 285, 3) := by decide +kernel
theorem dX12_find_65 : decode cX12_find 65 = .ok (.bipush 8, 2) := by decide +kernel
theorem dX12_find_67 : decode cX12_find 67 = .ok (.iload_n 1, 1) := by decide +kernel
theorem dX12_find_68 : decode cX12_find 68 = .ok (.imul, 1) := by decide +kernel
theorem dX12_find_69 : decode cX12_find 69 = .ok (.iadd, 1) := by decide +kernel
theorem dX12_find_70 : decode cX12_find 70 = .ok (.iload_n 3, 1) := by decide +kernel
theorem dX12_find_71 : decode cX12_find 71 = .ok (.iadd, 1) := by decide +kernel
theorem dX12_find_72 : decode cX12_find 72 = .ok (.iaload, 1) := by decide +kernel
theorem dX12_find_73 : decode cX12_find 73 = .ok (.aload_n 0, 1) := by decide +kernel
theorem dX12_find_74 : decode cX12_find 74 = .ok (.getfield 17, 3) := by decide +kernel
theorem dX12_find_77 : decode cX12_find 77 = .ok (.iload_n 3, 1) := by decide +kernel
theorem dX12_find_78 : decode cX12_find 78 = .ok (.iaload, 1) := by decide +kernel
theorem dX12_find_79 : decode cX12_find 79 = .ok (.if_icmp .ne 7, 3) := by decide +kernel
theorem dX12_find_82 : decode cX12_find 82 = .ok (.iconst 1, 1) := by decide +kernel
theorem dX12_find_83 : decode cX12_find 83 = .ok (.goto 4, 3) := by decide +kernel
theorem dX12_find_86 : decode cX12_find 86 = .ok (.iconst 0, 1) := by decide +kernel
theorem dX12_find_87 : decode cX12_find 87 = .ok (.istore_n 2, 1) := by decide +kernel
theorem dX12_find_88 : decode cX12_find 88 = .ok (.iinc 3 1, 3) := by decide +kernel
theorem dX12_find_91 : decode cX12_find 91 = .ok (.goto (-45), 3) := by decide +kernel
theorem dX12_find_94 : decode cX12_find 94 = .ok (.iload_n 2, 1) := by decide +kernel
theorem dX12_find_95 : decode cX12_find 95 = .ok (.ifCond .eq 5, 3) := by decide +kernel
theorem dX12_find_98 : decode cX12_find 98 = .ok (.iload_n 1, 1) := by decide +kernel
theorem dX12_find_99 : decode cX12_find 99 = .ok (.ireturn, 1) := by decide +kernel
theorem dX12_find_100 : decode cX12_find 100 = .ok (.iinc 1 1, 3) := by decide +kernel
theorem dX12_find_103 : decode cX12_find 103 = .ok (.goto (-101), 3) := by decide +kernel
theorem dX12_find_106 : decode cX12_find 106 = .ok (.iconst (-1), 1) := by decide +kernel
theorem dX12_find_107 : decode cX12_find 107 = .ok (.ireturn, 1) := by decide +kernel
theorem dX12_newName_0 : decode cX12_newName 0 = .ok (.aload_n 0, 1) := by decide +kernel
theorem dX12_newName_1 : decode cX12_newName 1 = .ok (.getfield 91, 3) := by decide +kernel
theorem dX12_newName_4 : decode cX12_newName 4 = .ok (.ifCond .eq 4, 3) := by decide +kernel
theorem dX12_newName_7 : decode cX12_newName 7 = .ok (.return_, 1) := by decide +kernel
theorem dX12_newName_8 : decode cX12_newName 8 = .ok (.aload_n 0, 1) := by decide +kernel
theorem dX12_newName_9 : decode cX12_newName 9 = .ok (.invokevirtual 140, 3) := by decide +kernel
theorem dX12_newName_12 : decode cX12_newName 12 = .ok (.aload_n 0, 1) := by decide +kernel
theorem dX12_newName_13 : decode cX12_newName 13 = .ok (.getfield 91, 3) := by decide +kernel
theorem dX12_newName_16 : decode cX12_newName 16 = .ok (.ifCond .ne 19, 3) := by decide +kernel
theorem dX12_newName_19 : decode cX12_newName 19 = .ok (.aload_n 0, 1) := by decide +kernel
theorem dX12_newName_20 : decode cX12_newName 20 = .ok (.invokevirtual 143, 3) := by decide +kernel
theorem dX12_newName_23 : decode cX12_newName 23 = .ok (.ifCond .lt 12, 3) := by decide +kernel
theorem dX12_newName_26 : decode cX12_newName 26 = .ok (.aload_n 0, 1) := by decide +kernel
theorem dX12_newName_27 : decode cX12_newName 27 = .ok (.iconst 3, 1) := by decide +kernel
theorem dX12_newName_28 : decode cX12_newName 28 = .ok (.aload_n 0, 1) := by decide +kernel
theorem dX12_newName_29 : decode cX12_newName 29 = .ok (.getfield 72, 3) := by decide +kernel
theorem dX12_newName_32 : decode cX12_newName 32 = .ok (.invokevirtual 118, 3) := by decide +kernel
theorem dX12_newName_35 : decode cX12_newName 35 = .ok (.aload_n 0, 1) := by decide +kernel
theorem dX12_newName_36 : decode cX12_newName 36 = .ok (.getfield 91, 3) := by decide +kernel
theorem dX12_newName_39 : decode cX12_newName 39 = .ok (.ifCond .eq 4, 3) := by decide +kernel
theorem dX12_newName_42 : decode cX12_newName 42 = .ok (.return_, 1) := by decide +kernel
theorem dX12_newName_43 : decode cX12_newName 43 = .ok (.iconst 0, 1) := by decide +kernel
theorem dX12_newName_44 : decode cX12_newName 44 = .ok (.istore_n 2, 1) := by decide +kernel
theorem dX12_newName_45 : decode cX12_newName 45 = .ok (.iload_n 2, 1) := by decide +kernel
theorem dX12_newName_46 : decode cX12_newName 46 = .ok (.aload_n 0, 1) := by decide +kernel
theorem dX12_newName_47 : decode cX12_newName 47 = .ok (.getfield 75, 3) := by decide +kernel
theorem dX12_newName_50 : decode cX12_newName 50 = .ok (.if_icmp .ge 30, 3) := by decide +kernel
theorem dX12_newName_53 : decode cX12_newName 53 = .ok (.aload_n 0, 1) := by decide +kernel
theorem dX12_newName_54 : decode cX12_newName 54 = .ok (.getfield 23, 3) := by decide +kernel
theorem dX12_newName_57 : decode cX12_newName 57 = .ok (.sipush 285, 3) := by decide +kernel
theorem dX12_newName_60 : decode cX12_newName 60 = .ok (.bipush 8, 2) := by decide +kernel
theorem dX12_newName_62 : decode cX12_newName 62 = .ok (.iload_n 1, 1) := by decide +kernel
theorem dX12_newName_63 : decode cX12_newName 63 = .ok (.imul, 1) := by decide +kernel
theorem dX12_newName_64 : decode cX12_newName 64 = .ok (.iadd, 1) := by decide +kernel
theorem dX12_newName_65 : decode cX12_newName 65 = .ok (.iload_n 2, 1) := by decide +kernel
theorem dX12_newName_66 : decode cX12_newName 66 = .ok (.iadd, 1) := by decide +kernel
theorem dX12_newName_67 : decode cX12_newName 67 = .ok (.aload_n 0, 1) := by decide +kernel
theorem dX12_newName_68 : decode cX12_newName 68 = .ok (.getfield 17, 3) := by decide +kernel
theorem dX12_newName_71 : decode cX12_newName 71 = .ok (.iload_n 2, 1) := by decide +kernel
theorem dX12_newName_72 : decode cX12_newName 72 = .ok (.iaload, 1) := by decide +kernel
theorem dX12_newName_73 : decode cX12_newName 73 = .ok (.iastore, 1) := by decide +kernel
theorem dX12_newName_74 : decode cX12_newName 74 = .ok (.iinc 2 1, 3) := by decide +kernel
theorem dX12_newName_77 : decode cX12_newName 77 = .ok (.goto (-32), 3) := by decide +kernel
theorem dX12_newName_80 : decode cX12_newName 80 = .ok (.aload_n 0, 1) := by decide +kernel
theorem dX12_newName_81 : decode cX12_newName 81 = .ok (.getfield 23, 3) := by decide +kernel
theorem dX12_newName_84 : decode cX12_newName 84 = .ok (.sipush 268, 3) := by decide +kernel
theorem dX12_newName_87 : decode cX12_newName 87 = .ok (.iload_n 1, 1) := by decide +kernel
theorem dX12_newName_88 : decode cX12_newName 88 = .ok (.iadd, 1) := by decide +kernel
theorem dX12_newName_89 : decode cX12_newName 89 = .ok (.aload_n 0, 1) := by decide +kernel
theorem dX12_newName_90 : decode cX12_newName 90 = .ok (.getfield 75, 3) := by decide +kernel
theorem dX12_newName_93 : decode cX12_newName 93 = .ok (.iastore, 1) := by decide +kernel
theorem dX12_newName_94 : decode cX12_newName 94 = .ok (.aload_n 0, 1) := by decide +kernel
theorem dX12_newName_95 : decode cX12_newName 95 = .ok (.invokevirtual 112, 3) := by decide +kernel
theorem dX12_newName_98 : decode cX12_newName 98 = .ok (.return_, 1) := by decide +kernel
theorem dX12_wordHere_0 : decode cX12_wordHere 0 = .ok (.aload_n 0, 1) := by decide +kernel
theorem dX12_wordHere_1 : decode cX12_wordHere 1 = .ok (.getfield 91, 3) := by decide +kernel
theorem dX12_wordHere_4 : decode cX12_wordHere 4 = .ok (.ifCond .eq 5, 3) := by decide +kernel
theorem dX12_wordHere_7 : decode cX12_wordHere 7 = .ok (.iconst 0, 1) := by decide +kernel
theorem dX12_wordHere_8 : decode cX12_wordHere 8 = .ok (.ireturn, 1) := by decide +kernel
theorem dX12_wordHere_9 : decode cX12_wordHere 9 = .ok (.aload_n 0, 1) := by decide +kernel
theorem dX12_wordHere_10 : decode cX12_wordHere 10 = .ok (.invokevirtual 140, 3) := by decide +kernel
theorem dX12_wordHere_13 : decode cX12_wordHere 13 = .ok (.aload_n 0, 1) := by decide +kernel
theorem dX12_wordHere_14 : decode cX12_wordHere 14 = .ok (.getfield 91, 3) := by decide +kernel
theorem dX12_wordHere_17 : decode cX12_wordHere 17 = .ok (.ifCond .eq 5, 3) := by decide +kernel
theorem dX12_wordHere_20 : decode cX12_wordHere 20 = .ok (.iconst 0, 1) := by decide +kernel
theorem dX12_wordHere_21 : decode cX12_wordHere 21 = .ok (.ireturn, 1) := by decide +kernel
theorem dX12_wordHere_22 : decode cX12_wordHere 22 = .ok (.aload_n 0, 1) := by decide +kernel
theorem dX12_wordHere_23 : decode cX12_wordHere 23 = .ok (.invokevirtual 143, 3) := by decide +kernel
theorem dX12_wordHere_26 : decode cX12_wordHere 26 = .ok (.istore_n 1, 1) := by decide +kernel
theorem dX12_wordHere_27 : decode cX12_wordHere 27 = .ok (.iload_n 1, 1) := by decide +kernel
theorem dX12_wordHere_28 : decode cX12_wordHere 28 = .ok (.bipush 10, 2) := by decide +kernel
theorem dX12_wordHere_30 : decode cX12_wordHere 30 = .ok (.bipush 16, 2) := by decide +kernel
theorem dX12_wordHere_32 : decode cX12_wordHere 32 = .ok (.invokestatic 146, 3) := by decide +kernel
theorem dX12_wordHere_35 : decode cX12_wordHere 35 = .ok (.ifCond .ne 12, 3) := by decide +kernel
theorem dX12_wordHere_38 : decode cX12_wordHere 38 = .ok (.aload_n 0, 1) := by decide +kernel
theorem dX12_wordHere_39 : decode cX12_wordHere 39 = .ok (.iconst 2, 1) := by decide +kernel
theorem dX12_wordHere_40 : decode cX12_wordHere 40 = .ok (.aload_n 0, 1) := by decide +kernel
theorem dX12_wordHere_41 : decode cX12_wordHere 41 = .ok (.getfield 72, 3) := by decide +kernel
theorem dX12_wordHere_44 : decode cX12_wordHere 44 = .ok (.invokevirtual 118, 3) := by decide +kernel
theorem dX12_wordHere_47 : decode cX12_wordHere 47 = .ok (.aload_n 0, 1) := by decide +kernel
theorem dX12_wordHere_48 : decode cX12_wordHere 48 = .ok (.getfield 91, 3) := by decide +kernel
theorem dX12_wordHere_51 : decode cX12_wordHere 51 = .ok (.ifCond .eq 7, 3) := by decide +kernel
theorem dX12_wordHere_54 : decode cX12_wordHere 54 = .ok (.iconst 0, 1) := by decide +kernel
theorem dX12_wordHere_55 : decode cX12_wordHere 55 = .ok (.goto 7, 3) := by decide +kernel
theorem dX12_wordHere_58 : decode cX12_wordHere 58 = .ok (.iload_n 1, 1) := by decide +kernel
theorem dX12_wordHere_59 : decode cX12_wordHere 59 = .ok (.bipush 10, 2) := by decide +kernel
theorem dX12_wordHere_61 : decode cX12_wordHere 61 = .ok (.isub, 1) := by decide +kernel
theorem dX12_wordHere_62 : decode cX12_wordHere 62 = .ok (.ireturn, 1) := by decide +kernel
theorem dX12_numberHere_0 : decode cX12_numberHere 0 = .ok (.aload_n 0, 1) := by decide +kernel
theorem dX12_numberHere_1 : decode cX12_numberHere 1 = .ok (.getfield 91, 3) := by decide +kernel
theorem dX12_numberHere_4 : decode cX12_numberHere 4 = .ok (.ifCond .eq 5, 3) := by decide +kernel
theorem dX12_numberHere_7 : decode cX12_numberHere 7 = .ok (.iload_n 1, 1) := by decide +kernel
theorem dX12_numberHere_8 : decode cX12_numberHere 8 = .ok (.ireturn, 1) := by decide +kernel
theorem dX12_numberHere_9 : decode cX12_numberHere 9 = .ok (.aload_n 0, 1) := by decide +kernel
theorem dX12_numberHere_10 : decode cX12_numberHere 10 = .ok (.getfield 81, 3) := by decide +kernel
theorem dX12_numberHere_13 : decode cX12_numberHere 13 = .ok (.iconst 3, 1) := by decide +kernel
theorem dX12_numberHere_14 : decode cX12_numberHere 14 = .ok (.if_icmp .eq 15, 3) := by decide +kernel
theorem dX12_numberHere_17 : decode cX12_numberHere 17 = .ok (.aload_n 0, 1) := by decide +kernel
theorem dX12_numberHere_18 : decode cX12_numberHere 18 = .ok (.iconst 1, 1) := by decide +kernel
theorem dX12_numberHere_19 : decode cX12_numberHere 19 = .ok (.aload_n 0, 1) := by decide +kernel
theorem dX12_numberHere_20 : decode cX12_numberHere 20 = .ok (.getfield 72, 3) := by decide +kernel
theorem dX12_numberHere_23 : decode cX12_numberHere 23 = .ok (.invokevirtual 118, 3) := by decide +kernel
theorem dX12_numberHere_26 : decode cX12_numberHere 26 = .ok (.goto 24, 3) := by decide +kernel
theorem dX12_numberHere_29 : decode cX12_numberHere 29 = .ok (.aload_n 0, 1) := by decide +kernel
theorem dX12_numberHere_30 : decode cX12_numberHere 30 = .ok (.getfield 78, 3) := by decide +kernel
theorem dX12_numberHere_33 : decode cX12_numberHere 33 = .ok (.iload_n 1, 1) := by decide +kernel
theorem dX12_numberHere_34 : decode cX12_numberHere 34 = .ok (.iload_n 2, 1) := by decide +kernel
theorem dX12_numberHere_35 : decode cX12_numberHere 35 = .ok (.invokestatic 146, 3) := by decide +kernel
theorem dX12_numberHere_38 : decode cX12_numberHere 38 = .ok (.ifCond .ne 12, 3) := by decide +kernel
theorem dX12_numberHere_41 : decode cX12_numberHere 41 = .ok (.aload_n 0, 1) := by decide +kernel
theorem dX12_numberHere_42 : decode cX12_numberHere 42 = .ok (.iconst 4, 1) := by decide +kernel
theorem dX12_numberHere_43 : decode cX12_numberHere 43 = .ok (.aload_n 0, 1) := by decide +kernel
theorem dX12_numberHere_44 : decode cX12_numberHere 44 = .ok (.getfield 72, 3) := by decide +kernel
theorem dX12_numberHere_47 : decode cX12_numberHere 47 = .ok (.invokevirtual 118, 3) := by decide +kernel
theorem dX12_numberHere_50 : decode cX12_numberHere 50 = .ok (.aload_n 0, 1) := by decide +kernel
theorem dX12_numberHere_51 : decode cX12_numberHere 51 = .ok (.getfield 91, 3) := by decide +kernel
theorem dX12_numberHere_54 : decode cX12_numberHere 54 = .ok (.ifCond .eq 7, 3) := by decide +kernel
theorem dX12_numberHere_57 : decode cX12_numberHere 57 = .ok (.iload_n 1, 1) := by decide +kernel
theorem dX12_numberHere_58 : decode cX12_numberHere 58 = .ok (.goto 7, 3) := by decide +kernel
theorem dX12_numberHere_61 : decode cX12_numberHere 61 = .ok (.aload_n 0, 1) := by decide +kernel
theorem dX12_numberHere_62 : decode cX12_numberHere 62 = .ok (.getfield 78, 3) := by decide +kernel
theorem dX12_numberHere_65 : decode cX12_numberHere 65 = .ok (.ireturn, 1) := by decide +kernel
theorem dX12_number_0 : decode cX12_number 0 = .ok (.aload_n 0, 1) := by decide +kernel
theorem dX12_number_1 : decode cX12_number 1 = .ok (.iload_n 1, 1) := by decide +kernel
theorem dX12_number_2 : decode cX12_number 2 = .ok (.iload_n 2, 1) := by decide +kernel
theorem dX12_number_3 : decode cX12_number 3 = .ok (.invokevirtual 150, 3) := by decide +kernel
theorem dX12_number_6 : decode cX12_number 6 = .ok (.istore_n 3, 1) := by decide +kernel
theorem dX12_number_7 : decode cX12_number 7 = .ok (.aload_n 0, 1) := by decide +kernel
theorem dX12_number_8 : decode cX12_number 8 = .ok (.getfield 91, 3) := by decide +kernel
theorem dX12_number_11 : decode cX12_number 11 = .ok (.ifCond .ne 7, 3) := by decide +kernel
theorem dX12_number_14 : decode cX12_number 14 = .ok (.aload_n 0, 1) := by decide +kernel
theorem dX12_number_15 : decode cX12_number 15 = .ok (.invokevirtual 112, 3) := by decide +kernel
theorem dX12_number_18 : decode cX12_number 18 = .ok (.iload_n 3, 1) := by decide +kernel
theorem dX12_number_19 : decode cX12_number 19 = .ok (.ireturn, 1) := by decide +kernel
theorem dX12_after_0 : decode cX12_after 0 = .ok (.aload_n 0, 1) := by decide +kernel
theorem dX12_after_1 : decode cX12_after 1 = .ok (.aload_n 1, 1) := by decide +kernel
theorem dX12_after_2 : decode cX12_after 2 = .ok (.invokevirtual 154, 3) := by decide +kernel
theorem dX12_after_5 : decode cX12_after 5 = .ok (.aload_n 0, 1) := by decide +kernel
theorem dX12_after_6 : decode cX12_after 6 = .ok (.iload_n 2, 1) := by decide +kernel
theorem dX12_after_7 : decode cX12_after 7 = .ok (.iload_n 3, 1) := by decide +kernel
theorem dX12_after_8 : decode cX12_after 8 = .ok (.invokevirtual 158, 3) := by decide +kernel
theorem dX12_after_11 : decode cX12_after 11 = .ok (.ireturn, 1) := by decide +kernel
theorem dX12_lays_0 : decode cX12_lays 0 = .ok (.aload_n 0, 1) := by decide +kernel
theorem dX12_lays_1 : decode cX12_lays 1 = .ok (.getfield 91, 3) := by decide +kernel
theorem dX12_lays_4 : decode cX12_lays 4 = .ok (.ifCond .ne 20, 3) := by decide +kernel
theorem dX12_lays_7 : decode cX12_lays 7 = .ok (.aload_n 0, 1) := by decide +kernel
theorem dX12_lays_8 : decode cX12_lays 8 = .ok (.getfield 81, 3) := by decide +kernel
theorem dX12_lays_11 : decode cX12_lays 11 = .ok (.iconst 2, 1) := by decide +kernel
theorem dX12_lays_12 : decode cX12_lays 12 = .ok (.if_icmp .eq 12, 3) := by decide +kernel
theorem dX12_lays_15 : decode cX12_lays 15 = .ok (.aload_n 0, 1) := by decide +kernel
theorem dX12_lays_16 : decode cX12_lays 16 = .ok (.iconst 1, 1) := by decide +kernel
theorem dX12_lays_17 : decode cX12_lays 17 = .ok (.aload_n 0, 1) := by decide +kernel
theorem dX12_lays_18 : decode cX12_lays 18 = .ok (.getfield 72, 3) := by decide +kernel
theorem dX12_lays_21 : decode cX12_lays 21 = .ok (.invokevirtual 118, 3) := by decide +kernel
theorem dX12_lays_24 : decode cX12_lays 24 = .ok (.aload_n 0, 1) := by decide +kernel
theorem dX12_lays_25 : decode cX12_lays 25 = .ok (.getfield 91, 3) := by decide +kernel
theorem dX12_lays_28 : decode cX12_lays 28 = .ok (.ifCond .eq 4, 3) := by decide +kernel
theorem dX12_lays_31 : decode cX12_lays 31 = .ok (.return_, 1) := by decide +kernel
theorem dX12_lays_32 : decode cX12_lays 32 = .ok (.aload_n 0, 1) := by decide +kernel
theorem dX12_lays_33 : decode cX12_lays 33 = .ok (.getfield 23, 3) := by decide +kernel
theorem dX12_lays_36 : decode cX12_lays 36 = .ok (.iload_n 1, 1) := by decide +kernel
theorem dX12_lays_37 : decode cX12_lays 37 = .ok (.aload_n 0, 1) := by decide +kernel
theorem dX12_lays_38 : decode cX12_lays 38 = .ok (.getfield 75, 3) := by decide +kernel
theorem dX12_lays_41 : decode cX12_lays 41 = .ok (.iastore, 1) := by decide +kernel
theorem dX12_lays_42 : decode cX12_lays 42 = .ok (.iconst 0, 1) := by decide +kernel
theorem dX12_lays_43 : decode cX12_lays 43 = .ok (.istore_n 2, 1) := by decide +kernel
theorem dX12_lays_44 : decode cX12_lays 44 = .ok (.iload_n 2, 1) := by decide +kernel
theorem dX12_lays_45 : decode cX12_lays 45 = .ok (.aload_n 0, 1) := by decide +kernel
theorem dX12_lays_46 : decode cX12_lays 46 = .ok (.getfield 75, 3) := by decide +kernel
theorem dX12_lays_49 : decode cX12_lays 49 = .ok (.if_icmp .ge 25, 3) := by decide +kernel
theorem dX12_lays_52 : decode cX12_lays 52 = .ok (.aload_n 0, 1) := by decide +kernel
theorem dX12_lays_53 : decode cX12_lays 53 = .ok (.getfield 23, 3) := by decide +kernel
theorem dX12_lays_56 : decode cX12_lays 56 = .ok (.iload_n 1, 1) := by decide +kernel
theorem dX12_lays_57 : decode cX12_lays 57 = .ok (.iconst 1, 1) := by decide +kernel
theorem dX12_lays_58 : decode cX12_lays 58 = .ok (.iadd, 1) := by decide +kernel
theorem dX12_lays_59 : decode cX12_lays 59 = .ok (.iload_n 2, 1) := by decide +kernel
theorem dX12_lays_60 : decode cX12_lays 60 = .ok (.iadd, 1) := by decide +kernel
theorem dX12_lays_61 : decode cX12_lays 61 = .ok (.aload_n 0, 1) := by decide +kernel
theorem dX12_lays_62 : decode cX12_lays 62 = .ok (.getfield 17, 3) := by decide +kernel
theorem dX12_lays_65 : decode cX12_lays 65 = .ok (.iload_n 2, 1) := by decide +kernel
theorem dX12_lays_66 : decode cX12_lays 66 = .ok (.iaload, 1) := by decide +kernel
theorem dX12_lays_67 : decode cX12_lays 67 = .ok (.iastore, 1) := by decide +kernel
theorem dX12_lays_68 : decode cX12_lays 68 = .ok (.iinc 2 1, 3) := by decide +kernel
theorem dX12_lays_71 : decode cX12_lays 71 = .ok (.goto (-27), 3) := by decide +kernel
theorem dX12_lays_74 : decode cX12_lays 74 = .ok (.return_, 1) := by decide +kernel
theorem dX12_laysPassed_0 : decode cX12_laysPassed 0 = .ok (.aload_n 0, 1) := by decide +kernel
theorem dX12_laysPassed_1 : decode cX12_laysPassed 1 = .ok (.iload_n 1, 1) := by decide +kernel
theorem dX12_laysPassed_2 : decode cX12_laysPassed 2 = .ok (.invokevirtual 161, 3) := by decide +kernel
theorem dX12_laysPassed_5 : decode cX12_laysPassed 5 = .ok (.aload_n 0, 1) := by decide +kernel
theorem dX12_laysPassed_6 : decode cX12_laysPassed 6 = .ok (.getfield 91, 3) := by decide +kernel
theorem dX12_laysPassed_9 : decode cX12_laysPassed 9 = .ok (.ifCond .ne 7, 3) := by decide +kernel
theorem dX12_laysPassed_12 : decode cX12_laysPassed 12 = .ok (.aload_n 0, 1) := by decide +kernel
theorem dX12_laysPassed_13 : decode cX12_laysPassed 13 = .ok (.invokevirtual 112, 3) := by decide +kernel
theorem dX12_laysPassed_16 : decode cX12_laysPassed 16 = .ok (.return_, 1) := by decide +kernel
theorem dX12_isSame_0 : decode cX12_isSame 0 = .ok (.aload_n 0, 1) := by decide +kernel
theorem dX12_isSame_1 : decode cX12_isSame 1 = .ok (.iload_n 1, 1) := by decide +kernel
theorem dX12_isSame_2 : decode cX12_isSame 2 = .ok (.iaload, 1) := by decide +kernel
theorem dX12_isSame_3 : decode cX12_isSame 3 = .ok (.aload_n 0, 1) := by decide +kernel
theorem dX12_isSame_4 : decode cX12_isSame 4 = .ok (.iload_n 2, 1) := by decide +kernel
theorem dX12_isSame_5 : decode cX12_isSame 5 = .ok (.iaload, 1) := by decide +kernel
theorem dX12_isSame_6 : decode cX12_isSame 6 = .ok (.if_icmp .ne 7, 3) := by decide +kernel
theorem dX12_isSame_9 : decode cX12_isSame 9 = .ok (.iconst 1, 1) := by decide +kernel
theorem dX12_isSame_10 : decode cX12_isSame 10 = .ok (.goto 4, 3) := by decide +kernel
theorem dX12_isSame_13 : decode cX12_isSame 13 = .ok (.iconst 0, 1) := by decide +kernel
theorem dX12_isSame_14 : decode cX12_isSame 14 = .ok (.istore_n 3, 1) := by decide +kernel
theorem dX12_isSame_15 : decode cX12_isSame 15 = .ok (.iconst 0, 1) := by decide +kernel
theorem dX12_isSame_16 : decode cX12_isSame 16 = .ok (.istore 4, 2) := by decide +kernel
theorem dX12_isSame_18 : decode cX12_isSame 18 = .ok (.iload 4, 2) := by decide +kernel
theorem dX12_isSame_20 : decode cX12_isSame 20 = .ok (.aload_n 0, 1) := by decide +kernel
theorem dX12_isSame_21 : decode cX12_isSame 21 = .ok (.iload_n 1, 1) := by decide +kernel
theorem dX12_isSame_22 : decode cX12_isSame 22 = .ok (.iaload, 1) := by decide +kernel
theorem dX12_isSame_23 : decode cX12_isSame 23 = .ok (.if_icmp .ge 38, 3) := by decide +kernel
theorem dX12_isSame_26 : decode cX12_isSame 26 = .ok (.iload_n 3, 1) := by decide +kernel
theorem dX12_isSame_27 : decode cX12_isSame 27 = .ok (.ifCond .eq 34, 3) := by decide +kernel
theorem dX12_isSame_30 : decode cX12_isSame 30 = .ok (.aload_n 0, 1) := by decide +kernel
theorem dX12_isSame_31 : decode cX12_isSame 31 = .ok (.iload_n 1, 1) := by decide +kernel
theorem dX12_isSame_32 : decode cX12_isSame 32 = .ok (.iconst 1, 1) := by decide +kernel
theorem dX12_isSame_33 : decode cX12_isSame 33 = .ok (.iadd, 1) := by decide +kernel
theorem dX12_isSame_34 : decode cX12_isSame 34 = .ok (.iload 4, 2) := by decide +kernel
theorem dX12_isSame_36 : decode cX12_isSame 36 = .ok (.iadd, 1) := by decide +kernel
theorem dX12_isSame_37 : decode cX12_isSame 37 = .ok (.iaload, 1) := by decide +kernel
theorem dX12_isSame_38 : decode cX12_isSame 38 = .ok (.aload_n 0, 1) := by decide +kernel
theorem dX12_isSame_39 : decode cX12_isSame 39 = .ok (.iload_n 2, 1) := by decide +kernel
theorem dX12_isSame_40 : decode cX12_isSame 40 = .ok (.iconst 1, 1) := by decide +kernel
theorem dX12_isSame_41 : decode cX12_isSame 41 = .ok (.iadd, 1) := by decide +kernel
theorem dX12_isSame_42 : decode cX12_isSame 42 = .ok (.iload 4, 2) := by decide +kernel
theorem dX12_isSame_44 : decode cX12_isSame 44 = .ok (.iadd, 1) := by decide +kernel
theorem dX12_isSame_45 : decode cX12_isSame 45 = .ok (.iaload, 1) := by decide +kernel
theorem dX12_isSame_46 : decode cX12_isSame 46 = .ok (.if_icmp .ne 7, 3) := by decide +kernel
theorem dX12_isSame_49 : decode cX12_isSame 49 = .ok (.iconst 1, 1) := by decide +kernel
theorem dX12_isSame_50 : decode cX12_isSame 50 = .ok (.goto 4, 3) := by decide +kernel
theorem dX12_isSame_53 : decode cX12_isSame 53 = .ok (.iconst 0, 1) := by decide +kernel
theorem dX12_isSame_54 : decode cX12_isSame 54 = .ok (.istore_n 3, 1) := by decide +kernel
theorem dX12_isSame_55 : decode cX12_isSame 55 = .ok (.iinc 4 1, 3) := by decide +kernel
theorem dX12_isSame_58 : decode cX12_isSame 58 = .ok (.goto (-40), 3) := by decide +kernel
theorem dX12_isSame_61 : decode cX12_isSame 61 = .ok (.iload_n 3, 1) := by decide +kernel
theorem dX12_isSame_62 : decode cX12_isSame 62 = .ok (.ireturn, 1) := by decide +kernel
theorem dX12_county_0 : decode cX12_county 0 = .ok (.aload_n 0, 1) := by decide +kernel
theorem dX12_county_1 : decode cX12_county 1 = .ok (.invokevirtual 165, 3) := by decide +kernel
theorem dX12_county_4 : decode cX12_county 4 = .ok (.iload_n 1, 1) := by decide +kernel
theorem dX12_county_5 : decode cX12_county 5 = .ok (.iconst 0, 1) := by decide +kernel
theorem dX12_county_6 : decode cX12_county 6 = .ok (.aload_n 0, 1) := by decide +kernel
theorem dX12_county_7 : decode cX12_county 7 = .ok (.getfield 59, 3) := by decide +kernel
theorem dX12_county_10 : decode cX12_county 10 = .ok (.invokestatic 146, 3) := by decide +kernel
theorem dX12_county_13 : decode cX12_county 13 = .ok (.ifCond .ne 9, 3) := by decide +kernel
theorem dX12_county_16 : decode cX12_county 16 = .ok (.aload_n 0, 1) := by decide +kernel
theorem dX12_county_17 : decode cX12_county 17 = .ok (.iconst 2, 1) := by decide +kernel
theorem dX12_county_18 : decode cX12_county 18 = .ok (.invokevirtual 168, 3) := by decide +kernel
theorem dX12_county_21 : decode cX12_county 21 = .ok (.ireturn, 1) := by decide +kernel
theorem dX12_county_22 : decode cX12_county 22 = .ok (.aload_n 0, 1) := by decide +kernel
theorem dX12_county_23 : decode cX12_county 23 = .ok (.iconst 0, 1) := by decide +kernel
theorem dX12_county_24 : decode cX12_county 24 = .ok (.putfield 59, 3) := by decide +kernel
theorem dX12_county_27 : decode cX12_county 27 = .ok (.aload_n 0, 1) := by decide +kernel
theorem dX12_county_28 : decode cX12_county 28 = .ok (.iconst 0, 1) := by decide +kernel
theorem dX12_county_29 : decode cX12_county 29 = .ok (.putfield 95, 3) := by decide +kernel
theorem dX12_county_32 : decode cX12_county 32 = .ok (.aload_n 0, 1) := by decide +kernel
theorem dX12_county_33 : decode cX12_county 33 = .ok (.iconst 0, 1) := by decide +kernel
theorem dX12_county_34 : decode cX12_county 34 = .ok (.putfield 91, 3) := by decide +kernel
theorem dX12_county_37 : decode cX12_county 37 = .ok (.iconst 0, 1) := by decide +kernel
theorem dX12_county_38 : decode cX12_county 38 = .ok (.istore_n 2, 1) := by decide +kernel
theorem dX12_county_39 : decode cX12_county 39 = .ok (.iload_n 2, 1) := by decide +kernel
theorem dX12_county_40 : decode cX12_county 40 = .ok (.sipush 421, 3) := by decide +kernel
theorem dX12_county_43 : decode cX12_county 43 = .ok (.if_icmp .ge 16, 3) := by decide +kernel
theorem dX12_county_46 : decode cX12_county 46 = .ok (.aload_n 0, 1) := by decide +kernel
theorem dX12_county_47 : decode cX12_county 47 = .ok (.getfield 23, 3) := by decide +kernel
theorem dX12_county_50 : decode cX12_county 50 = .ok (.iload_n 2, 1) := by decide +kernel
theorem dX12_county_51 : decode cX12_county 51 = .ok (.iconst 0, 1) := by decide +kernel
theorem dX12_county_52 : decode cX12_county 52 = .ok (.iastore, 1) := by decide +kernel
theorem dX12_county_53 : decode cX12_county 53 = .ok (.iinc 2 1, 3) := by decide +kernel
theorem dX12_county_56 : decode cX12_county 56 = .ok (.goto (-17), 3) := by decide +kernel
theorem dX12_county_59 : decode cX12_county 59 = .ok (.aload_n 0, 1) := by decide +kernel
theorem dX12_county_60 : decode cX12_county 60 = .ok (.iload_n 1, 1) := by decide +kernel
theorem dX12_county_61 : decode cX12_county 61 = .ok (.putfield 62, 3) := by decide +kernel
theorem dX12_county_64 : decode cX12_county 64 = .ok (.aload_n 0, 1) := by decide +kernel
theorem dX12_county_65 : decode cX12_county 65 = .ok (.iconst 0, 1) := by decide +kernel
theorem dX12_county_66 : decode cX12_county 66 = .ok (.putfield 65, 3) := by decide +kernel
theorem dX12_county_69 : decode cX12_county 69 = .ok (.aload_n 0, 1) := by decide +kernel
theorem dX12_county_70 : decode cX12_county 70 = .ok (.invokevirtual 112, 3) := by decide +kernel
theorem dX12_county_73 : decode cX12_county 73 = .ok (.aload_n 0, 1) := by decide +kernel
theorem dX12_county_74 : decode cX12_county 74 = .ok (.invokevirtual 171, 3) := by decide +kernel
theorem dX12_county_77 : decode cX12_county 77 = .ok (.aload_n 0, 1) := by decide +kernel
theorem dX12_county_78 : decode cX12_county 78 = .ok (.getfield 91, 3) := by decide +kernel
theorem dX12_county_81 : decode cX12_county 81 = .ok (.ifCond .ne 23, 3) := by decide +kernel
theorem dX12_county_84 : decode cX12_county 84 = .ok (.aload_n 0, 1) := by decide +kernel
theorem dX12_county_85 : decode cX12_county 85 = .ok (.getfield 81, 3) := by decide +kernel
theorem dX12_county_88 : decode cX12_county 88 = .ok (.bipush 59, 2) := by decide +kernel
theorem dX12_county_90 : decode cX12_county 90 = .ok (.if_icmp .ne 14, 3) := by decide +kernel
theorem dX12_county_93 : decode cX12_county 93 = .ok (.aload_n 0, 1) := by decide +kernel
theorem dX12_county_94 : decode cX12_county 94 = .ok (.invokevirtual 112, 3) := by decide +kernel
theorem dX12_county_97 : decode cX12_county 97 = .ok (.aload_n 0, 1) := by decide +kernel
theorem dX12_county_98 : decode cX12_county 98 = .ok (.invokevirtual 171, 3) := by decide +kernel
theorem dX12_county_101 : decode cX12_county 101 = .ok (.goto (-24), 3) := by decide +kernel
theorem dX12_county_104 : decode cX12_county 104 = .ok (.aload_n 0, 1) := by decide +kernel
theorem dX12_county_105 : decode cX12_county 105 = .ok (.getfield 91, 3) := by decide +kernel
theorem dX12_county_108 : decode cX12_county 108 = .ok (.ifCond .ne 19, 3) := by decide +kernel
theorem dX12_county_111 : decode cX12_county 111 = .ok (.aload_n 0, 1) := by decide +kernel
theorem dX12_county_112 : decode cX12_county 112 = .ok (.getfield 81, 3) := by decide +kernel
theorem dX12_county_115 : decode cX12_county 115 = .ok (.ifCond .eq 12, 3) := by decide +kernel
theorem dX12_county_118 : decode cX12_county 118 = .ok (.aload_n 0, 1) := by decide +kernel
theorem dX12_county_119 : decode cX12_county 119 = .ok (.iconst 1, 1) := by decide +kernel
theorem dX12_county_120 : decode cX12_county 120 = .ok (.aload_n 0, 1) := by decide +kernel
theorem dX12_county_121 : decode cX12_county 121 = .ok (.getfield 72, 3) := by decide +kernel
theorem dX12_county_124 : decode cX12_county 124 = .ok (.invokevirtual 118, 3) := by decide +kernel
theorem dX12_county_127 : decode cX12_county 127 = .ok (.aload_n 0, 1) := by decide +kernel
theorem dX12_county_128 : decode cX12_county 128 = .ok (.getfield 91, 3) := by decide +kernel
theorem dX12_county_131 : decode cX12_county 131 = .ok (.ifCond .ne 31, 3) := by decide +kernel
theorem dX12_county_134 : decode cX12_county 134 = .ok (.aload_n 0, 1) := by decide +kernel
theorem dX12_county_135 : decode cX12_county 135 = .ok (.getfield 23, 3) := by decide +kernel
theorem dX12_county_138 : decode cX12_county 138 = .ok (.iconst 0, 1) := by decide +kernel
theorem dX12_county_139 : decode cX12_county 139 = .ok (.iaload, 1) := by decide +kernel
theorem dX12_county_140 : decode cX12_county 140 = .ok (.ifCond .eq 12, 3) := by decide +kernel
theorem dX12_county_143 : decode cX12_county 143 = .ok (.aload_n 0, 1) := by decide +kernel
theorem dX12_county_144 : decode cX12_county 144 = .ok (.getfield 23, 3) := by decide +kernel
theorem dX12_county_147 : decode cX12_county 147 = .ok (.iconst 2, 1) := by decide +kernel
theorem dX12_county_148 : decode cX12_county 148 = .ok (.iaload, 1) := by decide +kernel
theorem dX12_county_149 : decode cX12_county 149 = .ok (.ifCond .ne 13, 3) := by decide +kernel
theorem dX12_county_152 : decode cX12_county 152 = .ok (.aload_n 0, 1) := by decide +kernel
theorem dX12_county_153 : decode cX12_county 153 = .ok (.bipush 6, 2) := by decide +kernel
theorem dX12_county_155 : decode cX12_county 155 = .ok (.aload_n 0, 1) := by decide +kernel
theorem dX12_county_156 : decode cX12_county 156 = .ok (.getfield 72, 3) := by decide +kernel
theorem dX12_county_159 : decode cX12_county 159 = .ok (.invokevirtual 118, 3) := by decide +kernel
theorem dX12_county_162 : decode cX12_county 162 = .ok (.aload_n 0, 1) := by decide +kernel
theorem dX12_county_163 : decode cX12_county 163 = .ok (.getfield 91, 3) := by decide +kernel
theorem dX12_county_166 : decode cX12_county 166 = .ok (.ifCond .eq 9, 3) := by decide +kernel
theorem dX12_county_169 : decode cX12_county 169 = .ok (.aload_n 0, 1) := by decide +kernel
theorem dX12_county_170 : decode cX12_county 170 = .ok (.iconst 4, 1) := by decide +kernel
theorem dX12_county_171 : decode cX12_county 171 = .ok (.invokevirtual 168, 3) := by decide +kernel
theorem dX12_county_174 : decode cX12_county 174 = .ok (.ireturn, 1) := by decide +kernel
theorem dX12_county_175 : decode cX12_county 175 = .ok (.aload_n 0, 1) := by decide +kernel
theorem dX12_county_176 : decode cX12_county 176 = .ok (.getfield 23, 3) := by decide +kernel
theorem dX12_county_179 : decode cX12_county 179 = .ok (.iconst 0, 1) := by decide +kernel
theorem dX12_county_180 : decode cX12_county 180 = .ok (.aload_n 0, 1) := by decide +kernel
theorem dX12_county_181 : decode cX12_county 181 = .ok (.getfield 20, 3) := by decide +kernel
theorem dX12_county_184 : decode cX12_county 184 = .ok (.iconst 0, 1) := by decide +kernel
theorem dX12_county_185 : decode cX12_county 185 = .ok (.sipush 421, 3) := by decide +kernel
theorem dX12_county_188 : decode cX12_county 188 = .ok (.invokestatic 174, 3) := by decide +kernel
theorem dX12_county_191 : decode cX12_county 191 = .ok (.iconst 0, 1) := by decide +kernel
theorem dX12_county_192 : decode cX12_county 192 = .ok (.istore_n 2, 1) := by decide +kernel
theorem dX12_county_193 : decode cX12_county 193 = .ok (.iload_n 2, 1) := by decide +kernel
theorem dX12_county_194 : decode cX12_county 194 = .ok (.bipush 18, 2) := by decide +kernel
theorem dX12_county_196 : decode cX12_county 196 = .ok (.if_icmp .ge 16, 3) := by decide +kernel
theorem dX12_county_199 : decode cX12_county 199 = .ok (.aload_n 0, 1) := by decide +kernel
theorem dX12_county_200 : decode cX12_county 200 = .ok (.getfield 26, 3) := by decide +kernel
theorem dX12_county_203 : decode cX12_county 203 = .ok (.iload_n 2, 1) := by decide +kernel
theorem dX12_county_204 : decode cX12_county 204 = .ok (.iconst 0, 1) := by decide +kernel
theorem dX12_county_205 : decode cX12_county 205 = .ok (.iastore, 1) := by decide +kernel
theorem dX12_county_206 : decode cX12_county 206 = .ok (.iinc 2 1, 3) := by decide +kernel
theorem dX12_county_209 : decode cX12_county 209 = .ok (.goto (-16), 3) := by decide +kernel
theorem dX12_county_212 : decode cX12_county 212 = .ok (.aload_n 0, 1) := by decide +kernel
theorem dX12_county_213 : decode cX12_county 213 = .ok (.iconst 1, 1) := by decide +kernel
theorem dX12_county_214 : decode cX12_county 214 = .ok (.putfield 178, 3) := by decide +kernel
theorem dX12_county_217 : decode cX12_county 217 = .ok (.aload_n 0, 1) := by decide +kernel
theorem dX12_county_218 : decode cX12_county 218 = .ok (.iconst 0, 1) := by decide +kernel
theorem dX12_county_219 : decode cX12_county 219 = .ok (.putfield 181, 3) := by decide +kernel
theorem dX12_county_222 : decode cX12_county 222 = .ok (.aload_n 0, 1) := by decide +kernel
theorem dX12_county_223 : decode cX12_county 223 = .ok (.iconst 0, 1) := by decide +kernel
theorem dX12_county_224 : decode cX12_county 224 = .ok (.putfield 184, 3) := by decide +kernel
theorem dX12_county_227 : decode cX12_county 227 = .ok (.aload_n 0, 1) := by decide +kernel
theorem dX12_county_228 : decode cX12_county 228 = .ok (.getfield 20, 3) := by decide +kernel
theorem dX12_county_231 : decode cX12_county 231 = .ok (.iconst 2, 1) := by decide +kernel
theorem dX12_county_232 : decode cX12_county 232 = .ok (.iaload, 1) := by decide +kernel
theorem dX12_county_233 : decode cX12_county 233 = .ok (.ireturn, 1) := by decide +kernel
theorem dX12_begins_0 : decode cX12_begins 0 = .ok (.aload_n 0, 1) := by decide +kernel
theorem dX12_begins_1 : decode cX12_begins 1 = .ok (.aload_n 1, 1) := by decide +kernel
theorem dX12_begins_2 : decode cX12_begins 2 = .ok (.invokevirtual 108, 3) := by decide +kernel
theorem dX12_begins_5 : decode cX12_begins 5 = .ok (.ifCond .ne 5, 3) := by decide +kernel
theorem dX12_begins_8 : decode cX12_begins 8 = .ok (.iconst 0, 1) := by decide +kernel
theorem dX12_begins_9 : decode cX12_begins 9 = .ok (.ireturn, 1) := by decide +kernel
theorem dX12_begins_10 : decode cX12_begins 10 = .ok (.iload_n 2, 1) := by decide +kernel
theorem dX12_begins_11 : decode cX12_begins 11 = .ok (.ifCond .ne 12, 3) := by decide +kernel
theorem dX12_begins_14 : decode cX12_begins 14 = .ok (.aload_n 0, 1) := by decide +kernel
theorem dX12_begins_15 : decode cX12_begins 15 = .ok (.iconst 5, 1) := by decide +kernel
theorem dX12_begins_16 : decode cX12_begins 16 = .ok (.aload_n 0, 1) := by decide +kernel
theorem dX12_begins_17 : decode cX12_begins 17 = .ok (.getfield 72, 3) := by decide +kernel
theorem dX12_begins_20 : decode cX12_begins 20 = .ok (.invokevirtual 118, 3) := by decide +kernel
theorem dX12_begins_23 : decode cX12_begins 23 = .ok (.aload_n 0, 1) := by decide +kernel
theorem dX12_begins_24 : decode cX12_begins 24 = .ok (.getfield 23, 3) := by decide +kernel
theorem dX12_begins_27 : decode cX12_begins 27 = .ok (.iconst 0, 1) := by decide +kernel
theorem dX12_begins_28 : decode cX12_begins 28 = .ok (.iaload, 1) := by decide +kernel
theorem dX12_begins_29 : decode cX12_begins 29 = .ok (.ifCond .ne 13, 3) := by decide +kernel
theorem dX12_begins_32 : decode cX12_begins 32 = .ok (.aload_n 0, 1) := by decide +kernel
theorem dX12_begins_33 : decode cX12_begins 33 = .ok (.bipush 6, 2) := by decide +kernel
theorem dX12_begins_35 : decode cX12_begins 35 = .ok (.aload_n 0, 1) := by decide +kernel
theorem dX12_begins_36 : decode cX12_begins 36 = .ok (.getfield 72, 3) := by decide +kernel
theorem dX12_begins_39 : decode cX12_begins 39 = .ok (.invokevirtual 118, 3) := by decide +kernel
theorem dX12_begins_42 : decode cX12_begins 42 = .ok (.aload_n 0, 1) := by decide +kernel
theorem dX12_begins_43 : decode cX12_begins 43 = .ok (.getfield 91, 3) := by decide +kernel
theorem dX12_begins_46 : decode cX12_begins 46 = .ok (.ifCond .ne 7, 3) := by decide +kernel
theorem dX12_begins_49 : decode cX12_begins 49 = .ok (.aload_n 0, 1) := by decide +kernel
theorem dX12_begins_50 : decode cX12_begins 50 = .ok (.invokevirtual 112, 3) := by decide +kernel
theorem dX12_begins_53 : decode cX12_begins 53 = .ok (.iconst 1, 1) := by decide +kernel
theorem dX12_begins_54 : decode cX12_begins 54 = .ok (.ireturn, 1) := by decide +kernel
theorem dX12_readLine_0 : decode cX12_readLine 0 = .ok (.aload_n 0, 1) := by decide +kernel
theorem dX12_readLine_1 : decode cX12_readLine 1 = .ok (.ldc 122, 2) := by decide +kernel
theorem dX12_readLine_3 : decode cX12_readLine 3 = .ok (.invokevirtual 108, 3) := by decide +kernel
theorem dX12_readLine_6 : decode cX12_readLine 6 = .ok (.ifCond .eq 10, 3) := by decide +kernel
theorem dX12_readLine_9 : decode cX12_readLine 9 = .ok (.aload_n 0, 1) := by decide +kernel
theorem dX12_readLine_10 : decode cX12_readLine 10 = .ok (.invokevirtual 187, 3) := by decide +kernel
theorem dX12_readLine_13 : decode cX12_readLine 13 = .ok (.goto 204, 3) := by decide +kernel
theorem dX12_readLine_16 : decode cX12_readLine 16 = .ok (.aload_n 0, 1) := by decide +kernel
theorem dX12_readLine_17 : decode cX12_readLine 17 = .ok (.ldc 124, 2) := by decide +kernel
theorem dX12_readLine_19 : decode cX12_readLine 19 = .ok (.aload_n 0, 1) := by decide +kernel
theorem dX12_readLine_20 : decode cX12_readLine 20 = .ok (.getfield 23, 3) := by decide +kernel
theorem dX12_readLine_23 : decode cX12_readLine 23 = .ok (.iconst 2, 1) := by decide +kernel
theorem dX12_readLine_24 : decode cX12_readLine 24 = .ok (.iaload, 1) := by decide +kernel
theorem dX12_readLine_25 : decode cX12_readLine 25 = .ok (.bipush 7, 2) := by decide +kernel
theorem dX12_readLine_27 : decode cX12_readLine 27 = .ok (.if_icmp .ge 7, 3) := by decide +kernel
theorem dX12_readLine_30 : decode cX12_readLine 30 = .ok (.iconst 1, 1) := by decide +kernel
theorem dX12_readLine_31 : decode cX12_readLine 31 = .ok (.goto 4, 3) := by decide +kernel
theorem dX12_readLine_34 : decode cX12_readLine 34 = .ok (.iconst 0, 1) := by decide +kernel
theorem dX12_readLine_35 : decode cX12_readLine 35 = .ok (.invokevirtual 190, 3) := by decide +kernel
theorem dX12_readLine_38 : decode cX12_readLine 38 = .ok (.ifCond .eq 10, 3) := by decide +kernel
theorem dX12_readLine_41 : decode cX12_readLine 41 = .ok (.aload_n 0, 1) := by decide +kernel
theorem dX12_readLine_42 : decode cX12_readLine 42 = .ok (.invokevirtual 194, 3) := by decide +kernel
theorem dX12_readLine_45 : decode cX12_readLine 45 = .ok (.goto 172, 3) := by decide +kernel
theorem dX12_readLine_48 : decode cX12_readLine 48 = .ok (.aload_n 0, 1) := by decide +kernel
theorem dX12_readLine_49 : decode cX12_readLine 49 = .ok (.ldc 126, 2) := by decide +kernel
theorem dX12_readLine_51 : decode cX12_readLine 51 = .ok (.aload_n 0, 1) := by decide +kernel
theorem dX12_readLine_52 : decode cX12_readLine 52 = .ok (.getfield 23, 3) := by decide +kernel
theorem dX12_readLine_55 : decode cX12_readLine 55 = .ok (.iconst 3, 1) := by decide +kernel
theorem dX12_readLine_56 : decode cX12_readLine 56 = .ok (.iaload, 1) := by decide +kernel
theorem dX12_readLine_57 : decode cX12_readLine 57 = .ok (.iconst 3, 1) := by decide +kernel
theorem dX12_readLine_58 : decode cX12_readLine 58 = .ok (.if_icmp .ge 7, 3) := by decide +kernel
theorem dX12_readLine_61 : decode cX12_readLine 61 = .ok (.iconst 1, 1) := by decide +kernel
theorem dX12_readLine_62 : decode cX12_readLine 62 = .ok (.goto 4, 3) := by decide +kernel
theorem dX12_readLine_65 : decode cX12_readLine 65 = .ok (.iconst 0, 1) := by decide +kernel
theorem dX12_readLine_66 : decode cX12_readLine 66 = .ok (.invokevirtual 190, 3) := by decide +kernel
theorem dX12_readLine_69 : decode cX12_readLine 69 = .ok (.ifCond .eq 10, 3) := by decide +kernel
theorem dX12_readLine_72 : decode cX12_readLine 72 = .ok (.aload_n 0, 1) := by decide +kernel
theorem dX12_readLine_73 : decode cX12_readLine 73 = .ok (.invokevirtual 197, 3) := by decide +kernel
theorem dX12_readLine_76 : decode cX12_readLine 76 = .ok (.goto 141, 3) := by decide +kernel
theorem dX12_readLine_79 : decode cX12_readLine 79 = .ok (.aload_n 0, 1) := by decide +kernel
theorem dX12_readLine_80 : decode cX12_readLine 80 = .ok (.ldc 128, 2) := by decide +kernel
theorem dX12_readLine_82 : decode cX12_readLine 82 = .ok (.aload_n 0, 1) := by decide +kernel
theorem dX12_readLine_83 : decode cX12_readLine 83 = .ok (.getfield 23, 3) := by decide +kernel
theorem dX12_readLine_86 : decode cX12_readLine 86 = .ok (.iconst 4, 1) := by decide +kernel
theorem dX12_readLine_87 : decode cX12_readLine 87 = .ok (.iaload, 1) := by decide +kernel
theorem dX12_readLine_88 : decode cX12_readLine 88 = .ok (.bipush 7, 2) := by decide +kernel
theorem dX12_readLine_90 : decode cX12_readLine 90 = .ok (.if_icmp .ge 7, 3) := by decide +kernel
theorem dX12_readLine_93 : decode cX12_readLine 93 = .ok (.iconst 1, 1) := by decide +kernel
theorem dX12_readLine_94 : decode cX12_readLine 94 = .ok (.goto 4, 3) := by decide +kernel
theorem dX12_readLine_97 : decode cX12_readLine 97 = .ok (.iconst 0, 1) := by decide +kernel
theorem dX12_readLine_98 : decode cX12_readLine 98 = .ok (.invokevirtual 190, 3) := by decide +kernel
theorem dX12_readLine_101 : decode cX12_readLine 101 = .ok (.ifCond .eq 10, 3) := by decide +kernel
theorem dX12_readLine_104 : decode cX12_readLine 104 = .ok (.aload_n 0, 1) := by decide +kernel
theorem dX12_readLine_105 : decode cX12_readLine 105 = .ok (.invokevirtual 200, 3) := by decide +kernel
theorem dX12_readLine_108 : decode cX12_readLine 108 = .ok (.goto 109, 3) := by decide +kernel
theorem dX12_readLine_111 : decode cX12_readLine 111 = .ok (.aload_n 0, 1) := by decide +kernel
theorem dX12_readLine_112 : decode cX12_readLine 112 = .ok (.ldc 130, 2) := by decide +kernel
theorem dX12_readLine_114 : decode cX12_readLine 114 = .ok (.aload_n 0, 1) := by decide +kernel
theorem dX12_readLine_115 : decode cX12_readLine 115 = .ok (.getfield 23, 3) := by decide +kernel
theorem dX12_readLine_118 : decode cX12_readLine 118 = .ok (.iconst 5, 1) := by decide +kernel
theorem dX12_readLine_119 : decode cX12_readLine 119 = .ok (.iaload, 1) := by decide +kernel
theorem dX12_readLine_120 : decode cX12_readLine 120 = .ok (.bipush 8, 2) := by decide +kernel
theorem dX12_readLine_122 : decode cX12_readLine 122 = .ok (.if_icmp .ge 7, 3) := by decide +kernel
theorem dX12_readLine_125 : decode cX12_readLine 125 = .ok (.iconst 1, 1) := by decide +kernel
theorem dX12_readLine_126 : decode cX12_readLine 126 = .ok (.goto 4, 3) := by decide +kernel
theorem dX12_readLine_129 : decode cX12_readLine 129 = .ok (.iconst 0, 1) := by decide +kernel
theorem dX12_readLine_130 : decode cX12_readLine 130 = .ok (.invokevirtual 190, 3) := by decide +kernel
theorem dX12_readLine_133 : decode cX12_readLine 133 = .ok (.ifCond .eq 10, 3) := by decide +kernel
theorem dX12_readLine_136 : decode cX12_readLine 136 = .ok (.aload_n 0, 1) := by decide +kernel
theorem dX12_readLine_137 : decode cX12_readLine 137 = .ok (.invokevirtual 203, 3) := by decide +kernel
theorem dX12_readLine_140 : decode cX12_readLine 140 = .ok (.goto 77, 3) := by decide +kernel
theorem dX12_readLine_143 : decode cX12_readLine 143 = .ok (.aload_n 0, 1) := by decide +kernel
theorem dX12_readLine_144 : decode cX12_readLine 144 = .ok (.ldc 132, 2) := by decide +kernel
theorem dX12_readLine_146 : decode cX12_readLine 146 = .ok (.aload_n 0, 1) := by decide +kernel
theorem dX12_readLine_147 : decode cX12_readLine 147 = .ok (.getfield 23, 3) := by decide +kernel
theorem dX12_readLine_150 : decode cX12_readLine 150 = .ok (.bipush 6, 2) := by decide +kernel
theorem dX12_readLine_152 : decode cX12_readLine 152 = .ok (.iaload, 1) := by decide +kernel
theorem dX12_readLine_153 : decode cX12_readLine 153 = .ok (.bipush 6, 2) := by decide +kernel
theorem dX12_readLine_155 : decode cX12_readLine 155 = .ok (.if_icmp .ge 7, 3) := by decide +kernel
theorem dX12_readLine_158 : decode cX12_readLine 158 = .ok (.iconst 1, 1) := by decide +kernel
theorem dX12_readLine_159 : decode cX12_readLine 159 = .ok (.goto 4, 3) := by decide +kernel
theorem dX12_readLine_162 : decode cX12_readLine 162 = .ok (.iconst 0, 1) := by decide +kernel
theorem dX12_readLine_163 : decode cX12_readLine 163 = .ok (.invokevirtual 190, 3) := by decide +kernel
theorem dX12_readLine_166 : decode cX12_readLine 166 = .ok (.ifCond .eq 10, 3) := by decide +kernel
theorem dX12_readLine_169 : decode cX12_readLine 169 = .ok (.aload_n 0, 1) := by decide +kernel
theorem dX12_readLine_170 : decode cX12_readLine 170 = .ok (.invokevirtual 206, 3) := by decide +kernel
theorem dX12_readLine_173 : decode cX12_readLine 173 = .ok (.goto 44, 3) := by decide +kernel
theorem dX12_readLine_176 : decode cX12_readLine 176 = .ok (.aload_n 0, 1) := by decide +kernel
theorem dX12_readLine_177 : decode cX12_readLine 177 = .ok (.ldc 134, 2) := by decide +kernel
theorem dX12_readLine_179 : decode cX12_readLine 179 = .ok (.aload_n 0, 1) := by decide +kernel
theorem dX12_readLine_180 : decode cX12_readLine 180 = .ok (.getfield 23, 3) := by decide +kernel
theorem dX12_readLine_183 : decode cX12_readLine 183 = .ok (.bipush 7, 2) := by decide +kernel
theorem dX12_readLine_185 : decode cX12_readLine 185 = .ok (.iaload, 1) := by decide +kernel
theorem dX12_readLine_186 : decode cX12_readLine 186 = .ok (.iconst 5, 1) := by decide +kernel
theorem dX12_readLine_187 : decode cX12_readLine 187 = .ok (.if_icmp .ge 7, 3) := by decide +kernel
theorem dX12_readLine_190 : decode cX12_readLine 190 = .ok (.iconst 1, 1) := by decide +kernel
theorem dX12_readLine_191 : decode cX12_readLine 191 = .ok (.goto 4, 3) := by decide +kernel
theorem dX12_readLine_194 : decode cX12_readLine 194 = .ok (.iconst 0, 1) := by decide +kernel
theorem dX12_readLine_195 : decode cX12_readLine 195 = .ok (.invokevirtual 190, 3) := by decide +kernel
theorem dX12_readLine_198 : decode cX12_readLine 198 = .ok (.ifCond .eq 10, 3) := by decide +kernel
theorem dX12_readLine_201 : decode cX12_readLine 201 = .ok (.aload_n 0, 1) := by decide +kernel
theorem dX12_readLine_202 : decode cX12_readLine 202 = .ok (.invokevirtual 209, 3) := by decide +kernel
theorem dX12_readLine_205 : decode cX12_readLine 205 = .ok (.goto 12, 3) := by decide +kernel
theorem dX12_readLine_208 : decode cX12_readLine 208 = .ok (.aload_n 0, 1) := by decide +kernel
theorem dX12_readLine_209 : decode cX12_readLine 209 = .ok (.iconst 1, 1) := by decide +kernel
theorem dX12_readLine_210 : decode cX12_readLine 210 = .ok (.aload_n 0, 1) := by decide +kernel
theorem dX12_readLine_211 : decode cX12_readLine 211 = .ok (.getfield 72, 3) := by decide +kernel
theorem dX12_readLine_214 : decode cX12_readLine 214 = .ok (.invokevirtual 118, 3) := by decide +kernel
theorem dX12_readLine_217 : decode cX12_readLine 217 = .ok (.return_, 1) := by decide +kernel
theorem dX12_countyLine_0 : decode cX12_countyLine 0 = .ok (.aload_n 0, 1) := by decide +kernel
theorem dX12_countyLine_1 : decode cX12_countyLine 1 = .ok (.getfield 23, 3) := by decide +kernel
theorem dX12_countyLine_4 : decode cX12_countyLine 4 = .ok (.iconst 0, 1) := by decide +kernel
theorem dX12_countyLine_5 : decode cX12_countyLine 5 = .ok (.iaload, 1) := by decide +kernel
theorem dX12_countyLine_6 : decode cX12_countyLine 6 = .ok (.ifCond .le 12, 3) := by decide +kernel
theorem dX12_countyLine_9 : decode cX12_countyLine 9 = .ok (.aload_n 0, 1) := by decide +kernel
theorem dX12_countyLine_10 : decode cX12_countyLine 10 = .ok (.iconst 3, 1) := by decide +kernel
theorem dX12_countyLine_11 : decode cX12_countyLine 11 = .ok (.aload_n 0, 1) := by decide +kernel
theorem dX12_countyLine_12 : decode cX12_countyLine 12 = .ok (.getfield 72, 3) := by decide +kernel
theorem dX12_countyLine_15 : decode cX12_countyLine 15 = .ok (.invokevirtual 118, 3) := by decide +kernel
theorem dX12_countyLine_18 : decode cX12_countyLine 18 = .ok (.aload_n 0, 1) := by decide +kernel
theorem dX12_countyLine_19 : decode cX12_countyLine 19 = .ok (.getfield 91, 3) := by decide +kernel
theorem dX12_countyLine_22 : decode cX12_countyLine 22 = .ok (.ifCond .eq 4, 3) := by decide +kernel
theorem dX12_countyLine_25 : decode cX12_countyLine 25 = .ok (.return_, 1) := by decide +kernel
theorem dX12_countyLine_26 : decode cX12_countyLine 26 = .ok (.aload_n 0, 1) := by decide +kernel
theorem dX12_countyLine_27 : decode cX12_countyLine 27 = .ok (.invokevirtual 112, 3) := by decide +kernel
theorem dX12_countyLine_30 : decode cX12_countyLine 30 = .ok (.aload_n 0, 1) := by decide +kernel
theorem dX12_countyLine_31 : decode cX12_countyLine 31 = .ok (.ldc 212, 2) := by decide +kernel
theorem dX12_countyLine_33 : decode cX12_countyLine 33 = .ok (.iconst 1, 1) := by decide +kernel
theorem dX12_countyLine_34 : decode cX12_countyLine 34 = .ok (.bipush 9, 2) := by decide +kernel
theorem dX12_countyLine_36 : decode cX12_countyLine 36 = .ok (.invokevirtual 214, 3) := by decide +kernel
theorem dX12_countyLine_39 : decode cX12_countyLine 39 = .ok (.istore_n 1, 1) := by decide +kernel
theorem dX12_countyLine_40 : decode cX12_countyLine 40 = .ok (.aload_n 0, 1) := by decide +kernel
theorem dX12_countyLine_41 : decode cX12_countyLine 41 = .ok (.getfield 23, 3) := by decide +kernel
theorem dX12_countyLine_44 : decode cX12_countyLine 44 = .ok (.iconst 1, 1) := by decide +kernel
theorem dX12_countyLine_45 : decode cX12_countyLine 45 = .ok (.aload_n 0, 1) := by decide +kernel
theorem dX12_countyLine_46 : decode cX12_countyLine 46 = .ok (.ldc 218, 2) := by decide +kernel
theorem dX12_countyLine_48 : decode cX12_countyLine 48 = .ok (.iconst 0, 1) := by decide +kernel
theorem dX12_countyLine_49 : decode cX12_countyLine 49 = .ok (.bipush 100, 2) := by decide +kernel
theorem dX12_countyLine_51 : decode cX12_countyLine 51 = .ok (.invokevirtual 214, 3) := by decide +kernel
theorem dX12_countyLine_54 : decode cX12_countyLine 54 = .ok (.iastore, 1) := by decide +kernel
theorem dX12_countyLine_55 : decode cX12_countyLine 55 = .ok (.aload_n 0, 1) := by decide +kernel
theorem dX12_countyLine_56 : decode cX12_countyLine 56 = .ok (.getfield 91, 3) := by decide +kernel
theorem dX12_countyLine_59 : decode cX12_countyLine 59 = .ok (.ifCond .ne 10, 3) := by decide +kernel
theorem dX12_countyLine_62 : decode cX12_countyLine 62 = .ok (.aload_n 0, 1) := by decide +kernel
theorem dX12_countyLine_63 : decode cX12_countyLine 63 = .ok (.getfield 23, 3) := by decide +kernel
theorem dX12_countyLine_66 : decode cX12_countyLine 66 = .ok (.iconst 0, 1) := by decide +kernel
theorem dX12_countyLine_67 : decode cX12_countyLine 67 = .ok (.iload_n 1, 1) := by decide +kernel
theorem dX12_countyLine_68 : decode cX12_countyLine 68 = .ok (.iastore, 1) := by decide +kernel
theorem dX12_countyLine_69 : decode cX12_countyLine 69 = .ok (.return_, 1) := by decide +kernel
theorem dX12_sleeperLine_0 : decode cX12_sleeperLine 0 = .ok (.aload_n 0, 1) := by decide +kernel
theorem dX12_sleeperLine_1 : decode cX12_sleeperLine 1 = .ok (.getfield 91, 3) := by decide +kernel
theorem dX12_sleeperLine_4 : decode cX12_sleeperLine 4 = .ok (.ifCond .eq 4, 3) := by decide +kernel
theorem dX12_sleeperLine_7 : decode cX12_sleeperLine 7 = .ok (.return_, 1) := by decide +kernel
theorem dX12_sleeperLine_8 : decode cX12_sleeperLine 8 = .ok (.bipush 8, 2) := by decide +kernel
theorem dX12_sleeperLine_10 : decode cX12_sleeperLine 10 = .ok (.iconst 3, 1) := by decide +kernel
theorem dX12_sleeperLine_11 : decode cX12_sleeperLine 11 = .ok (.aload_n 0, 1) := by decide +kernel
theorem dX12_sleeperLine_12 : decode cX12_sleeperLine 12 = .ok (.getfield 23, 3) := by decide +kernel
theorem dX12_sleeperLine_15 : decode cX12_sleeperLine 15 = .ok (.iconst 2, 1) := by decide +kernel
theorem dX12_sleeperLine_16 : decode cX12_sleeperLine 16 = .ok (.iaload, 1) := by decide +kernel
theorem dX12_sleeperLine_17 : decode cX12_sleeperLine 17 = .ok (.imul, 1) := by decide +kernel
theorem dX12_sleeperLine_18 : decode cX12_sleeperLine 18 = .ok (.iadd, 1) := by decide +kernel
theorem dX12_sleeperLine_19 : decode cX12_sleeperLine 19 = .ok (.istore_n 1, 1) := by decide +kernel
theorem dX12_sleeperLine_20 : decode cX12_sleeperLine 20 = .ok (.aload_n 0, 1) := by decide +kernel
theorem dX12_sleeperLine_21 : decode cX12_sleeperLine 21 = .ok (.aload_n 0, 1) := by decide +kernel
theorem dX12_sleeperLine_22 : decode cX12_sleeperLine 22 = .ok (.getfield 23, 3) := by decide +kernel
theorem dX12_sleeperLine_25 : decode cX12_sleeperLine 25 = .ok (.iconst 2, 1) := by decide +kernel
theorem dX12_sleeperLine_26 : decode cX12_sleeperLine 26 = .ok (.iaload, 1) := by decide +kernel
theorem dX12_sleeperLine_27 : decode cX12_sleeperLine 27 = .ok (.invokevirtual 220, 3) := by decide +kernel
theorem dX12_sleeperLine_30 : decode cX12_sleeperLine 30 = .ok (.aload_n 0, 1) := by decide +kernel
theorem dX12_sleeperLine_31 : decode cX12_sleeperLine 31 = .ok (.ldc 223, 2) := by decide +kernel
theorem dX12_sleeperLine_33 : decode cX12_sleeperLine 33 = .ok (.invokevirtual 108, 3) := by decide +kernel
theorem dX12_sleeperLine_36 : decode cX12_sleeperLine 36 = .ok (.ifCond .eq 7, 3) := by decide +kernel
theorem dX12_sleeperLine_39 : decode cX12_sleeperLine 39 = .ok (.iconst 0, 1) := by decide +kernel
theorem dX12_sleeperLine_40 : decode cX12_sleeperLine 40 = .ok (.goto 43, 3) := by decide +kernel
theorem dX12_sleeperLine_43 : decode cX12_sleeperLine 43 = .ok (.aload_n 0, 1) := by decide +kernel
theorem dX12_sleeperLine_44 : decode cX12_sleeperLine 44 = .ok (.ldc 225, 2) := by decide +kernel
theorem dX12_sleeperLine_46 : decode cX12_sleeperLine 46 = .ok (.invokevirtual 108, 3) := by decide +kernel
theorem dX12_sleeperLine_49 : decode cX12_sleeperLine 49 = .ok (.ifCond .eq 7, 3) := by decide +kernel
theorem dX12_sleeperLine_52 : decode cX12_sleeperLine 52 = .ok (.iconst 1, 1) := by decide +kernel
theorem dX12_sleeperLine_53 : decode cX12_sleeperLine 53 = .ok (.goto 30, 3) := by decide +kernel
theorem dX12_sleeperLine_56 : decode cX12_sleeperLine 56 = .ok (.aload_n 0, 1) := by decide +kernel
theorem dX12_sleeperLine_57 : decode cX12_sleeperLine 57 = .ok (.ldc 227, 2) := by decide +kernel
theorem dX12_sleeperLine_59 : decode cX12_sleeperLine 59 = .ok (.invokevirtual 108, 3) := by decide +kernel
theorem dX12_sleeperLine_62 : decode cX12_sleeperLine 62 = .ok (.ifCond .eq 7, 3) := by decide +kernel
theorem dX12_sleeperLine_65 : decode cX12_sleeperLine 65 = .ok (.iconst 2, 1) := by decide +kernel
theorem dX12_sleeperLine_66 : decode cX12_sleeperLine 66 = .ok (.goto 17, 3) := by decide +kernel
theorem dX12_sleeperLine_69 : decode cX12_sleeperLine 69 = .ok (.aload_n 0, 1) := by decide +kernel
theorem dX12_sleeperLine_70 : decode cX12_sleeperLine 70 = .ok (.ldc 229, 2) := by decide +kernel
theorem dX12_sleeperLine_72 : decode cX12_sleeperLine 72 = .ok (.invokevirtual 108, 3) := by decide +kernel
theorem dX12_sleeperLine_75 : decode cX12_sleeperLine 75 = .ok (.ifCond .eq 7, 3) := by decide +kernel
theorem dX12_sleeperLine_78 : decode cX12_sleeperLine 78 = .ok (.iconst 3, 1) := by decide +kernel
theorem dX12_sleeperLine_79 : decode cX12_sleeperLine 79 = .ok (.goto 4, 3) := by decide +kernel
theorem dX12_sleeperLine_82 : decode cX12_sleeperLine 82 = .ok (.iconst (-1), 1) := by decide +kernel
theorem dX12_sleeperLine_83 : decode cX12_sleeperLine 83 = .ok (.istore_n 2, 1) := by decide +kernel
theorem dX12_sleeperLine_84 : decode cX12_sleeperLine 84 = .ok (.iload_n 2, 1) := by decide +kernel
theorem dX12_sleeperLine_85 : decode cX12_sleeperLine 85 = .ok (.ifCond .ge 12, 3) := by decide +kernel
theorem dX12_sleeperLine_88 : decode cX12_sleeperLine 88 = .ok (.aload_n 0, 1) := by decide +kernel
theorem dX12_sleeperLine_89 : decode cX12_sleeperLine 89 = .ok (.iconst 1, 1) := by decide +kernel
theorem dX12_sleeperLine_90 : decode cX12_sleeperLine 90 = .ok (.aload_n 0, 1) := by decide +kernel
theorem dX12_sleeperLine_91 : decode cX12_sleeperLine 91 = .ok (.getfield 72, 3) := by decide +kernel
theorem dX12_sleeperLine_94 : decode cX12_sleeperLine 94 = .ok (.invokevirtual 118, 3) := by decide +kernel
theorem dX12_sleeperLine_97 : decode cX12_sleeperLine 97 = .ok (.aload_n 0, 1) := by decide +kernel
theorem dX12_sleeperLine_98 : decode cX12_sleeperLine 98 = .ok (.getfield 91, 3) := by decide +kernel
theorem dX12_sleeperLine_101 : decode cX12_sleeperLine 101 = .ok (.ifCond .eq 4, 3) := by decide +kernel
theorem dX12_sleeperLine_104 : decode cX12_sleeperLine 104 = .ok (.return_, 1) := by decide +kernel
theorem dX12_sleeperLine_105 : decode cX12_sleeperLine 105 = .ok (.aload_n 0, 1) := by decide +kernel
theorem dX12_sleeperLine_106 : decode cX12_sleeperLine 106 = .ok (.invokevirtual 112, 3) := by decide +kernel
theorem dX12_sleeperLine_109 : decode cX12_sleeperLine 109 = .ok (.aload_n 0, 1) := by decide +kernel
theorem dX12_sleeperLine_110 : decode cX12_sleeperLine 110 = .ok (.getfield 23, 3) := by decide +kernel
theorem dX12_sleeperLine_113 : decode cX12_sleeperLine 113 = .ok (.iload_n 1, 1) := by decide +kernel
theorem dX12_sleeperLine_114 : decode cX12_sleeperLine 114 = .ok (.iload_n 2, 1) := by decide +kernel
theorem dX12_sleeperLine_115 : decode cX12_sleeperLine 115 = .ok (.iastore, 1) := by decide +kernel
theorem dX12_sleeperLine_116 : decode cX12_sleeperLine 116 = .ok (.aload_n 0, 1) := by decide +kernel
theorem dX12_sleeperLine_117 : decode cX12_sleeperLine 117 = .ok (.getfield 23, 3) := by decide +kernel
theorem dX12_sleeperLine_120 : decode cX12_sleeperLine 120 = .ok (.iload_n 1, 1) := by decide +kernel
theorem dX12_sleeperLine_121 : decode cX12_sleeperLine 121 = .ok (.iconst 1, 1) := by decide +kernel
theorem dX12_sleeperLine_122 : decode cX12_sleeperLine 122 = .ok (.iadd, 1) := by decide +kernel
theorem dX12_sleeperLine_123 : decode cX12_sleeperLine 123 = .ok (.aload_n 0, 1) := by decide +kernel
theorem dX12_sleeperLine_124 : decode cX12_sleeperLine 124 = .ok (.ldc 231, 2) := by decide +kernel
theorem dX12_sleeperLine_126 : decode cX12_sleeperLine 126 = .ok (.iconst 0, 1) := by decide +kernel
theorem dX12_sleeperLine_127 : decode cX12_sleeperLine 127 = .ok (.bipush 9, 2) := by decide +kernel
theorem dX12_sleeperLine_129 : decode cX12_sleeperLine 129 = .ok (.invokevirtual 214, 3) := by decide +kernel
theorem dX12_sleeperLine_132 : decode cX12_sleeperLine 132 = .ok (.iastore, 1) := by decide +kernel
theorem dX12_sleeperLine_133 : decode cX12_sleeperLine 133 = .ok (.aload_n 0, 1) := by decide +kernel
theorem dX12_sleeperLine_134 : decode cX12_sleeperLine 134 = .ok (.getfield 23, 3) := by decide +kernel
theorem dX12_sleeperLine_137 : decode cX12_sleeperLine 137 = .ok (.iload_n 1, 1) := by decide +kernel
theorem dX12_sleeperLine_138 : decode cX12_sleeperLine 138 = .ok (.iconst 2, 1) := by decide +kernel
theorem dX12_sleeperLine_139 : decode cX12_sleeperLine 139 = .ok (.iadd, 1) := by decide +kernel
theorem dX12_sleeperLine_140 : decode cX12_sleeperLine 140 = .ok (.aload_n 0, 1) := by decide +kernel
theorem dX12_sleeperLine_141 : decode cX12_sleeperLine 141 = .ok (.ldc 232, 2) := by decide +kernel
theorem dX12_sleeperLine_143 : decode cX12_sleeperLine 143 = .ok (.iconst 1, 1) := by decide +kernel
theorem dX12_sleeperLine_144 : decode cX12_sleeperLine 144 = .ok (.bipush 20, 2) := by decide +kernel
theorem dX12_sleeperLine_146 : decode cX12_sleeperLine 146 = .ok (.invokevirtual 214, 3) := by decide +kernel
theorem dX12_sleeperLine_149 : decode cX12_sleeperLine 149 = .ok (.iastore, 1) := by decide +kernel
theorem dX12_sleeperLine_150 : decode cX12_sleeperLine 150 = .ok (.aload_n 0, 1) := by decide +kernel
theorem dX12_sleeperLine_151 : decode cX12_sleeperLine 151 = .ok (.getfield 91, 3) := by decide +kernel
theorem dX12_sleeperLine_154 : decode cX12_sleeperLine 154 = .ok (.ifCond .ne 13, 3) := by decide +kernel
theorem dX12_sleeperLine_157 : decode cX12_sleeperLine 157 = .ok (.aload_n 0, 1) := by decide +kernel
theorem dX12_sleeperLine_158 : decode cX12_sleeperLine 158 = .ok (.getfield 23, 3) := by decide +kernel
theorem dX12_sleeperLine_161 : decode cX12_sleeperLine 161 = .ok (.iconst 2, 1) := by decide +kernel
theorem dX12_sleeperLine_162 : decode cX12_sleeperLine 162 = .ok (.dup2, 1) := by decide +kernel
theorem dX12_sleeperLine_163 : decode cX12_sleeperLine 163 = .ok (.iaload, 1) := by decide +kernel
theorem dX12_sleeperLine_164 : decode cX12_sleeperLine 164 = .ok (.iconst 1, 1) := by decide +kernel
theorem dX12_sleeperLine_165 : decode cX12_sleeperLine 165 = .ok (.iadd, 1) := by decide +kernel
theorem dX12_sleeperLine_166 : decode cX12_sleeperLine 166 = .ok (.iastore, 1) := by decide +kernel
theorem dX12_sleeperLine_167 : decode cX12_sleeperLine 167 = .ok (.return_, 1) := by decide +kernel
theorem dX12_awakeLine_0 : decode cX12_awakeLine 0 = .ok (.aload_n 0, 1) := by decide +kernel
theorem dX12_awakeLine_1 : decode cX12_awakeLine 1 = .ok (.getfield 91, 3) := by decide +kernel
theorem dX12_awakeLine_4 : decode cX12_awakeLine 4 = .ok (.ifCond .eq 4, 3) := by decide +kernel
theorem dX12_awakeLine_7 : decode cX12_awakeLine 7 = .ok (.return_, 1) := by decide +kernel
theorem dX12_awakeLine_8 : decode cX12_awakeLine 8 = .ok (.bipush 29, 2) := by decide +kernel
theorem dX12_awakeLine_10 : decode cX12_awakeLine 10 = .ok (.iconst 3, 1) := by decide +kernel
theorem dX12_awakeLine_11 : decode cX12_awakeLine 11 = .ok (.aload_n 0, 1) := by decide +kernel
theorem dX12_awakeLine_12 : decode cX12_awakeLine 12 = .ok (.getfield 23, 3) := by decide +kernel
theorem dX12_awakeLine_15 : decode cX12_awakeLine 15 = .ok (.iconst 3, 1) := by decide +kernel
theorem dX12_awakeLine_16 : decode cX12_awakeLine 16 = .ok (.iaload, 1) := by decide +kernel
theorem dX12_awakeLine_17 : decode cX12_awakeLine 17 = .ok (.imul, 1) := by decide +kernel
theorem dX12_awakeLine_18 : decode cX12_awakeLine 18 = .ok (.iadd, 1) := by decide +kernel
theorem dX12_awakeLine_19 : decode cX12_awakeLine 19 = .ok (.istore_n 1, 1) := by decide +kernel
theorem dX12_awakeLine_20 : decode cX12_awakeLine 20 = .ok (.aload_n 0, 1) := by decide +kernel
theorem dX12_awakeLine_21 : decode cX12_awakeLine 21 = .ok (.bipush 7, 2) := by decide +kernel
theorem dX12_awakeLine_23 : decode cX12_awakeLine 23 = .ok (.aload_n 0, 1) := by decide +kernel
theorem dX12_awakeLine_24 : decode cX12_awakeLine 24 = .ok (.getfield 23, 3) := by decide +kernel
theorem dX12_awakeLine_27 : decode cX12_awakeLine 27 = .ok (.iconst 3, 1) := by decide +kernel
theorem dX12_awakeLine_28 : decode cX12_awakeLine 28 = .ok (.iaload, 1) := by decide +kernel
theorem dX12_awakeLine_29 : decode cX12_awakeLine 29 = .ok (.iadd, 1) := by decide +kernel
theorem dX12_awakeLine_30 : decode cX12_awakeLine 30 = .ok (.invokevirtual 220, 3) := by decide +kernel
theorem dX12_awakeLine_33 : decode cX12_awakeLine 33 = .ok (.aload_n 0, 1) := by decide +kernel
theorem dX12_awakeLine_34 : decode cX12_awakeLine 34 = .ok (.getfield 23, 3) := by decide +kernel
theorem dX12_awakeLine_37 : decode cX12_awakeLine 37 = .ok (.iload_n 1, 1) := by decide +kernel
theorem dX12_awakeLine_38 : decode cX12_awakeLine 38 = .ok (.aload_n 0, 1) := by decide +kernel
theorem dX12_awakeLine_39 : decode cX12_awakeLine 39 = .ok (.ldc 231, 2) := by decide +kernel
theorem dX12_awakeLine_41 : decode cX12_awakeLine 41 = .ok (.iconst 0, 1) := by decide +kernel
theorem dX12_awakeLine_42 : decode cX12_awakeLine 42 = .ok (.bipush 9, 2) := by decide +kernel
theorem dX12_awakeLine_44 : decode cX12_awakeLine 44 = .ok (.invokevirtual 214, 3) := by decide +kernel
theorem dX12_awakeLine_47 : decode cX12_awakeLine 47 = .ok (.iastore, 1) := by decide +kernel
theorem dX12_awakeLine_48 : decode cX12_awakeLine 48 = .ok (.aload_n 0, 1) := by decide +kernel
theorem dX12_awakeLine_49 : decode cX12_awakeLine 49 = .ok (.getfield 23, 3) := by decide +kernel
theorem dX12_awakeLine_52 : decode cX12_awakeLine 52 = .ok (.iload_n 1, 1) := by decide +kernel
theorem dX12_awakeLine_53 : decode cX12_awakeLine 53 = .ok (.iconst 1, 1) := by decide +kernel
theorem dX12_awakeLine_54 : decode cX12_awakeLine 54 = .ok (.iadd, 1) := by decide +kernel
theorem dX12_awakeLine_55 : decode cX12_awakeLine 55 = .ok (.aload_n 0, 1) := by decide +kernel
theorem dX12_awakeLine_56 : decode cX12_awakeLine 56 = .ok (.ldc 234, 2) := by decide +kernel
theorem dX12_awakeLine_58 : decode cX12_awakeLine 58 = .ok (.iconst 1, 1) := by decide +kernel
theorem dX12_awakeLine_59 : decode cX12_awakeLine 59 = .ok (.iconst 4, 1) := by decide +kernel
theorem dX12_awakeLine_60 : decode cX12_awakeLine 60 = .ok (.invokevirtual 214, 3) := by decide +kernel
theorem dX12_awakeLine_63 : decode cX12_awakeLine 63 = .ok (.iastore, 1) := by decide +kernel
theorem dX12_awakeLine_64 : decode cX12_awakeLine 64 = .ok (.aload_n 0, 1) := by decide +kernel
theorem dX12_awakeLine_65 : decode cX12_awakeLine 65 = .ok (.getfield 23, 3) := by decide +kernel
theorem dX12_awakeLine_68 : decode cX12_awakeLine 68 = .ok (.iload_n 1, 1) := by decide +kernel
theorem dX12_awakeLine_69 : decode cX12_awakeLine 69 = .ok (.iconst 2, 1) := by decide +kernel
theorem dX12_awakeLine_70 : decode cX12_awakeLine 70 = .ok (.iadd, 1) := by decide +kernel
theorem dX12_awakeLine_71 : decode cX12_awakeLine 71 = .ok (.aload_n 0, 1) := by decide +kernel
theorem dX12_awakeLine_72 : decode cX12_awakeLine 72 = .ok (.ldc 235, 2) := by decide +kernel
theorem dX12_awakeLine_74 : decode cX12_awakeLine 74 = .ok (.iconst 0, 1) := by decide +kernel
theorem dX12_awakeLine_75 : decode cX12_awakeLine 75 = .ok (.bipush 9, 2) := by decide +kernel
theorem dX12_awakeLine_77 : decode cX12_awakeLine 77 = .ok (.invokevirtual 214, 3) := by decide +kernel
theorem dX12_awakeLine_80 : decode cX12_awakeLine 80 = .ok (.iastore, 1) := by decide +kernel
theorem dX12_awakeLine_81 : decode cX12_awakeLine 81 = .ok (.aload_n 0, 1) := by decide +kernel
theorem dX12_awakeLine_82 : decode cX12_awakeLine 82 = .ok (.getfield 91, 3) := by decide +kernel
theorem dX12_awakeLine_85 : decode cX12_awakeLine 85 = .ok (.ifCond .ne 13, 3) := by decide +kernel
theorem dX12_awakeLine_88 : decode cX12_awakeLine 88 = .ok (.aload_n 0, 1) := by decide +kernel
theorem dX12_awakeLine_89 : decode cX12_awakeLine 89 = .ok (.getfield 23, 3) := by decide +kernel
theorem dX12_awakeLine_92 : decode cX12_awakeLine 92 = .ok (.iconst 3, 1) := by decide +kernel
theorem dX12_awakeLine_93 : decode cX12_awakeLine 93 = .ok (.dup2, 1) := by decide +kernel
theorem dX12_awakeLine_94 : decode cX12_awakeLine 94 = .ok (.iaload, 1) := by decide +kernel
theorem dX12_awakeLine_95 : decode cX12_awakeLine 95 = .ok (.iconst 1, 1) := by decide +kernel
theorem dX12_awakeLine_96 : decode cX12_awakeLine 96 = .ok (.iadd, 1) := by decide +kernel
theorem dX12_awakeLine_97 : decode cX12_awakeLine 97 = .ok (.iastore, 1) := by decide +kernel
theorem dX12_awakeLine_98 : decode cX12_awakeLine 98 = .ok (.return_, 1) := by decide +kernel
theorem dX12_wordLine_0 : decode cX12_wordLine 0 = .ok (.aload_n 0, 1) := by decide +kernel
theorem dX12_wordLine_1 : decode cX12_wordLine 1 = .ok (.getfield 91, 3) := by decide +kernel
theorem dX12_wordLine_4 : decode cX12_wordLine 4 = .ok (.ifCond .eq 4, 3) := by decide +kernel
theorem dX12_wordLine_7 : decode cX12_wordLine 7 = .ok (.return_, 1) := by decide +kernel
theorem dX12_wordLine_8 : decode cX12_wordLine 8 = .ok (.bipush 38, 2) := by decide +kernel
theorem dX12_wordLine_10 : decode cX12_wordLine 10 = .ok (.iconst 3, 1) := by decide +kernel
theorem dX12_wordLine_11 : decode cX12_wordLine 11 = .ok (.aload_n 0, 1) := by decide +kernel
theorem dX12_wordLine_12 : decode cX12_wordLine 12 = .ok (.getfield 23, 3) := by decide +kernel
theorem dX12_wordLine_15 : decode cX12_wordLine 15 = .ok (.iconst 4, 1) := by decide +kernel
theorem dX12_wordLine_16 : decode cX12_wordLine 16 = .ok (.iaload, 1) := by decide +kernel
theorem dX12_wordLine_17 : decode cX12_wordLine 17 = .ok (.imul, 1) := by decide +kernel
theorem dX12_wordLine_18 : decode cX12_wordLine 18 = .ok (.iadd, 1) := by decide +kernel
theorem dX12_wordLine_19 : decode cX12_wordLine 19 = .ok (.istore_n 1, 1) := by decide +kernel
theorem dX12_wordLine_20 : decode cX12_wordLine 20 = .ok (.aload_n 0, 1) := by decide +kernel
theorem dX12_wordLine_21 : decode cX12_wordLine 21 = .ok (.bipush 10, 2) := by decide +kernel
theorem dX12_wordLine_23 : decode cX12_wordLine 23 = .ok (.aload_n 0, 1) := by decide +kernel
theorem dX12_wordLine_24 : decode cX12_wordLine 24 = .ok (.getfield 23, 3) := by decide +kernel
theorem dX12_wordLine_27 : decode cX12_wordLine 27 = .ok (.iconst 4, 1) := by decide +kernel
theorem dX12_wordLine_28 : decode cX12_wordLine 28 = .ok (.iaload, 1) := by decide +kernel
theorem dX12_wordLine_29 : decode cX12_wordLine 29 = .ok (.iadd, 1) := by decide +kernel
theorem dX12_wordLine_30 : decode cX12_wordLine 30 = .ok (.invokevirtual 220, 3) := by decide +kernel
theorem dX12_wordLine_33 : decode cX12_wordLine 33 = .ok (.aload_n 0, 1) := by decide +kernel
theorem dX12_wordLine_34 : decode cX12_wordLine 34 = .ok (.getfield 23, 3) := by decide +kernel
theorem dX12_wordLine_37 : decode cX12_wordLine 37 = .ok (.iload_n 1, 1) := by decide +kernel
theorem dX12_wordLine_38 : decode cX12_wordLine 38 = .ok (.aload_n 0, 1) := by decide +kernel
theorem dX12_wordLine_39 : decode cX12_wordLine 39 = .ok (.ldc 237, 2) := by decide +kernel
theorem dX12_wordLine_41 : decode cX12_wordLine 41 = .ok (.iconst 1, 1) := by decide +kernel
theorem dX12_wordLine_42 : decode cX12_wordLine 42 = .ok (.bipush 99, 2) := by decide +kernel
theorem dX12_wordLine_44 : decode cX12_wordLine 44 = .ok (.invokevirtual 214, 3) := by decide +kernel
theorem dX12_wordLine_47 : decode cX12_wordLine 47 = .ok (.iastore, 1) := by decide +kernel
theorem dX12_wordLine_48 : decode cX12_wordLine 48 = .ok (.aload_n 0, 1) := by decide +kernel
theorem dX12_wordLine_49 : decode cX12_wordLine 49 = .ok (.getfield 23, 3) := by decide +kernel
theorem dX12_wordLine_52 : decode cX12_wordLine 52 = .ok (.iload_n 1, 1) := by decide +kernel
theorem dX12_wordLine_53 : decode cX12_wordLine 53 = .ok (.iconst 1, 1) := by decide +kernel
theorem dX12_wordLine_54 : decode cX12_wordLine 54 = .ok (.iadd, 1) := by decide +kernel
theorem dX12_wordLine_55 : decode cX12_wordLine 55 = .ok (.aload_n 0, 1) := by decide +kernel
theorem dX12_wordLine_56 : decode cX12_wordLine 56 = .ok (.ldc 239, 2) := by decide +kernel
theorem dX12_wordLine_58 : decode cX12_wordLine 58 = .ok (.iconst 1, 1) := by decide +kernel
theorem dX12_wordLine_59 : decode cX12_wordLine 59 = .ok (.bipush 30, 2) := by decide +kernel
theorem dX12_wordLine_61 : decode cX12_wordLine 61 = .ok (.invokevirtual 214, 3) := by decide +kernel
theorem dX12_wordLine_64 : decode cX12_wordLine 64 = .ok (.iastore, 1) := by decide +kernel
theorem dX12_wordLine_65 : decode cX12_wordLine 65 = .ok (.aload_n 0, 1) := by decide +kernel
theorem dX12_wordLine_66 : decode cX12_wordLine 66 = .ok (.getfield 91, 3) := by decide +kernel
theorem dX12_wordLine_69 : decode cX12_wordLine 69 = .ok (.ifCond .ne 13, 3) := by decide +kernel
theorem dX12_wordLine_72 : decode cX12_wordLine 72 = .ok (.aload_n 0, 1) := by decide +kernel
theorem dX12_wordLine_73 : decode cX12_wordLine 73 = .ok (.getfield 23, 3) := by decide +kernel
theorem dX12_wordLine_76 : decode cX12_wordLine 76 = .ok (.iconst 4, 1) := by decide +kernel
theorem dX12_wordLine_77 : decode cX12_wordLine 77 = .ok (.dup2, 1) := by decide +kernel
theorem dX12_wordLine_78 : decode cX12_wordLine 78 = .ok (.iaload, 1) := by decide +kernel
theorem dX12_wordLine_79 : decode cX12_wordLine 79 = .ok (.iconst 1, 1) := by decide +kernel
theorem dX12_wordLine_80 : decode cX12_wordLine 80 = .ok (.iadd, 1) := by decide +kernel
theorem dX12_wordLine_81 : decode cX12_wordLine 81 = .ok (.iastore, 1) := by decide +kernel
theorem dX12_wordLine_82 : decode cX12_wordLine 82 = .ok (.return_, 1) := by decide +kernel
theorem dX12_allBefore_0 : decode cX12_allBefore 0 = .ok (.aload_n 0, 1) := by decide +kernel
theorem dX12_allBefore_1 : decode cX12_allBefore 1 = .ok (.bipush 38, 2) := by decide +kernel
theorem dX12_allBefore_3 : decode cX12_allBefore 3 = .ok (.iconst 3, 1) := by decide +kernel
theorem dX12_allBefore_4 : decode cX12_allBefore 4 = .ok (.iload_n 1, 1) := by decide +kernel
theorem dX12_allBefore_5 : decode cX12_allBefore 5 = .ok (.imul, 1) := by decide +kernel
theorem dX12_allBefore_6 : decode cX12_allBefore 6 = .ok (.iadd, 1) := by decide +kernel
theorem dX12_allBefore_7 : decode cX12_allBefore 7 = .ok (.iconst 2, 1) := by decide +kernel
theorem dX12_allBefore_8 : decode cX12_allBefore 8 = .ok (.iadd, 1) := by decide +kernel
theorem dX12_allBefore_9 : decode cX12_allBefore 9 = .ok (.iaload, 1) := by decide +kernel
theorem dX12_allBefore_10 : decode cX12_allBefore 10 = .ok (.istore_n 2, 1) := by decide +kernel
theorem dX12_allBefore_11 : decode cX12_allBefore 11 = .ok (.iconst 0, 1) := by decide +kernel
theorem dX12_allBefore_12 : decode cX12_allBefore 12 = .ok (.istore_n 3, 1) := by decide +kernel
theorem dX12_allBefore_13 : decode cX12_allBefore 13 = .ok (.iload_n 3, 1) := by decide +kernel
theorem dX12_allBefore_14 : decode cX12_allBefore 14 = .ok (.bipush 7, 2) := by decide +kernel
theorem dX12_allBefore_16 : decode cX12_allBefore 16 = .ok (.if_icmp .ge 52, 3) := by decide +kernel
theorem dX12_allBefore_19 : decode cX12_allBefore 19 = .ok (.iconst 0, 1) := by decide +kernel
theorem dX12_allBefore_20 : decode cX12_allBefore 20 = .ok (.istore 4, 2) := by decide +kernel
theorem dX12_allBefore_22 : decode cX12_allBefore 22 = .ok (.iload 4, 2) := by decide +kernel
theorem dX12_allBefore_24 : decode cX12_allBefore 24 = .ok (.bipush 7, 2) := by decide +kernel
theorem dX12_allBefore_26 : decode cX12_allBefore 26 = .ok (.if_icmp .ge 36, 3) := by decide +kernel
theorem dX12_allBefore_29 : decode cX12_allBefore 29 = .ok (.iload_n 2, 1) := by decide +kernel
theorem dX12_allBefore_30 : decode cX12_allBefore 30 = .ok (.iload_n 2, 1) := by decide +kernel
theorem dX12_allBefore_31 : decode cX12_allBefore 31 = .ok (.iload 4, 2) := by decide +kernel
theorem dX12_allBefore_33 : decode cX12_allBefore 33 = .ok (.invokestatic 241, 3) := by decide +kernel
theorem dX12_allBefore_36 : decode cX12_allBefore 36 = .ok (.ifCond .eq 17, 3) := by decide +kernel
theorem dX12_allBefore_39 : decode cX12_allBefore 39 = .ok (.aload_n 0, 1) := by decide +kernel
theorem dX12_allBefore_40 : decode cX12_allBefore 40 = .ok (.bipush 38, 2) := by decide +kernel
theorem dX12_allBefore_42 : decode cX12_allBefore 42 = .ok (.iconst 3, 1) := by decide +kernel
theorem dX12_allBefore_43 : decode cX12_allBefore 43 = .ok (.iload 4, 2) := by decide +kernel
theorem dX12_allBefore_45 : decode cX12_allBefore 45 = .ok (.imul, 1) := by decide +kernel
theorem dX12_allBefore_46 : decode cX12_allBefore 46 = .ok (.iadd, 1) := by decide +kernel
theorem dX12_allBefore_47 : decode cX12_allBefore 47 = .ok (.iconst 2, 1) := by decide +kernel
theorem dX12_allBefore_48 : decode cX12_allBefore 48 = .ok (.iadd, 1) := by decide +kernel
theorem dX12_allBefore_49 : decode cX12_allBefore 49 = .ok (.iaload, 1) := by decide +kernel
theorem dX12_allBefore_50 : decode cX12_allBefore 50 = .ok (.goto 4, 3) := by decide +kernel
theorem dX12_allBefore_53 : decode cX12_allBefore 53 = .ok (.iconst 0, 1) := by decide +kernel
theorem dX12_allBefore_54 : decode cX12_allBefore 54 = .ok (.ior, 1) := by decide +kernel
theorem dX12_allBefore_55 : decode cX12_allBefore 55 = .ok (.istore_n 2, 1) := by decide +kernel
theorem dX12_allBefore_56 : decode cX12_allBefore 56 = .ok (.iinc 4 1, 3) := by decide +kernel
theorem dX12_allBefore_59 : decode cX12_allBefore 59 = .ok (.goto (-37), 3) := by decide +kernel
theorem dX12_allBefore_62 : decode cX12_allBefore 62 = .ok (.iinc 3 1, 3) := by decide +kernel
theorem dX12_allBefore_65 : decode cX12_allBefore 65 = .ok (.goto (-52), 3) := by decide +kernel
theorem dX12_allBefore_68 : decode cX12_allBefore 68 = .ok (.iload_n 2, 1) := by decide +kernel
theorem dX12_allBefore_69 : decode cX12_allBefore 69 = .ok (.ireturn, 1) := by decide +kernel
theorem dX12_beforeLine_0 : decode cX12_beforeLine 0 = .ok (.aload_n 0, 1) := by decide +kernel
theorem dX12_beforeLine_1 : decode cX12_beforeLine 1 = .ok (.getfield 91, 3) := by decide +kernel
theorem dX12_beforeLine_4 : decode cX12_beforeLine 4 = .ok (.ifCond .eq 4, 3) := by decide +kernel
theorem dX12_beforeLine_7 : decode cX12_beforeLine 7 = .ok (.return_, 1) := by decide +kernel
theorem dX12_beforeLine_8 : decode cX12_beforeLine 8 = .ok (.aload_n 0, 1) := by decide +kernel
theorem dX12_beforeLine_9 : decode cX12_beforeLine 9 = .ok (.invokevirtual 245, 3) := by decide +kernel
theorem dX12_beforeLine_12 : decode cX12_beforeLine 12 = .ok (.istore_n 1, 1) := by decide +kernel
theorem dX12_beforeLine_13 : decode cX12_beforeLine 13 = .ok (.aload_n 0, 1) := by decide +kernel
theorem dX12_beforeLine_14 : decode cX12_beforeLine 14 = .ok (.getfield 91, 3) := by decide +kernel
theorem dX12_beforeLine_17 : decode cX12_beforeLine 17 = .ok (.ifCond .eq 4, 3) := by decide +kernel
theorem dX12_beforeLine_20 : decode cX12_beforeLine 20 = .ok (.return_, 1) := by decide +kernel
theorem dX12_beforeLine_21 : decode cX12_beforeLine 21 = .ok (.aload_n 0, 1) := by decide +kernel
theorem dX12_beforeLine_22 : decode cX12_beforeLine 22 = .ok (.invokevirtual 112, 3) := by decide +kernel
theorem dX12_beforeLine_25 : decode cX12_beforeLine 25 = .ok (.aload_n 0, 1) := by decide +kernel
theorem dX12_beforeLine_26 : decode cX12_beforeLine 26 = .ok (.invokevirtual 245, 3) := by decide +kernel
theorem dX12_beforeLine_29 : decode cX12_beforeLine 29 = .ok (.istore_n 2, 1) := by decide +kernel
theorem dX12_beforeLine_30 : decode cX12_beforeLine 30 = .ok (.aload_n 0, 1) := by decide +kernel
theorem dX12_beforeLine_31 : decode cX12_beforeLine 31 = .ok (.getfield 91, 3) := by decide +kernel
theorem dX12_beforeLine_34 : decode cX12_beforeLine 34 = .ok (.ifCond .ne 37, 3) := by decide +kernel
theorem dX12_beforeLine_37 : decode cX12_beforeLine 37 = .ok (.iload_n 1, 1) := by decide +kernel
theorem dX12_beforeLine_38 : decode cX12_beforeLine 38 = .ok (.iload_n 2, 1) := by decide +kernel
theorem dX12_beforeLine_39 : decode cX12_beforeLine 39 = .ok (.if_icmp .eq 23, 3) := by decide +kernel
theorem dX12_beforeLine_42 : decode cX12_beforeLine 42 = .ok (.aload_n 0, 1) := by decide +kernel
theorem dX12_beforeLine_43 : decode cX12_beforeLine 43 = .ok (.getfield 23, 3) := by decide +kernel
theorem dX12_beforeLine_46 : decode cX12_beforeLine 46 = .ok (.bipush 38, 2) := by decide +kernel
theorem dX12_beforeLine_48 : decode cX12_beforeLine 48 = .ok (.iconst 3, 1) := by decide +kernel
theorem dX12_beforeLine_49 : decode cX12_beforeLine 49 = .ok (.iload_n 2, 1) := by decide +kernel
theorem dX12_beforeLine_50 : decode cX12_beforeLine 50 = .ok (.imul, 1) := by decide +kernel
theorem dX12_beforeLine_51 : decode cX12_beforeLine 51 = .ok (.iadd, 1) := by decide +kernel
theorem dX12_beforeLine_52 : decode cX12_beforeLine 52 = .ok (.iconst 2, 1) := by decide +kernel
theorem dX12_beforeLine_53 : decode cX12_beforeLine 53 = .ok (.iadd, 1) := by decide +kernel
theorem dX12_beforeLine_54 : decode cX12_beforeLine 54 = .ok (.iaload, 1) := by decide +kernel
theorem dX12_beforeLine_55 : decode cX12_beforeLine 55 = .ok (.iload_n 1, 1) := by decide +kernel
theorem dX12_beforeLine_56 : decode cX12_beforeLine 56 = .ok (.invokestatic 241, 3) := by decide +kernel
theorem dX12_beforeLine_59 : decode cX12_beforeLine 59 = .ok (.ifCond .eq 12, 3) := by decide +kernel
theorem dX12_beforeLine_62 : decode cX12_beforeLine 62 = .ok (.aload_n 0, 1) := by decide +kernel
theorem dX12_beforeLine_63 : decode cX12_beforeLine 63 = .ok (.iconst 3, 1) := by decide +kernel
theorem dX12_beforeLine_64 : decode cX12_beforeLine 64 = .ok (.aload_n 0, 1) := by decide +kernel
theorem dX12_beforeLine_65 : decode cX12_beforeLine 65 = .ok (.getfield 72, 3) := by decide +kernel
theorem dX12_beforeLine_68 : decode cX12_beforeLine 68 = .ok (.invokevirtual 118, 3) := by decide +kernel
theorem dX12_beforeLine_71 : decode cX12_beforeLine 71 = .ok (.aload_n 0, 1) := by decide +kernel
theorem dX12_beforeLine_72 : decode cX12_beforeLine 72 = .ok (.getfield 91, 3) := by decide +kernel
theorem dX12_beforeLine_75 : decode cX12_beforeLine 75 = .ok (.ifCond .ne 28, 3) := by decide +kernel
theorem dX12_beforeLine_78 : decode cX12_beforeLine 78 = .ok (.aload_n 0, 1) := by decide +kernel
theorem dX12_beforeLine_79 : decode cX12_beforeLine 79 = .ok (.getfield 23, 3) := by decide +kernel
theorem dX12_beforeLine_82 : decode cX12_beforeLine 82 = .ok (.iload_n 1, 1) := by decide +kernel
theorem dX12_beforeLine_83 : decode cX12_beforeLine 83 = .ok (.invokestatic 248, 3) := by decide +kernel
theorem dX12_beforeLine_86 : decode cX12_beforeLine 86 = .ok (.iload_n 2, 1) := by decide +kernel
theorem dX12_beforeLine_87 : decode cX12_beforeLine 87 = .ok (.invokestatic 241, 3) := by decide +kernel
theorem dX12_beforeLine_90 : decode cX12_beforeLine 90 = .ok (.ifCond .eq 13, 3) := by decide +kernel
theorem dX12_beforeLine_93 : decode cX12_beforeLine 93 = .ok (.aload_n 0, 1) := by decide +kernel
theorem dX12_beforeLine_94 : decode cX12_beforeLine 94 = .ok (.bipush 7, 2) := by decide +kernel
theorem dX12_beforeLine_96 : decode cX12_beforeLine 96 = .ok (.aload_n 0, 1) := by decide +kernel
theorem dX12_beforeLine_97 : decode cX12_beforeLine 97 = .ok (.getfield 72, 3) := by decide +kernel
theorem dX12_beforeLine_100 : decode cX12_beforeLine 100 = .ok (.invokevirtual 118, 3) := by decide +kernel
theorem dX12_beforeLine_103 : decode cX12_beforeLine 103 = .ok (.aload_n 0, 1) := by decide +kernel
theorem dX12_beforeLine_104 : decode cX12_beforeLine 104 = .ok (.getfield 91, 3) := by decide +kernel
theorem dX12_beforeLine_107 : decode cX12_beforeLine 107 = .ok (.ifCond .eq 4, 3) := by decide +kernel
theorem dX12_beforeLine_110 : decode cX12_beforeLine 110 = .ok (.return_, 1) := by decide +kernel
theorem dX12_beforeLine_111 : decode cX12_beforeLine 111 = .ok (.aload_n 0, 1) := by decide +kernel
theorem dX12_beforeLine_112 : decode cX12_beforeLine 112 = .ok (.invokevirtual 112, 3) := by decide +kernel
theorem dX12_beforeLine_115 : decode cX12_beforeLine 115 = .ok (.aload_n 0, 1) := by decide +kernel
theorem dX12_beforeLine_116 : decode cX12_beforeLine 116 = .ok (.getfield 23, 3) := by decide +kernel
theorem dX12_beforeLine_119 : decode cX12_beforeLine 119 = .ok (.bipush 38, 2) := by decide +kernel
theorem dX12_beforeLine_121 : decode cX12_beforeLine 121 = .ok (.iconst 3, 1) := by decide +kernel
theorem dX12_beforeLine_122 : decode cX12_beforeLine 122 = .ok (.iload_n 2, 1) := by decide +kernel
theorem dX12_beforeLine_123 : decode cX12_beforeLine 123 = .ok (.imul, 1) := by decide +kernel
theorem dX12_beforeLine_124 : decode cX12_beforeLine 124 = .ok (.iadd, 1) := by decide +kernel
theorem dX12_beforeLine_125 : decode cX12_beforeLine 125 = .ok (.iconst 2, 1) := by decide +kernel
theorem dX12_beforeLine_126 : decode cX12_beforeLine 126 = .ok (.iadd, 1) := by decide +kernel
theorem dX12_beforeLine_127 : decode cX12_beforeLine 127 = .ok (.dup2, 1) := by decide +kernel
theorem dX12_beforeLine_128 : decode cX12_beforeLine 128 = .ok (.iaload, 1) := by decide +kernel
theorem dX12_beforeLine_129 : decode cX12_beforeLine 129 = .ok (.iconst 1, 1) := by decide +kernel
theorem dX12_beforeLine_130 : decode cX12_beforeLine 130 = .ok (.iload_n 1, 1) := by decide +kernel
theorem dX12_beforeLine_131 : decode cX12_beforeLine 131 = .ok (.ishl, 1) := by decide +kernel
theorem dX12_beforeLine_132 : decode cX12_beforeLine 132 = .ok (.ior, 1) := by decide +kernel
theorem dX12_beforeLine_133 : decode cX12_beforeLine 133 = .ok (.iastore, 1) := by decide +kernel
theorem dX12_beforeLine_134 : decode cX12_beforeLine 134 = .ok (.aload_n 0, 1) := by decide +kernel
theorem dX12_beforeLine_135 : decode cX12_beforeLine 135 = .ok (.getfield 23, 3) := by decide +kernel
theorem dX12_beforeLine_138 : decode cX12_beforeLine 138 = .ok (.iconst 5, 1) := by decide +kernel
theorem dX12_beforeLine_139 : decode cX12_beforeLine 139 = .ok (.dup2, 1) := by decide +kernel
theorem dX12_beforeLine_140 : decode cX12_beforeLine 140 = .ok (.iaload, 1) := by decide +kernel
theorem dX12_beforeLine_141 : decode cX12_beforeLine 141 = .ok (.iconst 1, 1) := by decide +kernel
theorem dX12_beforeLine_142 : decode cX12_beforeLine 142 = .ok (.iadd, 1) := by decide +kernel
theorem dX12_beforeLine_143 : decode cX12_beforeLine 143 = .ok (.iastore, 1) := by decide +kernel
theorem dX12_beforeLine_144 : decode cX12_beforeLine 144 = .ok (.return_, 1) := by decide +kernel
theorem dX12_orderLine_0 : decode cX12_orderLine 0 = .ok (.aload_n 0, 1) := by decide +kernel
theorem dX12_orderLine_1 : decode cX12_orderLine 1 = .ok (.getfield 91, 3) := by decide +kernel
theorem dX12_orderLine_4 : decode cX12_orderLine 4 = .ok (.ifCond .eq 4, 3) := by decide +kernel
theorem dX12_orderLine_7 : decode cX12_orderLine 7 = .ok (.return_, 1) := by decide +kernel
theorem dX12_orderLine_8 : decode cX12_orderLine 8 = .ok (.bipush 59, 2) := by decide +kernel
theorem dX12_orderLine_10 : decode cX12_orderLine 10 = .ok (.bipush 19, 2) := by decide +kernel
theorem dX12_orderLine_12 : decode cX12_orderLine 12 = .ok (.aload_n 0, 1) := by decide +kernel
theorem dX12_orderLine_13 : decode cX12_orderLine 13 = .ok (.getfield 23, 3) := by decide +kernel
theorem dX12_orderLine_16 : decode cX12_orderLine 16 = .ok (.bipush 6, 2) := by decide +kernel
theorem dX12_orderLine_18 : decode cX12_orderLine 18 = .ok (.iaload, 1) := by decide +kernel
theorem dX12_orderLine_19 : decode cX12_orderLine 19 = .ok (.imul, 1) := by decide +kernel
theorem dX12_orderLine_20 : decode cX12_orderLine 20 = .ok (.iadd, 1) := by decide +kernel
theorem dX12_orderLine_21 : decode cX12_orderLine 21 = .ok (.istore_n 1, 1) := by decide +kernel
theorem dX12_orderLine_22 : decode cX12_orderLine 22 = .ok (.aload_n 0, 1) := by decide +kernel
theorem dX12_orderLine_23 : decode cX12_orderLine 23 = .ok (.iload_n 1, 1) := by decide +kernel
theorem dX12_orderLine_24 : decode cX12_orderLine 24 = .ok (.iconst 1, 1) := by decide +kernel
theorem dX12_orderLine_25 : decode cX12_orderLine 25 = .ok (.iadd, 1) := by decide +kernel
theorem dX12_orderLine_26 : decode cX12_orderLine 26 = .ok (.invokevirtual 252, 3) := by decide +kernel
theorem dX12_orderLine_29 : decode cX12_orderLine 29 = .ok (.aload_n 0, 1) := by decide +kernel
theorem dX12_orderLine_30 : decode cX12_orderLine 30 = .ok (.ldc 136, 2) := by decide +kernel
theorem dX12_orderLine_32 : decode cX12_orderLine 32 = .ok (.invokevirtual 154, 3) := by decide +kernel
theorem dX12_orderLine_35 : decode cX12_orderLine 35 = .ok (.aload_n 0, 1) := by decide +kernel
theorem dX12_orderLine_36 : decode cX12_orderLine 36 = .ok (.iload_n 1, 1) := by decide +kernel
theorem dX12_orderLine_37 : decode cX12_orderLine 37 = .ok (.bipush 10, 2) := by decide +kernel
theorem dX12_orderLine_39 : decode cX12_orderLine 39 = .ok (.iadd, 1) := by decide +kernel
theorem dX12_orderLine_40 : decode cX12_orderLine 40 = .ok (.invokevirtual 252, 3) := by decide +kernel
theorem dX12_orderLine_43 : decode cX12_orderLine 43 = .ok (.aload_n 0, 1) := by decide +kernel
theorem dX12_orderLine_44 : decode cX12_orderLine 44 = .ok (.ldc 255, 2) := by decide +kernel
theorem dX12_orderLine_46 : decode cX12_orderLine 46 = .ok (.invokevirtual 154, 3) := by decide +kernel
theorem dX12_orderLine_49 : decode cX12_orderLine 49 = .ok (.aload_n 0, 1) := by decide +kernel
theorem dX12_orderLine_50 : decode cX12_orderLine 50 = .ok (.iconst 1, 1) := by decide +kernel
theorem dX12_orderLine_51 : decode cX12_orderLine 51 = .ok (.bipush 9, 2) := by decide +kernel
theorem dX12_orderLine_53 : decode cX12_orderLine 53 = .ok (.invokevirtual 150, 3) := by decide +kernel
theorem dX12_orderLine_56 : decode cX12_orderLine 56 = .ok (.istore_n 2, 1) := by decide +kernel
theorem dX12_orderLine_57 : decode cX12_orderLine 57 = .ok (.iconst 0, 1) := by decide +kernel
theorem dX12_orderLine_58 : decode cX12_orderLine 58 = .ok (.istore_n 3, 1) := by decide +kernel
theorem dX12_orderLine_59 : decode cX12_orderLine 59 = .ok (.iload_n 3, 1) := by decide +kernel
theorem dX12_orderLine_60 : decode cX12_orderLine 60 = .ok (.aload_n 0, 1) := by decide +kernel
theorem dX12_orderLine_61 : decode cX12_orderLine 61 = .ok (.getfield 23, 3) := by decide +kernel
theorem dX12_orderLine_64 : decode cX12_orderLine 64 = .ok (.bipush 6, 2) := by decide +kernel
theorem dX12_orderLine_66 : decode cX12_orderLine 66 = .ok (.iaload, 1) := by decide +kernel
theorem dX12_orderLine_67 : decode cX12_orderLine 67 = .ok (.if_icmp .ge 63, 3) := by decide +kernel
theorem dX12_orderLine_70 : decode cX12_orderLine 70 = .ok (.aload_n 0, 1) := by decide +kernel
theorem dX12_orderLine_71 : decode cX12_orderLine 71 = .ok (.getfield 91, 3) := by decide +kernel
theorem dX12_orderLine_74 : decode cX12_orderLine 74 = .ok (.ifCond .ne 50, 3) := by decide +kernel
theorem dX12_orderLine_77 : decode cX12_orderLine 77 = .ok (.aload_n 0, 1) := by decide +kernel
theorem dX12_orderLine_78 : decode cX12_orderLine 78 = .ok (.getfield 23, 3) := by decide +kernel
theorem dX12_orderLine_81 : decode cX12_orderLine 81 = .ok (.bipush 59, 2) := by decide +kernel
theorem dX12_orderLine_83 : decode cX12_orderLine 83 = .ok (.bipush 19, 2) := by decide +kernel
theorem dX12_orderLine_85 : decode cX12_orderLine 85 = .ok (.iload_n 3, 1) := by decide +kernel
theorem dX12_orderLine_86 : decode cX12_orderLine 86 = .ok (.imul, 1) := by decide +kernel
theorem dX12_orderLine_87 : decode cX12_orderLine 87 = .ok (.iadd, 1) := by decide +kernel
theorem dX12_orderLine_88 : decode cX12_orderLine 88 = .ok (.iaload, 1) := by decide +kernel
theorem dX12_orderLine_89 : decode cX12_orderLine 89 = .ok (.iload_n 2, 1) := by decide +kernel
theorem dX12_orderLine_90 : decode cX12_orderLine 90 = .ok (.if_icmp .ne 34, 3) := by decide +kernel
theorem dX12_orderLine_93 : decode cX12_orderLine 93 = .ok (.aload_n 0, 1) := by decide +kernel
theorem dX12_orderLine_94 : decode cX12_orderLine 94 = .ok (.getfield 23, 3) := by decide +kernel
theorem dX12_orderLine_97 : decode cX12_orderLine 97 = .ok (.bipush 59, 2) := by decide +kernel
theorem dX12_orderLine_99 : decode cX12_orderLine 99 = .ok (.bipush 19, 2) := by decide +kernel
theorem dX12_orderLine_101 : decode cX12_orderLine 101 = .ok (.iload_n 3, 1) := by decide +kernel
theorem dX12_orderLine_102 : decode cX12_orderLine 102 = .ok (.imul, 1) := by decide +kernel
theorem dX12_orderLine_103 : decode cX12_orderLine 103 = .ok (.iadd, 1) := by decide +kernel
theorem dX12_orderLine_104 : decode cX12_orderLine 104 = .ok (.iconst 1, 1) := by decide +kernel
theorem dX12_orderLine_105 : decode cX12_orderLine 105 = .ok (.iadd, 1) := by decide +kernel
theorem dX12_orderLine_106 : decode cX12_orderLine 106 = .ok (.iload_n 1, 1) := by decide +kernel
theorem dX12_orderLine_107 : decode cX12_orderLine 107 = .ok (.iconst 1, 1) := by decide +kernel
theorem dX12_orderLine_108 : decode cX12_orderLine 108 = .ok (.iadd, 1) := by decide +kernel
theorem dX12_orderLine_109 : decode cX12_orderLine 109 = .ok (.invokestatic 257, 3) := by decide +kernel
theorem dX12_orderLine_112 : decode cX12_orderLine 112 = .ok (.ifCond .eq 12, 3) := by decide +kernel
theorem dX12_orderLine_115 : decode cX12_orderLine 115 = .ok (.aload_n 0, 1) := by decide +kernel
theorem dX12_orderLine_116 : decode cX12_orderLine 116 = .ok (.iconst 3, 1) := by decide +kernel
theorem dX12_orderLine_117 : decode cX12_orderLine 117 = .ok (.aload_n 0, 1) := by decide +kernel
theorem dX12_orderLine_118 : decode cX12_orderLine 118 = .ok (.getfield 72, 3) := by decide +kernel
theorem dX12_orderLine_121 : decode cX12_orderLine 121 = .ok (.invokevirtual 118, 3) := by decide +kernel
theorem dX12_orderLine_124 : decode cX12_orderLine 124 = .ok (.iinc 3 1, 3) := by decide +kernel
theorem dX12_orderLine_127 : decode cX12_orderLine 127 = .ok (.goto (-68), 3) := by decide +kernel
theorem dX12_orderLine_130 : decode cX12_orderLine 130 = .ok (.aload_n 0, 1) := by decide +kernel
theorem dX12_orderLine_131 : decode cX12_orderLine 131 = .ok (.getfield 91, 3) := by decide +kernel
theorem dX12_orderLine_134 : decode cX12_orderLine 134 = .ok (.ifCond .eq 4, 3) := by decide +kernel
theorem dX12_orderLine_137 : decode cX12_orderLine 137 = .ok (.return_, 1) := by decide +kernel
theorem dX12_orderLine_138 : decode cX12_orderLine 138 = .ok (.aload_n 0, 1) := by decide +kernel
theorem dX12_orderLine_139 : decode cX12_orderLine 139 = .ok (.invokevirtual 112, 3) := by decide +kernel
theorem dX12_orderLine_142 : decode cX12_orderLine 142 = .ok (.aload_n 0, 1) := by decide +kernel
theorem dX12_orderLine_143 : decode cX12_orderLine 143 = .ok (.getfield 23, 3) := by decide +kernel
theorem dX12_orderLine_146 : decode cX12_orderLine 146 = .ok (.iload_n 1, 1) := by decide +kernel
theorem dX12_orderLine_147 : decode cX12_orderLine 147 = .ok (.iload_n 2, 1) := by decide +kernel
theorem dX12_orderLine_148 : decode cX12_orderLine 148 = .ok (.iastore, 1) := by decide +kernel
theorem dX12_orderLine_149 : decode cX12_orderLine 149 = .ok (.aload_n 0, 1) := by decide +kernel
theorem dX12_orderLine_150 : decode cX12_orderLine 150 = .ok (.getfield 23, 3) := by decide +kernel
theorem dX12_orderLine_153 : decode cX12_orderLine 153 = .ok (.bipush 6, 2) := by decide +kernel
theorem dX12_orderLine_155 : decode cX12_orderLine 155 = .ok (.dup2, 1) := by decide +kernel
theorem dX12_orderLine_156 : decode cX12_orderLine 156 = .ok (.iaload, 1) := by decide +kernel
theorem dX12_orderLine_157 : decode cX12_orderLine 157 = .ok (.iconst 1, 1) := by decide +kernel
theorem dX12_orderLine_158 : decode cX12_orderLine 158 = .ok (.iadd, 1) := by decide +kernel
theorem dX12_orderLine_159 : decode cX12_orderLine 159 = .ok (.iastore, 1) := by decide +kernel
theorem dX12_orderLine_160 : decode cX12_orderLine 160 = .ok (.return_, 1) := by decide +kernel
theorem dX12_seenLine_0 : decode cX12_seenLine 0 = .ok (.aload_n 0, 1) := by decide +kernel
theorem dX12_seenLine_1 : decode cX12_seenLine 1 = .ok (.getfield 91, 3) := by decide +kernel
theorem dX12_seenLine_4 : decode cX12_seenLine 4 = .ok (.ifCond .eq 4, 3) := by decide +kernel
theorem dX12_seenLine_7 : decode cX12_seenLine 7 = .ok (.return_, 1) := by decide +kernel
theorem dX12_seenLine_8 : decode cX12_seenLine 8 = .ok (.sipush 173, 3) := by decide +kernel
theorem dX12_seenLine_11 : decode cX12_seenLine 11 = .ok (.bipush 19, 2) := by decide +kernel
theorem dX12_seenLine_13 : decode cX12_seenLine 13 = .ok (.aload_n 0, 1) := by decide +kernel
theorem dX12_seenLine_14 : decode cX12_seenLine 14 = .ok (.getfield 23, 3) := by decide +kernel
theorem dX12_seenLine_17 : decode cX12_seenLine 17 = .ok (.bipush 7, 2) := by decide +kernel
theorem dX12_seenLine_19 : decode cX12_seenLine 19 = .ok (.iaload, 1) := by decide +kernel
theorem dX12_seenLine_20 : decode cX12_seenLine 20 = .ok (.imul, 1) := by decide +kernel
theorem dX12_seenLine_21 : decode cX12_seenLine 21 = .ok (.iadd, 1) := by decide +kernel
theorem dX12_seenLine_22 : decode cX12_seenLine 22 = .ok (.istore_n 1, 1) := by decide +kernel
theorem dX12_seenLine_23 : decode cX12_seenLine 23 = .ok (.aload_n 0, 1) := by decide +kernel
theorem dX12_seenLine_24 : decode cX12_seenLine 24 = .ok (.iload_n 1, 1) := by decide +kernel
theorem dX12_seenLine_25 : decode cX12_seenLine 25 = .ok (.iconst 1, 1) := by decide +kernel
theorem dX12_seenLine_26 : decode cX12_seenLine 26 = .ok (.iadd, 1) := by decide +kernel
theorem dX12_seenLine_27 : decode cX12_seenLine 27 = .ok (.invokevirtual 161, 3) := by decide +kernel
theorem dX12_seenLine_30 : decode cX12_seenLine 30 = .ok (.iconst 0, 1) := by decide +kernel
theorem dX12_seenLine_31 : decode cX12_seenLine 31 = .ok (.istore_n 2, 1) := by decide +kernel
theorem dX12_seenLine_32 : decode cX12_seenLine 32 = .ok (.iload_n 2, 1) := by decide +kernel
theorem dX12_seenLine_33 : decode cX12_seenLine 33 = .ok (.aload_n 0, 1) := by decide +kernel
theorem dX12_seenLine_34 : decode cX12_seenLine 34 = .ok (.getfield 23, 3) := by decide +kernel
theorem dX12_seenLine_37 : decode cX12_seenLine 37 = .ok (.bipush 7, 2) := by decide +kernel
theorem dX12_seenLine_39 : decode cX12_seenLine 39 = .ok (.iaload, 1) := by decide +kernel
theorem dX12_seenLine_40 : decode cX12_seenLine 40 = .ok (.if_icmp .ge 48, 3) := by decide +kernel
theorem dX12_seenLine_43 : decode cX12_seenLine 43 = .ok (.aload_n 0, 1) := by decide +kernel
theorem dX12_seenLine_44 : decode cX12_seenLine 44 = .ok (.getfield 91, 3) := by decide +kernel
theorem dX12_seenLine_47 : decode cX12_seenLine 47 = .ok (.ifCond .ne 35, 3) := by decide +kernel
theorem dX12_seenLine_50 : decode cX12_seenLine 50 = .ok (.aload_n 0, 1) := by decide +kernel
theorem dX12_seenLine_51 : decode cX12_seenLine 51 = .ok (.getfield 23, 3) := by decide +kernel
theorem dX12_seenLine_54 : decode cX12_seenLine 54 = .ok (.sipush 173, 3) := by decide +kernel
theorem dX12_seenLine_57 : decode cX12_seenLine 57 = .ok (.bipush 19, 2) := by decide +kernel
theorem dX12_seenLine_59 : decode cX12_seenLine 59 = .ok (.iload_n 2, 1) := by decide +kernel
theorem dX12_seenLine_60 : decode cX12_seenLine 60 = .ok (.imul, 1) := by decide +kernel
theorem dX12_seenLine_61 : decode cX12_seenLine 61 = .ok (.iadd, 1) := by decide +kernel
theorem dX12_seenLine_62 : decode cX12_seenLine 62 = .ok (.iconst 1, 1) := by decide +kernel
theorem dX12_seenLine_63 : decode cX12_seenLine 63 = .ok (.iadd, 1) := by decide +kernel
theorem dX12_seenLine_64 : decode cX12_seenLine 64 = .ok (.iload_n 1, 1) := by decide +kernel
theorem dX12_seenLine_65 : decode cX12_seenLine 65 = .ok (.iconst 1, 1) := by decide +kernel
theorem dX12_seenLine_66 : decode cX12_seenLine 66 = .ok (.iadd, 1) := by decide +kernel
theorem dX12_seenLine_67 : decode cX12_seenLine 67 = .ok (.invokestatic 257, 3) := by decide +kernel
theorem dX12_seenLine_70 : decode cX12_seenLine 70 = .ok (.ifCond .eq 12, 3) := by decide +kernel
theorem dX12_seenLine_73 : decode cX12_seenLine 73 = .ok (.aload_n 0, 1) := by decide +kernel
theorem dX12_seenLine_74 : decode cX12_seenLine 74 = .ok (.iconst 3, 1) := by decide +kernel
theorem dX12_seenLine_75 : decode cX12_seenLine 75 = .ok (.aload_n 0, 1) := by decide +kernel
theorem dX12_seenLine_76 : decode cX12_seenLine 76 = .ok (.getfield 72, 3) := by decide +kernel
theorem dX12_seenLine_79 : decode cX12_seenLine 79 = .ok (.invokevirtual 118, 3) := by decide +kernel
theorem dX12_seenLine_82 : decode cX12_seenLine 82 = .ok (.iinc 2 1, 3) := by decide +kernel
theorem dX12_seenLine_85 : decode cX12_seenLine 85 = .ok (.goto (-53), 3) := by decide +kernel
theorem dX12_seenLine_88 : decode cX12_seenLine 88 = .ok (.aload_n 0, 1) := by decide +kernel
theorem dX12_seenLine_89 : decode cX12_seenLine 89 = .ok (.getfield 91, 3) := by decide +kernel
theorem dX12_seenLine_92 : decode cX12_seenLine 92 = .ok (.ifCond .eq 4, 3) := by decide +kernel
theorem dX12_seenLine_95 : decode cX12_seenLine 95 = .ok (.return_, 1) := by decide +kernel
theorem dX12_seenLine_96 : decode cX12_seenLine 96 = .ok (.aload_n 0, 1) := by decide +kernel
theorem dX12_seenLine_97 : decode cX12_seenLine 97 = .ok (.invokevirtual 112, 3) := by decide +kernel
theorem dX12_seenLine_100 : decode cX12_seenLine 100 = .ok (.aload_n 0, 1) := by decide +kernel
theorem dX12_seenLine_101 : decode cX12_seenLine 101 = .ok (.getfield 23, 3) := by decide +kernel
theorem dX12_seenLine_104 : decode cX12_seenLine 104 = .ok (.iload_n 1, 1) := by decide +kernel
theorem dX12_seenLine_105 : decode cX12_seenLine 105 = .ok (.iconst 0, 1) := by decide +kernel
theorem dX12_seenLine_106 : decode cX12_seenLine 106 = .ok (.iastore, 1) := by decide +kernel
theorem dX12_seenLine_107 : decode cX12_seenLine 107 = .ok (.aload_n 0, 1) := by decide +kernel
theorem dX12_seenLine_108 : decode cX12_seenLine 108 = .ok (.ldc 138, 2) := by decide +kernel
theorem dX12_seenLine_110 : decode cX12_seenLine 110 = .ok (.invokevirtual 115, 3) := by decide +kernel
theorem dX12_seenLine_113 : decode cX12_seenLine 113 = .ok (.ifCond .ne 31, 3) := by decide +kernel
theorem dX12_seenLine_116 : decode cX12_seenLine 116 = .ok (.aload_n 0, 1) := by decide +kernel
theorem dX12_seenLine_117 : decode cX12_seenLine 117 = .ok (.ldc 136, 2) := by decide +kernel
theorem dX12_seenLine_119 : decode cX12_seenLine 119 = .ok (.invokevirtual 154, 3) := by decide +kernel
theorem dX12_seenLine_122 : decode cX12_seenLine 122 = .ok (.aload_n 0, 1) := by decide +kernel
theorem dX12_seenLine_123 : decode cX12_seenLine 123 = .ok (.iload_n 1, 1) := by decide +kernel
theorem dX12_seenLine_124 : decode cX12_seenLine 124 = .ok (.bipush 10, 2) := by decide +kernel
theorem dX12_seenLine_126 : decode cX12_seenLine 126 = .ok (.iadd, 1) := by decide +kernel
theorem dX12_seenLine_127 : decode cX12_seenLine 127 = .ok (.invokevirtual 252, 3) := by decide +kernel
theorem dX12_seenLine_130 : decode cX12_seenLine 130 = .ok (.aload_n 0, 1) := by decide +kernel
theorem dX12_seenLine_131 : decode cX12_seenLine 131 = .ok (.getfield 91, 3) := by decide +kernel
theorem dX12_seenLine_134 : decode cX12_seenLine 134 = .ok (.ifCond .ne 10, 3) := by decide +kernel
theorem dX12_seenLine_137 : decode cX12_seenLine 137 = .ok (.aload_n 0, 1) := by decide +kernel
theorem dX12_seenLine_138 : decode cX12_seenLine 138 = .ok (.getfield 23, 3) := by decide +kernel
theorem dX12_seenLine_141 : decode cX12_seenLine 141 = .ok (.iload_n 1, 1) := by decide +kernel
theorem dX12_seenLine_142 : decode cX12_seenLine 142 = .ok (.iconst 1, 1) := by decide +kernel
theorem dX12_seenLine_143 : decode cX12_seenLine 143 = .ok (.iastore, 1) := by decide +kernel
theorem dX12_seenLine_144 : decode cX12_seenLine 144 = .ok (.aload_n 0, 1) := by decide +kernel
theorem dX12_seenLine_145 : decode cX12_seenLine 145 = .ok (.getfield 91, 3) := by decide +kernel
theorem dX12_seenLine_148 : decode cX12_seenLine 148 = .ok (.ifCond .ne 14, 3) := by decide +kernel
theorem dX12_seenLine_151 : decode cX12_seenLine 151 = .ok (.aload_n 0, 1) := by decide +kernel
theorem dX12_seenLine_152 : decode cX12_seenLine 152 = .ok (.getfield 23, 3) := by decide +kernel
theorem dX12_seenLine_155 : decode cX12_seenLine 155 = .ok (.bipush 7, 2) := by decide +kernel
theorem dX12_seenLine_157 : decode cX12_seenLine 157 = .ok (.dup2, 1) := by decide +kernel
theorem dX12_seenLine_158 : decode cX12_seenLine 158 = .ok (.iaload, 1) := by decide +kernel
theorem dX12_seenLine_159 : decode cX12_seenLine 159 = .ok (.iconst 1, 1) := by decide +kernel
theorem dX12_seenLine_160 : decode cX12_seenLine 160 = .ok (.iadd, 1) := by decide +kernel
theorem dX12_seenLine_161 : decode cX12_seenLine 161 = .ok (.iastore, 1) := by decide +kernel
theorem dX12_seenLine_162 : decode cX12_seenLine 162 = .ok (.return_, 1) := by decide +kernel
theorem dX12_fault_0 : decode cX12_fault 0 = .ok (.aload_n 0, 1) := by decide +kernel
theorem dX12_fault_1 : decode cX12_fault 1 = .ok (.iconst 0, 1) := by decide +kernel
theorem dX12_fault_2 : decode cX12_fault 2 = .ok (.putfield 53, 3) := by decide +kernel
theorem dX12_fault_5 : decode cX12_fault 5 = .ok (.aload_n 0, 1) := by decide +kernel
theorem dX12_fault_6 : decode cX12_fault 6 = .ok (.getfield 95, 3) := by decide +kernel
theorem dX12_fault_9 : decode cX12_fault 9 = .ok (.ireturn, 1) := by decide +kernel
theorem dX12_where_0 : decode cX12_where 0 = .ok (.aload_n 0, 1) := by decide +kernel
theorem dX12_where_1 : decode cX12_where 1 = .ok (.iconst 0, 1) := by decide +kernel
theorem dX12_where_2 : decode cX12_where 2 = .ok (.putfield 53, 3) := by decide +kernel
theorem dX12_where_5 : decode cX12_where 5 = .ok (.aload_n 0, 1) := by decide +kernel
theorem dX12_where_6 : decode cX12_where 6 = .ok (.getfield 56, 3) := by decide +kernel
theorem dX12_where_9 : decode cX12_where 9 = .ok (.iconst 4, 1) := by decide +kernel
theorem dX12_where_10 : decode cX12_where 10 = .ok (.if_icmp .ne 10, 3) := by decide +kernel
theorem dX12_where_13 : decode cX12_where 13 = .ok (.aload_n 0, 1) := by decide +kernel
theorem dX12_where_14 : decode cX12_where 14 = .ok (.getfield 13, 3) := by decide +kernel
theorem dX12_where_17 : decode cX12_where 17 = .ok (.goto 4, 3) := by decide +kernel
theorem dX12_where_20 : decode cX12_where 20 = .ok (.iconst (-1), 1) := by decide +kernel
theorem dX12_where_21 : decode cX12_where 21 = .ok (.ireturn, 1) := by decide +kernel
theorem dX12_isSleeper_0 : decode cX12_isSleeper 0 = .ok (.aload_n 0, 1) := by decide +kernel
theorem dX12_isSleeper_1 : decode cX12_isSleeper 1 = .ok (.getfield 178, 3) := by decide +kernel
theorem dX12_isSleeper_4 : decode cX12_isSleeper 4 = .ok (.ifCond .eq 23, 3) := by decide +kernel
theorem dX12_isSleeper_7 : decode cX12_isSleeper 7 = .ok (.iload_n 1, 1) := by decide +kernel
theorem dX12_isSleeper_8 : decode cX12_isSleeper 8 = .ok (.iconst 0, 1) := by decide +kernel
theorem dX12_isSleeper_9 : decode cX12_isSleeper 9 = .ok (.aload_n 0, 1) := by decide +kernel
theorem dX12_isSleeper_10 : decode cX12_isSleeper 10 = .ok (.getfield 20, 3) := by decide +kernel
theorem dX12_isSleeper_13 : decode cX12_isSleeper 13 = .ok (.iconst 2, 1) := by decide +kernel
theorem dX12_isSleeper_14 : decode cX12_isSleeper 14 = .ok (.iaload, 1) := by decide +kernel
theorem dX12_isSleeper_15 : decode cX12_isSleeper 15 = .ok (.iconst 1, 1) := by decide +kernel
theorem dX12_isSleeper_16 : decode cX12_isSleeper 16 = .ok (.isub, 1) := by decide +kernel
theorem dX12_isSleeper_17 : decode cX12_isSleeper 17 = .ok (.invokestatic 146, 3) := by decide +kernel
theorem dX12_isSleeper_20 : decode cX12_isSleeper 20 = .ok (.ifCond .eq 7, 3) := by decide +kernel
theorem dX12_isSleeper_23 : decode cX12_isSleeper 23 = .ok (.iconst 1, 1) := by decide +kernel
theorem dX12_isSleeper_24 : decode cX12_isSleeper 24 = .ok (.goto 4, 3) := by decide +kernel
theorem dX12_isSleeper_27 : decode cX12_isSleeper 27 = .ok (.iconst 0, 1) := by decide +kernel
theorem dX12_isSleeper_28 : decode cX12_isSleeper 28 = .ok (.ireturn, 1) := by decide +kernel
theorem dX12_isAwake_0 : decode cX12_isAwake 0 = .ok (.aload_n 0, 1) := by decide +kernel
theorem dX12_isAwake_1 : decode cX12_isAwake 1 = .ok (.getfield 178, 3) := by decide +kernel
theorem dX12_isAwake_4 : decode cX12_isAwake 4 = .ok (.ifCond .eq 23, 3) := by decide +kernel
theorem dX12_isAwake_7 : decode cX12_isAwake 7 = .ok (.iload_n 1, 1) := by decide +kernel
theorem dX12_isAwake_8 : decode cX12_isAwake 8 = .ok (.iconst 0, 1) := by decide +kernel
theorem dX12_isAwake_9 : decode cX12_isAwake 9 = .ok (.aload_n 0, 1) := by decide +kernel
theorem dX12_isAwake_10 : decode cX12_isAwake 10 = .ok (.getfield 20, 3) := by decide +kernel
theorem dX12_isAwake_13 : decode cX12_isAwake 13 = .ok (.iconst 3, 1) := by decide +kernel
theorem dX12_isAwake_14 : decode cX12_isAwake 14 = .ok (.iaload, 1) := by decide +kernel
theorem dX12_isAwake_15 : decode cX12_isAwake 15 = .ok (.iconst 1, 1) := by decide +kernel
theorem dX12_isAwake_16 : decode cX12_isAwake 16 = .ok (.isub, 1) := by decide +kernel
theorem dX12_isAwake_17 : decode cX12_isAwake 17 = .ok (.invokestatic 146, 3) := by decide +kernel
theorem dX12_isAwake_20 : decode cX12_isAwake 20 = .ok (.ifCond .eq 7, 3) := by decide +kernel
theorem dX12_isAwake_23 : decode cX12_isAwake 23 = .ok (.iconst 1, 1) := by decide +kernel
theorem dX12_isAwake_24 : decode cX12_isAwake 24 = .ok (.goto 4, 3) := by decide +kernel
theorem dX12_isAwake_27 : decode cX12_isAwake 27 = .ok (.iconst 0, 1) := by decide +kernel
theorem dX12_isAwake_28 : decode cX12_isAwake 28 = .ok (.ireturn, 1) := by decide +kernel
theorem dX12_isWordThere_0 : decode cX12_isWordThere 0 = .ok (.aload_n 0, 1) := by decide +kernel
theorem dX12_isWordThere_1 : decode cX12_isWordThere 1 = .ok (.getfield 178, 3) := by decide +kernel
theorem dX12_isWordThere_4 : decode cX12_isWordThere 4 = .ok (.ifCond .eq 23, 3) := by decide +kernel
theorem dX12_isWordThere_7 : decode cX12_isWordThere 7 = .ok (.iload_n 1, 1) := by decide +kernel
theorem dX12_isWordThere_8 : decode cX12_isWordThere 8 = .ok (.iconst 0, 1) := by decide +kernel
theorem dX12_isWordThere_9 : decode cX12_isWordThere 9 = .ok (.aload_n 0, 1) := by decide +kernel
theorem dX12_isWordThere_10 : decode cX12_isWordThere 10 = .ok (.getfield 20, 3) := by decide +kernel
theorem dX12_isWordThere_13 : decode cX12_isWordThere 13 = .ok (.iconst 4, 1) := by decide +kernel
theorem dX12_isWordThere_14 : decode cX12_isWordThere 14 = .ok (.iaload, 1) := by decide +kernel
theorem dX12_isWordThere_15 : decode cX12_isWordThere 15 = .ok (.iconst 1, 1) := by decide +kernel
theorem dX12_isWordThere_16 : decode cX12_isWordThere 16 = .ok (.isub, 1) := by decide +kernel
theorem dX12_isWordThere_17 : decode cX12_isWordThere 17 = .ok (.invokestatic 146, 3) := by decide +kernel
theorem dX12_isWordThere_20 : decode cX12_isWordThere 20 = .ok (.ifCond .eq 7, 3) := by decide +kernel
theorem dX12_isWordThere_23 : decode cX12_isWordThere 23 = .ok (.iconst 1, 1) := by decide +kernel
theorem dX12_isWordThere_24 : decode cX12_isWordThere 24 = .ok (.goto 4, 3) := by decide +kernel
theorem dX12_isWordThere_27 : decode cX12_isWordThere 27 = .ok (.iconst 0, 1) := by decide +kernel
theorem dX12_isWordThere_28 : decode cX12_isWordThere 28 = .ok (.ireturn, 1) := by decide +kernel
theorem dX12_countOf_0 : decode cX12_countOf 0 = .ok (.iconst 0, 1) := by decide +kernel
theorem dX12_countOf_1 : decode cX12_countOf 1 = .ok (.istore_n 2, 1) := by decide +kernel
theorem dX12_countOf_2 : decode cX12_countOf 2 = .ok (.iconst 1, 1) := by decide +kernel
theorem dX12_countOf_3 : decode cX12_countOf 3 = .ok (.istore_n 3, 1) := by decide +kernel
theorem dX12_countOf_4 : decode cX12_countOf 4 = .ok (.iload_n 1, 1) := by decide +kernel
theorem dX12_countOf_5 : decode cX12_countOf 5 = .ok (.istore 4, 2) := by decide +kernel
theorem dX12_countOf_7 : decode cX12_countOf 7 = .ok (.iload 4, 2) := by decide +kernel
theorem dX12_countOf_9 : decode cX12_countOf 9 = .ok (.ifCond .le 50, 3) := by decide +kernel
theorem dX12_countOf_12 : decode cX12_countOf 12 = .ok (.iload 4, 2) := by decide +kernel
theorem dX12_countOf_14 : decode cX12_countOf 14 = .ok (.bipush 9, 2) := by decide +kernel
theorem dX12_countOf_16 : decode cX12_countOf 16 = .ok (.irem, 1) := by decide +kernel
theorem dX12_countOf_17 : decode cX12_countOf 17 = .ok (.istore 5, 2) := by decide +kernel
theorem dX12_countOf_19 : decode cX12_countOf 19 = .ok (.iload_n 2, 1) := by decide +kernel
theorem dX12_countOf_20 : decode cX12_countOf 20 = .ok (.iload_n 3, 1) := by decide +kernel
theorem dX12_countOf_21 : decode cX12_countOf 21 = .ok (.iload 5, 2) := by decide +kernel
theorem dX12_countOf_23 : decode cX12_countOf 23 = .ok (.aload_n 0, 1) := by decide +kernel
theorem dX12_countOf_24 : decode cX12_countOf 24 = .ok (.getfield 20, 3) := by decide +kernel
theorem dX12_countOf_27 : decode cX12_countOf 27 = .ok (.iconst 0, 1) := by decide +kernel
theorem dX12_countOf_28 : decode cX12_countOf 28 = .ok (.iaload, 1) := by decide +kernel
theorem dX12_countOf_29 : decode cX12_countOf 29 = .ok (.if_icmp .lt 10, 3) := by decide +kernel
theorem dX12_countOf_32 : decode cX12_countOf 32 = .ok (.iload 5, 2) := by decide +kernel
theorem dX12_countOf_34 : decode cX12_countOf 34 = .ok (.iconst 1, 1) := by decide +kernel
theorem dX12_countOf_35 : decode cX12_countOf 35 = .ok (.iadd, 1) := by decide +kernel
theorem dX12_countOf_36 : decode cX12_countOf 36 = .ok (.goto 5, 3) := by decide +kernel
theorem dX12_countOf_39 : decode cX12_countOf 39 = .ok (.iload 5, 2) := by decide +kernel
theorem dX12_countOf_41 : decode cX12_countOf 41 = .ok (.imul, 1) := by decide +kernel
theorem dX12_countOf_42 : decode cX12_countOf 42 = .ok (.iadd, 1) := by decide +kernel
theorem dX12_countOf_43 : decode cX12_countOf 43 = .ok (.istore_n 2, 1) := by decide +kernel
theorem dX12_countOf_44 : decode cX12_countOf 44 = .ok (.iload_n 3, 1) := by decide +kernel
theorem dX12_countOf_45 : decode cX12_countOf 45 = .ok (.bipush 10, 2) := by decide +kernel
theorem dX12_countOf_47 : decode cX12_countOf 47 = .ok (.imul, 1) := by decide +kernel
theorem dX12_countOf_48 : decode cX12_countOf 48 = .ok (.istore_n 3, 1) := by decide +kernel
theorem dX12_countOf_49 : decode cX12_countOf 49 = .ok (.iload 4, 2) := by decide +kernel
theorem dX12_countOf_51 : decode cX12_countOf 51 = .ok (.bipush 9, 2) := by decide +kernel
theorem dX12_countOf_53 : decode cX12_countOf 53 = .ok (.idiv, 1) := by decide +kernel
theorem dX12_countOf_54 : decode cX12_countOf 54 = .ok (.istore 4, 2) := by decide +kernel
theorem dX12_countOf_56 : decode cX12_countOf 56 = .ok (.goto (-49), 3) := by decide +kernel
theorem dX12_countOf_59 : decode cX12_countOf 59 = .ok (.iload_n 2, 1) := by decide +kernel
theorem dX12_countOf_60 : decode cX12_countOf 60 = .ok (.ireturn, 1) := by decide +kernel
theorem dX12_reallyOf_0 : decode cX12_reallyOf 0 = .ok (.iconst 0, 1) := by decide +kernel
theorem dX12_reallyOf_1 : decode cX12_reallyOf 1 = .ok (.istore_n 2, 1) := by decide +kernel
theorem dX12_reallyOf_2 : decode cX12_reallyOf 2 = .ok (.iconst 1, 1) := by decide +kernel
theorem dX12_reallyOf_3 : decode cX12_reallyOf 3 = .ok (.istore_n 3, 1) := by decide +kernel
theorem dX12_reallyOf_4 : decode cX12_reallyOf 4 = .ok (.iload_n 1, 1) := by decide +kernel
theorem dX12_reallyOf_5 : decode cX12_reallyOf 5 = .ok (.istore 4, 2) := by decide +kernel
theorem dX12_reallyOf_7 : decode cX12_reallyOf 7 = .ok (.iload 4, 2) := by decide +kernel
theorem dX12_reallyOf_9 : decode cX12_reallyOf 9 = .ok (.ifCond .le 64, 3) := by decide +kernel
theorem dX12_reallyOf_12 : decode cX12_reallyOf 12 = .ok (.iload 4, 2) := by decide +kernel
theorem dX12_reallyOf_14 : decode cX12_reallyOf 14 = .ok (.bipush 10, 2) := by decide +kernel
theorem dX12_reallyOf_16 : decode cX12_reallyOf 16 = .ok (.irem, 1) := by decide +kernel
theorem dX12_reallyOf_17 : decode cX12_reallyOf 17 = .ok (.istore 5, 2) := by decide +kernel
theorem dX12_reallyOf_19 : decode cX12_reallyOf 19 = .ok (.iload 5, 2) := by decide +kernel
theorem dX12_reallyOf_21 : decode cX12_reallyOf 21 = .ok (.aload_n 0, 1) := by decide +kernel
theorem dX12_reallyOf_22 : decode cX12_reallyOf 22 = .ok (.getfield 20, 3) := by decide +kernel
theorem dX12_reallyOf_25 : decode cX12_reallyOf 25 = .ok (.iconst 0, 1) := by decide +kernel
theorem dX12_reallyOf_26 : decode cX12_reallyOf 26 = .ok (.iaload, 1) := by decide +kernel
theorem dX12_reallyOf_27 : decode cX12_reallyOf 27 = .ok (.if_icmp .ne 6, 3) := by decide +kernel
theorem dX12_reallyOf_30 : decode cX12_reallyOf 30 = .ok (.bipush (-2), 2) := by decide +kernel
theorem dX12_reallyOf_32 : decode cX12_reallyOf 32 = .ok (.ireturn, 1) := by decide +kernel
theorem dX12_reallyOf_33 : decode cX12_reallyOf 33 = .ok (.iload_n 2, 1) := by decide +kernel
theorem dX12_reallyOf_34 : decode cX12_reallyOf 34 = .ok (.iload_n 3, 1) := by decide +kernel
theorem dX12_reallyOf_35 : decode cX12_reallyOf 35 = .ok (.iload 5, 2) := by decide +kernel
theorem dX12_reallyOf_37 : decode cX12_reallyOf 37 = .ok (.aload_n 0, 1) := by decide +kernel
theorem dX12_reallyOf_38 : decode cX12_reallyOf 38 = .ok (.getfield 20, 3) := by decide +kernel
theorem dX12_reallyOf_41 : decode cX12_reallyOf 41 = .ok (.iconst 0, 1) := by decide +kernel
theorem dX12_reallyOf_42 : decode cX12_reallyOf 42 = .ok (.iaload, 1) := by decide +kernel
theorem dX12_reallyOf_43 : decode cX12_reallyOf 43 = .ok (.if_icmp .le 10, 3) := by decide +kernel
theorem dX12_reallyOf_46 : decode cX12_reallyOf 46 = .ok (.iload 5, 2) := by decide +kernel
theorem dX12_reallyOf_48 : decode cX12_reallyOf 48 = .ok (.iconst 1, 1) := by decide +kernel
theorem dX12_reallyOf_49 : decode cX12_reallyOf 49 = .ok (.isub, 1) := by decide +kernel
theorem dX12_reallyOf_50 : decode cX12_reallyOf 50 = .ok (.goto 5, 3) := by decide +kernel
theorem dX12_reallyOf_53 : decode cX12_reallyOf 53 = .ok (.iload 5, 2) := by decide +kernel
theorem dX12_reallyOf_55 : decode cX12_reallyOf 55 = .ok (.imul, 1) := by decide +kernel
theorem dX12_reallyOf_56 : decode cX12_reallyOf 56 = .ok (.iadd, 1) := by decide +kernel
theorem dX12_reallyOf_57 : decode cX12_reallyOf 57 = .ok (.istore_n 2, 1) := by decide +kernel
theorem dX12_reallyOf_58 : decode cX12_reallyOf 58 = .ok (.iload_n 3, 1) := by decide +kernel
theorem dX12_reallyOf_59 : decode cX12_reallyOf 59 = .ok (.bipush 9, 2) := by decide +kernel
theorem dX12_reallyOf_61 : decode cX12_reallyOf 61 = .ok (.imul, 1) := by decide +kernel
theorem dX12_reallyOf_62 : decode cX12_reallyOf 62 = .ok (.istore_n 3, 1) := by decide +kernel
theorem dX12_reallyOf_63 : decode cX12_reallyOf 63 = .ok (.iload 4, 2) := by decide +kernel
theorem dX12_reallyOf_65 : decode cX12_reallyOf 65 = .ok (.bipush 10, 2) := by decide +kernel
theorem dX12_reallyOf_67 : decode cX12_reallyOf 67 = .ok (.idiv, 1) := by decide +kernel
theorem dX12_reallyOf_68 : decode cX12_reallyOf 68 = .ok (.istore 4, 2) := by decide +kernel
theorem dX12_reallyOf_70 : decode cX12_reallyOf 70 = .ok (.goto (-63), 3) := by decide +kernel
theorem dX12_reallyOf_73 : decode cX12_reallyOf 73 = .ok (.iload_n 2, 1) := by decide +kernel
theorem dX12_reallyOf_74 : decode cX12_reallyOf 74 = .ok (.ireturn, 1) := by decide +kernel
theorem dX12_counts_0 : decode cX12_counts 0 = .ok (.aload_n 0, 1) := by decide +kernel
theorem dX12_counts_1 : decode cX12_counts 1 = .ok (.invokevirtual 165, 3) := by decide +kernel
theorem dX12_counts_4 : decode cX12_counts 4 = .ok (.aload_n 0, 1) := by decide +kernel
theorem dX12_counts_5 : decode cX12_counts 5 = .ok (.getfield 178, 3) := by decide +kernel
theorem dX12_counts_8 : decode cX12_counts 8 = .ok (.ifCond .ne 9, 3) := by decide +kernel
theorem dX12_counts_11 : decode cX12_counts 11 = .ok (.aload_n 0, 1) := by decide +kernel
theorem dX12_counts_12 : decode cX12_counts 12 = .ok (.iconst 1, 1) := by decide +kernel
theorem dX12_counts_13 : decode cX12_counts 13 = .ok (.invokevirtual 168, 3) := by decide +kernel
theorem dX12_counts_16 : decode cX12_counts 16 = .ok (.ireturn, 1) := by decide +kernel
theorem dX12_counts_17 : decode cX12_counts 17 = .ok (.iload_n 1, 1) := by decide +kernel
theorem dX12_counts_18 : decode cX12_counts 18 = .ok (.iconst 0, 1) := by decide +kernel
theorem dX12_counts_19 : decode cX12_counts 19 = .ok (.ldc_w 261, 3) := by decide +kernel
theorem dX12_counts_22 : decode cX12_counts 22 = .ok (.invokestatic 146, 3) := by decide +kernel
theorem dX12_counts_25 : decode cX12_counts 25 = .ok (.ifCond .eq 11, 3) := by decide +kernel
theorem dX12_counts_28 : decode cX12_counts 28 = .ok (.aload_n 0, 1) := by decide +kernel
theorem dX12_counts_29 : decode cX12_counts 29 = .ok (.iload_n 1, 1) := by decide +kernel
theorem dX12_counts_30 : decode cX12_counts 30 = .ok (.invokevirtual 262, 3) := by decide +kernel
theorem dX12_counts_33 : decode cX12_counts 33 = .ok (.goto 8, 3) := by decide +kernel
theorem dX12_counts_36 : decode cX12_counts 36 = .ok (.aload_n 0, 1) := by decide +kernel
theorem dX12_counts_37 : decode cX12_counts 37 = .ok (.iconst 2, 1) := by decide +kernel
theorem dX12_counts_38 : decode cX12_counts 38 = .ok (.invokevirtual 168, 3) := by decide +kernel
theorem dX12_counts_41 : decode cX12_counts 41 = .ok (.ireturn, 1) := by decide +kernel
theorem dX12_really_0 : decode cX12_really 0 = .ok (.aload_n 0, 1) := by decide +kernel
theorem dX12_really_1 : decode cX12_really 1 = .ok (.invokevirtual 165, 3) := by decide +kernel
theorem dX12_really_4 : decode cX12_really 4 = .ok (.aload_n 0, 1) := by decide +kernel
theorem dX12_really_5 : decode cX12_really 5 = .ok (.getfield 178, 3) := by decide +kernel
theorem dX12_really_8 : decode cX12_really 8 = .ok (.ifCond .ne 9, 3) := by decide +kernel
theorem dX12_really_11 : decode cX12_really 11 = .ok (.aload_n 0, 1) := by decide +kernel
theorem dX12_really_12 : decode cX12_really 12 = .ok (.iconst 1, 1) := by decide +kernel
theorem dX12_really_13 : decode cX12_really 13 = .ok (.invokevirtual 168, 3) := by decide +kernel
theorem dX12_really_16 : decode cX12_really 16 = .ok (.ireturn, 1) := by decide +kernel
theorem dX12_really_17 : decode cX12_really 17 = .ok (.iload_n 1, 1) := by decide +kernel
theorem dX12_really_18 : decode cX12_really 18 = .ok (.iconst 0, 1) := by decide +kernel
theorem dX12_really_19 : decode cX12_really 19 = .ok (.ldc_w 265, 3) := by decide +kernel
theorem dX12_really_22 : decode cX12_really 22 = .ok (.invokestatic 146, 3) := by decide +kernel
theorem dX12_really_25 : decode cX12_really 25 = .ok (.ifCond .eq 11, 3) := by decide +kernel
theorem dX12_really_28 : decode cX12_really 28 = .ok (.aload_n 0, 1) := by decide +kernel
theorem dX12_really_29 : decode cX12_really 29 = .ok (.iload_n 1, 1) := by decide +kernel
theorem dX12_really_30 : decode cX12_really 30 = .ok (.invokevirtual 266, 3) := by decide +kernel
theorem dX12_really_33 : decode cX12_really 33 = .ok (.goto 8, 3) := by decide +kernel
theorem dX12_really_36 : decode cX12_really 36 = .ok (.aload_n 0, 1) := by decide +kernel
theorem dX12_really_37 : decode cX12_really 37 = .ok (.iconst 2, 1) := by decide +kernel
theorem dX12_really_38 : decode cX12_really 38 = .ok (.invokevirtual 168, 3) := by decide +kernel
theorem dX12_really_41 : decode cX12_really 41 = .ok (.ireturn, 1) := by decide +kernel
theorem dX12_sum_0 : decode cX12_sum 0 = .ok (.aload_n 0, 1) := by decide +kernel
theorem dX12_sum_1 : decode cX12_sum 1 = .ok (.invokevirtual 165, 3) := by decide +kernel
theorem dX12_sum_4 : decode cX12_sum 4 = .ok (.aload_n 0, 1) := by decide +kernel
theorem dX12_sum_5 : decode cX12_sum 5 = .ok (.getfield 178, 3) := by decide +kernel
theorem dX12_sum_8 : decode cX12_sum 8 = .ok (.ifCond .ne 9, 3) := by decide +kernel
theorem dX12_sum_11 : decode cX12_sum 11 = .ok (.aload_n 0, 1) := by decide +kernel
theorem dX12_sum_12 : decode cX12_sum 12 = .ok (.iconst 1, 1) := by decide +kernel
theorem dX12_sum_13 : decode cX12_sum 13 = .ok (.invokevirtual 168, 3) := by decide +kernel
theorem dX12_sum_16 : decode cX12_sum 16 = .ok (.ireturn, 1) := by decide +kernel
theorem dX12_sum_17 : decode cX12_sum 17 = .ok (.iload_n 1, 1) := by decide +kernel
theorem dX12_sum_18 : decode cX12_sum 18 = .ok (.iconst 0, 1) := by decide +kernel
theorem dX12_sum_19 : decode cX12_sum 19 = .ok (.ldc_w 261, 3) := by decide +kernel
theorem dX12_sum_22 : decode cX12_sum 22 = .ok (.invokestatic 146, 3) := by decide +kernel
theorem dX12_sum_25 : decode cX12_sum 25 = .ok (.ifCond .eq 14, 3) := by decide +kernel
theorem dX12_sum_28 : decode cX12_sum 28 = .ok (.iload_n 2, 1) := by decide +kernel
theorem dX12_sum_29 : decode cX12_sum 29 = .ok (.iconst 0, 1) := by decide +kernel
theorem dX12_sum_30 : decode cX12_sum 30 = .ok (.ldc_w 261, 3) := by decide +kernel
theorem dX12_sum_33 : decode cX12_sum 33 = .ok (.invokestatic 146, 3) := by decide +kernel
theorem dX12_sum_36 : decode cX12_sum 36 = .ok (.ifCond .ne 9, 3) := by decide +kernel
theorem dX12_sum_39 : decode cX12_sum 39 = .ok (.aload_n 0, 1) := by decide +kernel
theorem dX12_sum_40 : decode cX12_sum 40 = .ok (.iconst 2, 1) := by decide +kernel
theorem dX12_sum_41 : decode cX12_sum 41 = .ok (.invokevirtual 168, 3) := by decide +kernel
theorem dX12_sum_44 : decode cX12_sum 44 = .ok (.ireturn, 1) := by decide +kernel
theorem dX12_sum_45 : decode cX12_sum 45 = .ok (.aload_n 0, 1) := by decide +kernel
theorem dX12_sum_46 : decode cX12_sum 46 = .ok (.iload_n 1, 1) := by decide +kernel
theorem dX12_sum_47 : decode cX12_sum 47 = .ok (.invokevirtual 266, 3) := by decide +kernel
theorem dX12_sum_50 : decode cX12_sum 50 = .ok (.ifCond .lt 11, 3) := by decide +kernel
theorem dX12_sum_53 : decode cX12_sum 53 = .ok (.aload_n 0, 1) := by decide +kernel
theorem dX12_sum_54 : decode cX12_sum 54 = .ok (.iload_n 2, 1) := by decide +kernel
theorem dX12_sum_55 : decode cX12_sum 55 = .ok (.invokevirtual 266, 3) := by decide +kernel
theorem dX12_sum_58 : decode cX12_sum 58 = .ok (.ifCond .ge 8, 3) := by decide +kernel
theorem dX12_sum_61 : decode cX12_sum 61 = .ok (.bipush (-2), 2) := by decide +kernel
theorem dX12_sum_63 : decode cX12_sum 63 = .ok (.goto 18, 3) := by decide +kernel
theorem dX12_sum_66 : decode cX12_sum 66 = .ok (.aload_n 0, 1) := by decide +kernel
theorem dX12_sum_67 : decode cX12_sum 67 = .ok (.aload_n 0, 1) := by decide +kernel
theorem dX12_sum_68 : decode cX12_sum 68 = .ok (.iload_n 1, 1) := by decide +kernel
theorem dX12_sum_69 : decode cX12_sum 69 = .ok (.invokevirtual 266, 3) := by decide +kernel
theorem dX12_sum_72 : decode cX12_sum 72 = .ok (.aload_n 0, 1) := by decide +kernel
theorem dX12_sum_73 : decode cX12_sum 73 = .ok (.iload_n 2, 1) := by decide +kernel
theorem dX12_sum_74 : decode cX12_sum 74 = .ok (.invokevirtual 266, 3) := by decide +kernel
theorem dX12_sum_77 : decode cX12_sum 77 = .ok (.iadd, 1) := by decide +kernel
theorem dX12_sum_78 : decode cX12_sum 78 = .ok (.invokevirtual 262, 3) := by decide +kernel
theorem dX12_sum_81 : decode cX12_sum 81 = .ok (.ireturn, 1) := by decide +kernel
theorem dX12_kindOf_0 : decode cX12_kindOf 0 = .ok (.aload_n 0, 1) := by decide +kernel
theorem dX12_kindOf_1 : decode cX12_kindOf 1 = .ok (.getfield 20, 3) := by decide +kernel
theorem dX12_kindOf_4 : decode cX12_kindOf 4 = .ok (.bipush 8, 2) := by decide +kernel
theorem dX12_kindOf_6 : decode cX12_kindOf 6 = .ok (.iconst 3, 1) := by decide +kernel
theorem dX12_kindOf_7 : decode cX12_kindOf 7 = .ok (.iload_n 1, 1) := by decide +kernel
theorem dX12_kindOf_8 : decode cX12_kindOf 8 = .ok (.imul, 1) := by decide +kernel
theorem dX12_kindOf_9 : decode cX12_kindOf 9 = .ok (.iadd, 1) := by decide +kernel
theorem dX12_kindOf_10 : decode cX12_kindOf 10 = .ok (.iaload, 1) := by decide +kernel
theorem dX12_kindOf_11 : decode cX12_kindOf 11 = .ok (.ireturn, 1) := by decide +kernel
theorem dX12_frailOf_0 : decode cX12_frailOf 0 = .ok (.aload_n 0, 1) := by decide +kernel
theorem dX12_frailOf_1 : decode cX12_frailOf 1 = .ok (.getfield 20, 3) := by decide +kernel
theorem dX12_frailOf_4 : decode cX12_frailOf 4 = .ok (.bipush 8, 2) := by decide +kernel
theorem dX12_frailOf_6 : decode cX12_frailOf 6 = .ok (.iconst 3, 1) := by decide +kernel
theorem dX12_frailOf_7 : decode cX12_frailOf 7 = .ok (.iload_n 1, 1) := by decide +kernel
theorem dX12_frailOf_8 : decode cX12_frailOf 8 = .ok (.imul, 1) := by decide +kernel
theorem dX12_frailOf_9 : decode cX12_frailOf 9 = .ok (.iadd, 1) := by decide +kernel
theorem dX12_frailOf_10 : decode cX12_frailOf 10 = .ok (.iconst 2, 1) := by decide +kernel
theorem dX12_frailOf_11 : decode cX12_frailOf 11 = .ok (.iadd, 1) := by decide +kernel
theorem dX12_frailOf_12 : decode cX12_frailOf 12 = .ok (.iaload, 1) := by decide +kernel
theorem dX12_frailOf_13 : decode cX12_frailOf 13 = .ok (.istore_n 2, 1) := by decide +kernel
theorem dX12_frailOf_14 : decode cX12_frailOf 14 = .ok (.aload_n 0, 1) := by decide +kernel
theorem dX12_frailOf_15 : decode cX12_frailOf 15 = .ok (.iload_n 1, 1) := by decide +kernel
theorem dX12_frailOf_16 : decode cX12_frailOf 16 = .ok (.invokevirtual 269, 3) := by decide +kernel
theorem dX12_frailOf_19 : decode cX12_frailOf 19 = .ok (.iconst 1, 1) := by decide +kernel
theorem dX12_frailOf_20 : decode cX12_frailOf 20 = .ok (.if_icmp .ne 9, 3) := by decide +kernel
theorem dX12_frailOf_23 : decode cX12_frailOf 23 = .ok (.iconst 2, 1) := by decide +kernel
theorem dX12_frailOf_24 : decode cX12_frailOf 24 = .ok (.iload_n 2, 1) := by decide +kernel
theorem dX12_frailOf_25 : decode cX12_frailOf 25 = .ok (.imul, 1) := by decide +kernel
theorem dX12_frailOf_26 : decode cX12_frailOf 26 = .ok (.goto 19, 3) := by decide +kernel
theorem dX12_frailOf_29 : decode cX12_frailOf 29 = .ok (.aload_n 0, 1) := by decide +kernel
theorem dX12_frailOf_30 : decode cX12_frailOf 30 = .ok (.iload_n 1, 1) := by decide +kernel
theorem dX12_frailOf_31 : decode cX12_frailOf 31 = .ok (.invokevirtual 269, 3) := by decide +kernel
theorem dX12_frailOf_34 : decode cX12_frailOf 34 = .ok (.iconst 2, 1) := by decide +kernel
theorem dX12_frailOf_35 : decode cX12_frailOf 35 = .ok (.if_icmp .ne 9, 3) := by decide +kernel
theorem dX12_frailOf_38 : decode cX12_frailOf 38 = .ok (.iload_n 2, 1) := by decide +kernel
theorem dX12_frailOf_39 : decode cX12_frailOf 39 = .ok (.iconst 2, 1) := by decide +kernel
theorem dX12_frailOf_40 : decode cX12_frailOf 40 = .ok (.idiv, 1) := by decide +kernel
theorem dX12_frailOf_41 : decode cX12_frailOf 41 = .ok (.goto 4, 3) := by decide +kernel
theorem dX12_frailOf_44 : decode cX12_frailOf 44 = .ok (.iload_n 2, 1) := by decide +kernel
theorem dX12_frailOf_45 : decode cX12_frailOf 45 = .ok (.ireturn, 1) := by decide +kernel
theorem dX12_canReach_0 : decode cX12_canReach 0 = .ok (.aload_n 0, 1) := by decide +kernel
theorem dX12_canReach_1 : decode cX12_canReach 1 = .ok (.getfield 20, 3) := by decide +kernel
theorem dX12_canReach_4 : decode cX12_canReach 4 = .ok (.bipush 29, 2) := by decide +kernel
theorem dX12_canReach_6 : decode cX12_canReach 6 = .ok (.iconst 3, 1) := by decide +kernel
theorem dX12_canReach_7 : decode cX12_canReach 7 = .ok (.iload_n 1, 1) := by decide +kernel
theorem dX12_canReach_8 : decode cX12_canReach 8 = .ok (.imul, 1) := by decide +kernel
theorem dX12_canReach_9 : decode cX12_canReach 9 = .ok (.iadd, 1) := by decide +kernel
theorem dX12_canReach_10 : decode cX12_canReach 10 = .ok (.iaload, 1) := by decide +kernel
theorem dX12_canReach_11 : decode cX12_canReach 11 = .ok (.aload_n 0, 1) := by decide +kernel
theorem dX12_canReach_12 : decode cX12_canReach 12 = .ok (.getfield 20, 3) := by decide +kernel
theorem dX12_canReach_15 : decode cX12_canReach 15 = .ok (.bipush 8, 2) := by decide +kernel
theorem dX12_canReach_17 : decode cX12_canReach 17 = .ok (.iconst 3, 1) := by decide +kernel
theorem dX12_canReach_18 : decode cX12_canReach 18 = .ok (.iload_n 2, 1) := by decide +kernel
theorem dX12_canReach_19 : decode cX12_canReach 19 = .ok (.imul, 1) := by decide +kernel
theorem dX12_canReach_20 : decode cX12_canReach 20 = .ok (.iadd, 1) := by decide +kernel
theorem dX12_canReach_21 : decode cX12_canReach 21 = .ok (.iconst 1, 1) := by decide +kernel
theorem dX12_canReach_22 : decode cX12_canReach 22 = .ok (.iadd, 1) := by decide +kernel
theorem dX12_canReach_23 : decode cX12_canReach 23 = .ok (.iaload, 1) := by decide +kernel
theorem dX12_canReach_24 : decode cX12_canReach 24 = .ok (.isub, 1) := by decide +kernel
theorem dX12_canReach_25 : decode cX12_canReach 25 = .ok (.istore_n 3, 1) := by decide +kernel
theorem dX12_canReach_26 : decode cX12_canReach 26 = .ok (.iload_n 3, 1) := by decide +kernel
theorem dX12_canReach_27 : decode cX12_canReach 27 = .ok (.ifCond .ge 8, 3) := by decide +kernel
theorem dX12_canReach_30 : decode cX12_canReach 30 = .ok (.iload_n 3, 1) := by decide +kernel
theorem dX12_canReach_31 : decode cX12_canReach 31 = .ok (.ineg, 1) := by decide +kernel
theorem dX12_canReach_32 : decode cX12_canReach 32 = .ok (.goto 4, 3) := by decide +kernel
theorem dX12_canReach_35 : decode cX12_canReach 35 = .ok (.iload_n 3, 1) := by decide +kernel
theorem dX12_canReach_36 : decode cX12_canReach 36 = .ok (.aload_n 0, 1) := by decide +kernel
theorem dX12_canReach_37 : decode cX12_canReach 37 = .ok (.getfield 20, 3) := by decide +kernel
theorem dX12_canReach_40 : decode cX12_canReach 40 = .ok (.bipush 29, 2) := by decide +kernel
theorem dX12_canReach_42 : decode cX12_canReach 42 = .ok (.iconst 3, 1) := by decide +kernel
theorem dX12_canReach_43 : decode cX12_canReach 43 = .ok (.iload_n 1, 1) := by decide +kernel
theorem dX12_canReach_44 : decode cX12_canReach 44 = .ok (.imul, 1) := by decide +kernel
theorem dX12_canReach_45 : decode cX12_canReach 45 = .ok (.iadd, 1) := by decide +kernel
theorem dX12_canReach_46 : decode cX12_canReach 46 = .ok (.iconst 2, 1) := by decide +kernel
theorem dX12_canReach_47 : decode cX12_canReach 47 = .ok (.iadd, 1) := by decide +kernel
theorem dX12_canReach_48 : decode cX12_canReach 48 = .ok (.iaload, 1) := by decide +kernel
theorem dX12_canReach_49 : decode cX12_canReach 49 = .ok (.if_icmp .gt 7, 3) := by decide +kernel
theorem dX12_canReach_52 : decode cX12_canReach 52 = .ok (.iconst 1, 1) := by decide +kernel
theorem dX12_canReach_53 : decode cX12_canReach 53 = .ok (.goto 4, 3) := by decide +kernel
theorem dX12_canReach_56 : decode cX12_canReach 56 = .ok (.iconst 0, 1) := by decide +kernel
theorem dX12_canReach_57 : decode cX12_canReach 57 = .ok (.ireturn, 1) := by decide +kernel
theorem dX12_harmBy_0 : decode cX12_harmBy 0 = .ok (.aload_n 1, 1) := by decide +kernel
theorem dX12_harmBy_1 : decode cX12_harmBy 1 = .ok (.iload_n 2, 1) := by decide +kernel
theorem dX12_harmBy_2 : decode cX12_harmBy 2 = .ok (.iload_n 3, 1) := by decide +kernel
theorem dX12_harmBy_3 : decode cX12_harmBy 3 = .ok (.iadd, 1) := by decide +kernel
theorem dX12_harmBy_4 : decode cX12_harmBy 4 = .ok (.iaload, 1) := by decide +kernel
theorem dX12_harmBy_5 : decode cX12_harmBy 5 = .ok (.ifCond .le 5, 3) := by decide +kernel
theorem dX12_harmBy_8 : decode cX12_harmBy 8 = .ok (.iconst 0, 1) := by decide +kernel
theorem dX12_harmBy_9 : decode cX12_harmBy 9 = .ok (.ireturn, 1) := by decide +kernel
theorem dX12_harmBy_10 : decode cX12_harmBy 10 = .ok (.iconst 0, 1) := by decide +kernel
theorem dX12_harmBy_11 : decode cX12_harmBy 11 = .ok (.istore 4, 2) := by decide +kernel
theorem dX12_harmBy_13 : decode cX12_harmBy 13 = .ok (.iconst 0, 1) := by decide +kernel
theorem dX12_harmBy_14 : decode cX12_harmBy 14 = .ok (.istore 5, 2) := by decide +kernel
theorem dX12_harmBy_16 : decode cX12_harmBy 16 = .ok (.iload 5, 2) := by decide +kernel
theorem dX12_harmBy_18 : decode cX12_harmBy 18 = .ok (.aload_n 0, 1) := by decide +kernel
theorem dX12_harmBy_19 : decode cX12_harmBy 19 = .ok (.getfield 20, 3) := by decide +kernel
theorem dX12_harmBy_22 : decode cX12_harmBy 22 = .ok (.iconst 2, 1) := by decide +kernel
theorem dX12_harmBy_23 : decode cX12_harmBy 23 = .ok (.iaload, 1) := by decide +kernel
theorem dX12_harmBy_24 : decode cX12_harmBy 24 = .ok (.if_icmp .ge 49, 3) := by decide +kernel
theorem dX12_harmBy_27 : decode cX12_harmBy 27 = .ok (.iload 4, 2) := by decide +kernel
theorem dX12_harmBy_29 : decode cX12_harmBy 29 = .ok (.ifCond .ne 31, 3) := by decide +kernel
theorem dX12_harmBy_32 : decode cX12_harmBy 32 = .ok (.aload_n 0, 1) := by decide +kernel
theorem dX12_harmBy_33 : decode cX12_harmBy 33 = .ok (.iload_n 3, 1) := by decide +kernel
theorem dX12_harmBy_34 : decode cX12_harmBy 34 = .ok (.invokevirtual 269, 3) := by decide +kernel
theorem dX12_harmBy_37 : decode cX12_harmBy 37 = .ok (.iconst 3, 1) := by decide +kernel
theorem dX12_harmBy_38 : decode cX12_harmBy 38 = .ok (.if_icmp .ne 26, 3) := by decide +kernel
theorem dX12_harmBy_41 : decode cX12_harmBy 41 = .ok (.aload_n 0, 1) := by decide +kernel
theorem dX12_harmBy_42 : decode cX12_harmBy 42 = .ok (.iload 5, 2) := by decide +kernel
theorem dX12_harmBy_44 : decode cX12_harmBy 44 = .ok (.invokevirtual 269, 3) := by decide +kernel
theorem dX12_harmBy_47 : decode cX12_harmBy 47 = .ok (.iconst 3, 1) := by decide +kernel
theorem dX12_harmBy_48 : decode cX12_harmBy 48 = .ok (.if_icmp .ne 16, 3) := by decide +kernel
theorem dX12_harmBy_51 : decode cX12_harmBy 51 = .ok (.aload_n 1, 1) := by decide +kernel
theorem dX12_harmBy_52 : decode cX12_harmBy 52 = .ok (.iload_n 2, 1) := by decide +kernel
theorem dX12_harmBy_53 : decode cX12_harmBy 53 = .ok (.iload 5, 2) := by decide +kernel
theorem dX12_harmBy_55 : decode cX12_harmBy 55 = .ok (.iadd, 1) := by decide +kernel
theorem dX12_harmBy_56 : decode cX12_harmBy 56 = .ok (.iaload, 1) := by decide +kernel
theorem dX12_harmBy_57 : decode cX12_harmBy 57 = .ok (.ifCond .le 7, 3) := by decide +kernel
theorem dX12_harmBy_60 : decode cX12_harmBy 60 = .ok (.iconst 1, 1) := by decide +kernel
theorem dX12_harmBy_61 : decode cX12_harmBy 61 = .ok (.goto 4, 3) := by decide +kernel
theorem dX12_harmBy_64 : decode cX12_harmBy 64 = .ok (.iconst 0, 1) := by decide +kernel
theorem dX12_harmBy_65 : decode cX12_harmBy 65 = .ok (.istore 4, 2) := by decide +kernel
theorem dX12_harmBy_67 : decode cX12_harmBy 67 = .ok (.iinc 5 1, 3) := by decide +kernel
theorem dX12_harmBy_70 : decode cX12_harmBy 70 = .ok (.goto (-54), 3) := by decide +kernel
theorem dX12_harmBy_73 : decode cX12_harmBy 73 = .ok (.iload 4, 2) := by decide +kernel
theorem dX12_harmBy_75 : decode cX12_harmBy 75 = .ok (.ifCond .eq 7, 3) := by decide +kernel
theorem dX12_harmBy_78 : decode cX12_harmBy 78 = .ok (.iconst 0, 1) := by decide +kernel
theorem dX12_harmBy_79 : decode cX12_harmBy 79 = .ok (.goto 8, 3) := by decide +kernel
theorem dX12_harmBy_82 : decode cX12_harmBy 82 = .ok (.aload_n 0, 1) := by decide +kernel
theorem dX12_harmBy_83 : decode cX12_harmBy 83 = .ok (.iload_n 3, 1) := by decide +kernel
theorem dX12_harmBy_84 : decode cX12_harmBy 84 = .ok (.invokevirtual 272, 3) := by decide +kernel
theorem dX12_harmBy_87 : decode cX12_harmBy 87 = .ok (.ireturn, 1) := by decide +kernel
theorem dX12_tendedOf_0 : decode cX12_tendedOf 0 = .ok (.iconst 0, 1) := by decide +kernel
theorem dX12_tendedOf_1 : decode cX12_tendedOf 1 = .ok (.istore_n 2, 1) := by decide +kernel
theorem dX12_tendedOf_2 : decode cX12_tendedOf 2 = .ok (.iconst 0, 1) := by decide +kernel
theorem dX12_tendedOf_3 : decode cX12_tendedOf 3 = .ok (.istore_n 3, 1) := by decide +kernel
theorem dX12_tendedOf_4 : decode cX12_tendedOf 4 = .ok (.iload_n 3, 1) := by decide +kernel
theorem dX12_tendedOf_5 : decode cX12_tendedOf 5 = .ok (.aload_n 0, 1) := by decide +kernel
theorem dX12_tendedOf_6 : decode cX12_tendedOf 6 = .ok (.getfield 20, 3) := by decide +kernel
theorem dX12_tendedOf_9 : decode cX12_tendedOf 9 = .ok (.iconst 2, 1) := by decide +kernel
theorem dX12_tendedOf_10 : decode cX12_tendedOf 10 = .ok (.iaload, 1) := by decide +kernel
theorem dX12_tendedOf_11 : decode cX12_tendedOf 11 = .ok (.if_icmp .ge 34, 3) := by decide +kernel
theorem dX12_tendedOf_14 : decode cX12_tendedOf 14 = .ok (.iload_n 2, 1) := by decide +kernel
theorem dX12_tendedOf_15 : decode cX12_tendedOf 15 = .ok (.aload_n 0, 1) := by decide +kernel
theorem dX12_tendedOf_16 : decode cX12_tendedOf 16 = .ok (.getfield 26, 3) := by decide +kernel
theorem dX12_tendedOf_19 : decode cX12_tendedOf 19 = .ok (.bipush 7, 2) := by decide +kernel
theorem dX12_tendedOf_21 : decode cX12_tendedOf 21 = .ok (.iload_n 3, 1) := by decide +kernel
theorem dX12_tendedOf_22 : decode cX12_tendedOf 22 = .ok (.iadd, 1) := by decide +kernel
theorem dX12_tendedOf_23 : decode cX12_tendedOf 23 = .ok (.iaload, 1) := by decide +kernel
theorem dX12_tendedOf_24 : decode cX12_tendedOf 24 = .ok (.iload_n 1, 1) := by decide +kernel
theorem dX12_tendedOf_25 : decode cX12_tendedOf 25 = .ok (.iconst 1, 1) := by decide +kernel
theorem dX12_tendedOf_26 : decode cX12_tendedOf 26 = .ok (.iadd, 1) := by decide +kernel
theorem dX12_tendedOf_27 : decode cX12_tendedOf 27 = .ok (.if_icmp .ne 9, 3) := by decide +kernel
theorem dX12_tendedOf_30 : decode cX12_tendedOf 30 = .ok (.iconst 1, 1) := by decide +kernel
theorem dX12_tendedOf_31 : decode cX12_tendedOf 31 = .ok (.iload_n 3, 1) := by decide +kernel
theorem dX12_tendedOf_32 : decode cX12_tendedOf 32 = .ok (.ishl, 1) := by decide +kernel
theorem dX12_tendedOf_33 : decode cX12_tendedOf 33 = .ok (.goto 4, 3) := by decide +kernel
theorem dX12_tendedOf_36 : decode cX12_tendedOf 36 = .ok (.iconst 0, 1) := by decide +kernel
theorem dX12_tendedOf_37 : decode cX12_tendedOf 37 = .ok (.ior, 1) := by decide +kernel
theorem dX12_tendedOf_38 : decode cX12_tendedOf 38 = .ok (.istore_n 2, 1) := by decide +kernel
theorem dX12_tendedOf_39 : decode cX12_tendedOf 39 = .ok (.iinc 3 1, 3) := by decide +kernel
theorem dX12_tendedOf_42 : decode cX12_tendedOf 42 = .ok (.goto (-38), 3) := by decide +kernel
theorem dX12_tendedOf_45 : decode cX12_tendedOf 45 = .ok (.iload_n 2, 1) := by decide +kernel
theorem dX12_tendedOf_46 : decode cX12_tendedOf 46 = .ok (.ireturn, 1) := by decide +kernel
theorem dX12_sleeper_0 : decode cX12_sleeper 0 = .ok (.aload_n 0, 1) := by decide +kernel
theorem dX12_sleeper_1 : decode cX12_sleeper 1 = .ok (.invokevirtual 165, 3) := by decide +kernel
theorem dX12_sleeper_4 : decode cX12_sleeper 4 = .ok (.aload_n 0, 1) := by decide +kernel
theorem dX12_sleeper_5 : decode cX12_sleeper 5 = .ok (.iload_n 1, 1) := by decide +kernel
theorem dX12_sleeper_6 : decode cX12_sleeper 6 = .ok (.invokevirtual 275, 3) := by decide +kernel
theorem dX12_sleeper_9 : decode cX12_sleeper 9 = .ok (.ifCond .eq 12, 3) := by decide +kernel
theorem dX12_sleeper_12 : decode cX12_sleeper 12 = .ok (.iload_n 2, 1) := by decide +kernel
theorem dX12_sleeper_13 : decode cX12_sleeper 13 = .ok (.iconst 0, 1) := by decide +kernel
theorem dX12_sleeper_14 : decode cX12_sleeper 14 = .ok (.iconst 5, 1) := by decide +kernel
theorem dX12_sleeper_15 : decode cX12_sleeper 15 = .ok (.invokestatic 146, 3) := by decide +kernel
theorem dX12_sleeper_18 : decode cX12_sleeper 18 = .ok (.ifCond .ne 9, 3) := by decide +kernel
theorem dX12_sleeper_21 : decode cX12_sleeper 21 = .ok (.aload_n 0, 1) := by decide +kernel
theorem dX12_sleeper_22 : decode cX12_sleeper 22 = .ok (.iconst 1, 1) := by decide +kernel
theorem dX12_sleeper_23 : decode cX12_sleeper 23 = .ok (.invokevirtual 168, 3) := by decide +kernel
theorem dX12_sleeper_26 : decode cX12_sleeper 26 = .ok (.ireturn, 1) := by decide +kernel
theorem dX12_sleeper_27 : decode cX12_sleeper 27 = .ok (.iload_n 2, 1) := by decide +kernel
theorem dX12_sleeper_28 : decode cX12_sleeper 28 = .ok (.iconst 3, 1) := by decide +kernel
theorem dX12_sleeper_29 : decode cX12_sleeper 29 = .ok (.if_icmp .ge 17, 3) := by decide +kernel
theorem dX12_sleeper_32 : decode cX12_sleeper 32 = .ok (.aload_n 0, 1) := by decide +kernel
theorem dX12_sleeper_33 : decode cX12_sleeper 33 = .ok (.getfield 20, 3) := by decide +kernel
theorem dX12_sleeper_36 : decode cX12_sleeper 36 = .ok (.bipush 8, 2) := by decide +kernel
theorem dX12_sleeper_38 : decode cX12_sleeper 38 = .ok (.iconst 3, 1) := by decide +kernel
theorem dX12_sleeper_39 : decode cX12_sleeper 39 = .ok (.iload_n 1, 1) := by decide +kernel
theorem dX12_sleeper_40 : decode cX12_sleeper 40 = .ok (.imul, 1) := by decide +kernel
theorem dX12_sleeper_41 : decode cX12_sleeper 41 = .ok (.iadd, 1) := by decide +kernel
theorem dX12_sleeper_42 : decode cX12_sleeper 42 = .ok (.iload_n 2, 1) := by decide +kernel
theorem dX12_sleeper_43 : decode cX12_sleeper 43 = .ok (.iadd, 1) := by decide +kernel
theorem dX12_sleeper_44 : decode cX12_sleeper 44 = .ok (.iaload, 1) := by decide +kernel
theorem dX12_sleeper_45 : decode cX12_sleeper 45 = .ok (.ireturn, 1) := by decide +kernel
theorem dX12_sleeper_46 : decode cX12_sleeper 46 = .ok (.iload_n 2, 1) := by decide +kernel
theorem dX12_sleeper_47 : decode cX12_sleeper 47 = .ok (.iconst 3, 1) := by decide +kernel
theorem dX12_sleeper_48 : decode cX12_sleeper 48 = .ok (.if_icmp .ne 10, 3) := by decide +kernel
theorem dX12_sleeper_51 : decode cX12_sleeper 51 = .ok (.aload_n 0, 1) := by decide +kernel
theorem dX12_sleeper_52 : decode cX12_sleeper 52 = .ok (.getfield 26, 3) := by decide +kernel
theorem dX12_sleeper_55 : decode cX12_sleeper 55 = .ok (.iload_n 1, 1) := by decide +kernel
theorem dX12_sleeper_56 : decode cX12_sleeper 56 = .ok (.iaload, 1) := by decide +kernel
theorem dX12_sleeper_57 : decode cX12_sleeper 57 = .ok (.ireturn, 1) := by decide +kernel
theorem dX12_sleeper_58 : decode cX12_sleeper 58 = .ok (.iload_n 2, 1) := by decide +kernel
theorem dX12_sleeper_59 : decode cX12_sleeper 59 = .ok (.iconst 4, 1) := by decide +kernel
theorem dX12_sleeper_60 : decode cX12_sleeper 60 = .ok (.if_icmp .ne 32, 3) := by decide +kernel
theorem dX12_sleeper_63 : decode cX12_sleeper 63 = .ok (.aload_n 0, 1) := by decide +kernel
theorem dX12_sleeper_64 : decode cX12_sleeper 64 = .ok (.getfield 26, 3) := by decide +kernel
theorem dX12_sleeper_67 : decode cX12_sleeper 67 = .ok (.bipush 7, 2) := by decide +kernel
theorem dX12_sleeper_69 : decode cX12_sleeper 69 = .ok (.iload_n 1, 1) := by decide +kernel
theorem dX12_sleeper_70 : decode cX12_sleeper 70 = .ok (.iadd, 1) := by decide +kernel
theorem dX12_sleeper_71 : decode cX12_sleeper 71 = .ok (.iaload, 1) := by decide +kernel
theorem dX12_sleeper_72 : decode cX12_sleeper 72 = .ok (.ifCond .ne 8, 3) := by decide +kernel
theorem dX12_sleeper_75 : decode cX12_sleeper 75 = .ok (.bipush (-2), 2) := by decide +kernel
theorem dX12_sleeper_77 : decode cX12_sleeper 77 = .ok (.goto 14, 3) := by decide +kernel
theorem dX12_sleeper_80 : decode cX12_sleeper 80 = .ok (.aload_n 0, 1) := by decide +kernel
theorem dX12_sleeper_81 : decode cX12_sleeper 81 = .ok (.getfield 26, 3) := by decide +kernel
theorem dX12_sleeper_84 : decode cX12_sleeper 84 = .ok (.bipush 7, 2) := by decide +kernel
theorem dX12_sleeper_86 : decode cX12_sleeper 86 = .ok (.iload_n 1, 1) := by decide +kernel
theorem dX12_sleeper_87 : decode cX12_sleeper 87 = .ok (.iadd, 1) := by decide +kernel
theorem dX12_sleeper_88 : decode cX12_sleeper 88 = .ok (.iaload, 1) := by decide +kernel
theorem dX12_sleeper_89 : decode cX12_sleeper 89 = .ok (.iconst 1, 1) := by decide +kernel
theorem dX12_sleeper_90 : decode cX12_sleeper 90 = .ok (.isub, 1) := by decide +kernel
theorem dX12_sleeper_91 : decode cX12_sleeper 91 = .ok (.ireturn, 1) := by decide +kernel
theorem dX12_sleeper_92 : decode cX12_sleeper 92 = .ok (.iconst 0, 1) := by decide +kernel
theorem dX12_sleeper_93 : decode cX12_sleeper 93 = .ok (.istore_n 3, 1) := by decide +kernel
theorem dX12_sleeper_94 : decode cX12_sleeper 94 = .ok (.iconst 0, 1) := by decide +kernel
theorem dX12_sleeper_95 : decode cX12_sleeper 95 = .ok (.istore 4, 2) := by decide +kernel
theorem dX12_sleeper_97 : decode cX12_sleeper 97 = .ok (.iload 4, 2) := by decide +kernel
theorem dX12_sleeper_99 : decode cX12_sleeper 99 = .ok (.aload_n 0, 1) := by decide +kernel
theorem dX12_sleeper_100 : decode cX12_sleeper 100 = .ok (.getfield 20, 3) := by decide +kernel
theorem dX12_sleeper_103 : decode cX12_sleeper 103 = .ok (.iconst 3, 1) := by decide +kernel
theorem dX12_sleeper_104 : decode cX12_sleeper 104 = .ok (.iaload, 1) := by decide +kernel
theorem dX12_sleeper_105 : decode cX12_sleeper 105 = .ok (.if_icmp .ge 30, 3) := by decide +kernel
theorem dX12_sleeper_108 : decode cX12_sleeper 108 = .ok (.iload_n 3, 1) := by decide +kernel
theorem dX12_sleeper_109 : decode cX12_sleeper 109 = .ok (.aload_n 0, 1) := by decide +kernel
theorem dX12_sleeper_110 : decode cX12_sleeper 110 = .ok (.iload 4, 2) := by decide +kernel
theorem dX12_sleeper_112 : decode cX12_sleeper 112 = .ok (.iload_n 1, 1) := by decide +kernel
theorem dX12_sleeper_113 : decode cX12_sleeper 113 = .ok (.invokevirtual 278, 3) := by decide +kernel
theorem dX12_sleeper_116 : decode cX12_sleeper 116 = .ok (.ifCond .eq 10, 3) := by decide +kernel
theorem dX12_sleeper_119 : decode cX12_sleeper 119 = .ok (.iconst 1, 1) := by decide +kernel
theorem dX12_sleeper_120 : decode cX12_sleeper 120 = .ok (.iload 4, 2) := by decide +kernel
theorem dX12_sleeper_122 : decode cX12_sleeper 122 = .ok (.ishl, 1) := by decide +kernel
theorem dX12_sleeper_123 : decode cX12_sleeper 123 = .ok (.goto 4, 3) := by decide +kernel
theorem dX12_sleeper_126 : decode cX12_sleeper 126 = .ok (.iconst 0, 1) := by decide +kernel
theorem dX12_sleeper_127 : decode cX12_sleeper 127 = .ok (.ior, 1) := by decide +kernel
theorem dX12_sleeper_128 : decode cX12_sleeper 128 = .ok (.istore_n 3, 1) := by decide +kernel
theorem dX12_sleeper_129 : decode cX12_sleeper 129 = .ok (.iinc 4 1, 3) := by decide +kernel
theorem dX12_sleeper_132 : decode cX12_sleeper 132 = .ok (.goto (-35), 3) := by decide +kernel
theorem dX12_sleeper_135 : decode cX12_sleeper 135 = .ok (.iload_n 3, 1) := by decide +kernel
theorem dX12_sleeper_136 : decode cX12_sleeper 136 = .ok (.ireturn, 1) := by decide +kernel
theorem dX12_awake_0 : decode cX12_awake 0 = .ok (.aload_n 0, 1) := by decide +kernel
theorem dX12_awake_1 : decode cX12_awake 1 = .ok (.invokevirtual 165, 3) := by decide +kernel
theorem dX12_awake_4 : decode cX12_awake 4 = .ok (.aload_n 0, 1) := by decide +kernel
theorem dX12_awake_5 : decode cX12_awake 5 = .ok (.iload_n 1, 1) := by decide +kernel
theorem dX12_awake_6 : decode cX12_awake 6 = .ok (.invokevirtual 281, 3) := by decide +kernel
theorem dX12_awake_9 : decode cX12_awake 9 = .ok (.ifCond .eq 12, 3) := by decide +kernel
theorem dX12_awake_12 : decode cX12_awake 12 = .ok (.iload_n 2, 1) := by decide +kernel
theorem dX12_awake_13 : decode cX12_awake 13 = .ok (.iconst 0, 1) := by decide +kernel
theorem dX12_awake_14 : decode cX12_awake 14 = .ok (.iconst 4, 1) := by decide +kernel
theorem dX12_awake_15 : decode cX12_awake 15 = .ok (.invokestatic 146, 3) := by decide +kernel
theorem dX12_awake_18 : decode cX12_awake 18 = .ok (.ifCond .ne 9, 3) := by decide +kernel
theorem dX12_awake_21 : decode cX12_awake 21 = .ok (.aload_n 0, 1) := by decide +kernel
theorem dX12_awake_22 : decode cX12_awake 22 = .ok (.iconst 1, 1) := by decide +kernel
theorem dX12_awake_23 : decode cX12_awake 23 = .ok (.invokevirtual 168, 3) := by decide +kernel
theorem dX12_awake_26 : decode cX12_awake 26 = .ok (.ireturn, 1) := by decide +kernel
theorem dX12_awake_27 : decode cX12_awake 27 = .ok (.iload_n 2, 1) := by decide +kernel
theorem dX12_awake_28 : decode cX12_awake 28 = .ok (.iconst 3, 1) := by decide +kernel
theorem dX12_awake_29 : decode cX12_awake 29 = .ok (.if_icmp .ge 19, 3) := by decide +kernel
theorem dX12_awake_32 : decode cX12_awake 32 = .ok (.aload_n 0, 1) := by decide +kernel
theorem dX12_awake_33 : decode cX12_awake 33 = .ok (.getfield 20, 3) := by decide +kernel
theorem dX12_awake_36 : decode cX12_awake 36 = .ok (.bipush 29, 2) := by decide +kernel
theorem dX12_awake_38 : decode cX12_awake 38 = .ok (.iconst 3, 1) := by decide +kernel
theorem dX12_awake_39 : decode cX12_awake 39 = .ok (.iload_n 1, 1) := by decide +kernel
theorem dX12_awake_40 : decode cX12_awake 40 = .ok (.imul, 1) := by decide +kernel
theorem dX12_awake_41 : decode cX12_awake 41 = .ok (.iadd, 1) := by decide +kernel
theorem dX12_awake_42 : decode cX12_awake 42 = .ok (.iload_n 2, 1) := by decide +kernel
theorem dX12_awake_43 : decode cX12_awake 43 = .ok (.iadd, 1) := by decide +kernel
theorem dX12_awake_44 : decode cX12_awake 44 = .ok (.iaload, 1) := by decide +kernel
theorem dX12_awake_45 : decode cX12_awake 45 = .ok (.goto 38, 3) := by decide +kernel
theorem dX12_awake_48 : decode cX12_awake 48 = .ok (.iload_n 2, 1) := by decide +kernel
theorem dX12_awake_49 : decode cX12_awake 49 = .ok (.iconst 3, 1) := by decide +kernel
theorem dX12_awake_50 : decode cX12_awake 50 = .ok (.if_icmp .ne 11, 3) := by decide +kernel
theorem dX12_awake_53 : decode cX12_awake 53 = .ok (.aload_n 0, 1) := by decide +kernel
theorem dX12_awake_54 : decode cX12_awake 54 = .ok (.iload_n 1, 1) := by decide +kernel
theorem dX12_awake_55 : decode cX12_awake 55 = .ok (.invokevirtual 284, 3) := by decide +kernel
theorem dX12_awake_58 : decode cX12_awake 58 = .ok (.goto 25, 3) := by decide +kernel
theorem dX12_awake_61 : decode cX12_awake 61 = .ok (.aload_n 0, 1) := by decide +kernel
theorem dX12_awake_62 : decode cX12_awake 62 = .ok (.getfield 20, 3) := by decide +kernel
theorem dX12_awake_65 : decode cX12_awake 65 = .ok (.bipush 29, 2) := by decide +kernel
theorem dX12_awake_67 : decode cX12_awake 67 = .ok (.iconst 3, 1) := by decide +kernel
theorem dX12_awake_68 : decode cX12_awake 68 = .ok (.iload_n 1, 1) := by decide +kernel
theorem dX12_awake_69 : decode cX12_awake 69 = .ok (.imul, 1) := by decide +kernel
theorem dX12_awake_70 : decode cX12_awake 70 = .ok (.iadd, 1) := by decide +kernel
theorem dX12_awake_71 : decode cX12_awake 71 = .ok (.iconst 1, 1) := by decide +kernel
theorem dX12_awake_72 : decode cX12_awake 72 = .ok (.iadd, 1) := by decide +kernel
theorem dX12_awake_73 : decode cX12_awake 73 = .ok (.iaload, 1) := by decide +kernel
theorem dX12_awake_74 : decode cX12_awake 74 = .ok (.aload_n 0, 1) := by decide +kernel
theorem dX12_awake_75 : decode cX12_awake 75 = .ok (.iload_n 1, 1) := by decide +kernel
theorem dX12_awake_76 : decode cX12_awake 76 = .ok (.invokevirtual 284, 3) := by decide +kernel
theorem dX12_awake_79 : decode cX12_awake 79 = .ok (.invokestatic 287, 3) := by decide +kernel
theorem dX12_awake_82 : decode cX12_awake 82 = .ok (.isub, 1) := by decide +kernel
theorem dX12_awake_83 : decode cX12_awake 83 = .ok (.ireturn, 1) := by decide +kernel
theorem dX12_harmNow_0 : decode cX12_harmNow 0 = .ok (.aload_n 0, 1) := by decide +kernel
theorem dX12_harmNow_1 : decode cX12_harmNow 1 = .ok (.getfield 26, 3) := by decide +kernel
theorem dX12_harmNow_4 : decode cX12_harmNow 4 = .ok (.bipush 16, 2) := by decide +kernel
theorem dX12_harmNow_6 : decode cX12_harmNow 6 = .ok (.iaload, 1) := by decide +kernel
theorem dX12_harmNow_7 : decode cX12_harmNow 7 = .ok (.ifCond .le 7, 3) := by decide +kernel
theorem dX12_harmNow_10 : decode cX12_harmNow 10 = .ok (.iconst 0, 1) := by decide +kernel
theorem dX12_harmNow_11 : decode cX12_harmNow 11 = .ok (.goto 14, 3) := by decide +kernel
theorem dX12_harmNow_14 : decode cX12_harmNow 14 = .ok (.aload_n 0, 1) := by decide +kernel
theorem dX12_harmNow_15 : decode cX12_harmNow 15 = .ok (.aload_n 0, 1) := by decide +kernel
theorem dX12_harmNow_16 : decode cX12_harmNow 16 = .ok (.getfield 26, 3) := by decide +kernel
theorem dX12_harmNow_19 : decode cX12_harmNow 19 = .ok (.bipush 7, 2) := by decide +kernel
theorem dX12_harmNow_21 : decode cX12_harmNow 21 = .ok (.iload_n 1, 1) := by decide +kernel
theorem dX12_harmNow_22 : decode cX12_harmNow 22 = .ok (.invokevirtual 290, 3) := by decide +kernel
theorem dX12_harmNow_25 : decode cX12_harmNow 25 = .ok (.ireturn, 1) := by decide +kernel
theorem dX12_harmOf_0 : decode cX12_harmOf 0 = .ok (.aload_n 0, 1) := by decide +kernel
theorem dX12_harmOf_1 : decode cX12_harmOf 1 = .ok (.invokevirtual 165, 3) := by decide +kernel
theorem dX12_harmOf_4 : decode cX12_harmOf 4 = .ok (.aload_n 0, 1) := by decide +kernel
theorem dX12_harmOf_5 : decode cX12_harmOf 5 = .ok (.iload_n 1, 1) := by decide +kernel
theorem dX12_harmOf_6 : decode cX12_harmOf 6 = .ok (.invokevirtual 275, 3) := by decide +kernel
theorem dX12_harmOf_9 : decode cX12_harmOf 9 = .ok (.ifCond .eq 11, 3) := by decide +kernel
theorem dX12_harmOf_12 : decode cX12_harmOf 12 = .ok (.aload_n 0, 1) := by decide +kernel
theorem dX12_harmOf_13 : decode cX12_harmOf 13 = .ok (.iload_n 1, 1) := by decide +kernel
theorem dX12_harmOf_14 : decode cX12_harmOf 14 = .ok (.invokevirtual 294, 3) := by decide +kernel
theorem dX12_harmOf_17 : decode cX12_harmOf 17 = .ok (.goto 8, 3) := by decide +kernel
theorem dX12_harmOf_20 : decode cX12_harmOf 20 = .ok (.aload_n 0, 1) := by decide +kernel
theorem dX12_harmOf_21 : decode cX12_harmOf 21 = .ok (.iconst 1, 1) := by decide +kernel
theorem dX12_harmOf_22 : decode cX12_harmOf 22 = .ok (.invokevirtual 168, 3) := by decide +kernel
theorem dX12_harmOf_25 : decode cX12_harmOf 25 = .ok (.ireturn, 1) := by decide +kernel
theorem dX12_harmAll_0 : decode cX12_harmAll 0 = .ok (.iconst 0, 1) := by decide +kernel
theorem dX12_harmAll_1 : decode cX12_harmAll 1 = .ok (.istore_n 1, 1) := by decide +kernel
theorem dX12_harmAll_2 : decode cX12_harmAll 2 = .ok (.iconst 0, 1) := by decide +kernel
theorem dX12_harmAll_3 : decode cX12_harmAll 3 = .ok (.istore_n 2, 1) := by decide +kernel
theorem dX12_harmAll_4 : decode cX12_harmAll 4 = .ok (.iload_n 2, 1) := by decide +kernel
theorem dX12_harmAll_5 : decode cX12_harmAll 5 = .ok (.aload_n 0, 1) := by decide +kernel
theorem dX12_harmAll_6 : decode cX12_harmAll 6 = .ok (.getfield 20, 3) := by decide +kernel
theorem dX12_harmAll_9 : decode cX12_harmAll 9 = .ok (.iconst 2, 1) := by decide +kernel
theorem dX12_harmAll_10 : decode cX12_harmAll 10 = .ok (.iaload, 1) := by decide +kernel
theorem dX12_harmAll_11 : decode cX12_harmAll 11 = .ok (.if_icmp .ge 17, 3) := by decide +kernel
theorem dX12_harmAll_14 : decode cX12_harmAll 14 = .ok (.iload_n 1, 1) := by decide +kernel
theorem dX12_harmAll_15 : decode cX12_harmAll 15 = .ok (.aload_n 0, 1) := by decide +kernel
theorem dX12_harmAll_16 : decode cX12_harmAll 16 = .ok (.iload_n 2, 1) := by decide +kernel
theorem dX12_harmAll_17 : decode cX12_harmAll 17 = .ok (.invokevirtual 294, 3) := by decide +kernel
theorem dX12_harmAll_20 : decode cX12_harmAll 20 = .ok (.iadd, 1) := by decide +kernel
theorem dX12_harmAll_21 : decode cX12_harmAll 21 = .ok (.istore_n 1, 1) := by decide +kernel
theorem dX12_harmAll_22 : decode cX12_harmAll 22 = .ok (.iinc 2 1, 3) := by decide +kernel
theorem dX12_harmAll_25 : decode cX12_harmAll 25 = .ok (.goto (-21), 3) := by decide +kernel
theorem dX12_harmAll_28 : decode cX12_harmAll 28 = .ok (.iload_n 1, 1) := by decide +kernel
theorem dX12_harmAll_29 : decode cX12_harmAll 29 = .ok (.ireturn, 1) := by decide +kernel
theorem dX12_harm_0 : decode cX12_harm 0 = .ok (.aload_n 0, 1) := by decide +kernel
theorem dX12_harm_1 : decode cX12_harm 1 = .ok (.invokevirtual 165, 3) := by decide +kernel
theorem dX12_harm_4 : decode cX12_harm 4 = .ok (.aload_n 0, 1) := by decide +kernel
theorem dX12_harm_5 : decode cX12_harm 5 = .ok (.getfield 178, 3) := by decide +kernel
theorem dX12_harm_8 : decode cX12_harm 8 = .ok (.ifCond .eq 10, 3) := by decide +kernel
theorem dX12_harm_11 : decode cX12_harm 11 = .ok (.aload_n 0, 1) := by decide +kernel
theorem dX12_harm_12 : decode cX12_harm 12 = .ok (.invokevirtual 297, 3) := by decide +kernel
theorem dX12_harm_15 : decode cX12_harm 15 = .ok (.goto 8, 3) := by decide +kernel
theorem dX12_harm_18 : decode cX12_harm 18 = .ok (.aload_n 0, 1) := by decide +kernel
theorem dX12_harm_19 : decode cX12_harm 19 = .ok (.iconst 1, 1) := by decide +kernel
theorem dX12_harm_20 : decode cX12_harm 20 = .ok (.invokevirtual 168, 3) := by decide +kernel
theorem dX12_harm_23 : decode cX12_harm 23 = .ok (.ireturn, 1) := by decide +kernel
theorem dX12_harmed_0 : decode cX12_harmed 0 = .ok (.aload_n 0, 1) := by decide +kernel
theorem dX12_harmed_1 : decode cX12_harmed 1 = .ok (.invokevirtual 165, 3) := by decide +kernel
theorem dX12_harmed_4 : decode cX12_harmed 4 = .ok (.aload_n 0, 1) := by decide +kernel
theorem dX12_harmed_5 : decode cX12_harmed 5 = .ok (.getfield 178, 3) := by decide +kernel
theorem dX12_harmed_8 : decode cX12_harmed 8 = .ok (.ifCond .ne 9, 3) := by decide +kernel
theorem dX12_harmed_11 : decode cX12_harmed 11 = .ok (.aload_n 0, 1) := by decide +kernel
theorem dX12_harmed_12 : decode cX12_harmed 12 = .ok (.iconst 1, 1) := by decide +kernel
theorem dX12_harmed_13 : decode cX12_harmed 13 = .ok (.invokevirtual 168, 3) := by decide +kernel
theorem dX12_harmed_16 : decode cX12_harmed 16 = .ok (.ireturn, 1) := by decide +kernel
theorem dX12_harmed_17 : decode cX12_harmed 17 = .ok (.iconst 0, 1) := by decide +kernel
theorem dX12_harmed_18 : decode cX12_harmed 18 = .ok (.istore_n 1, 1) := by decide +kernel
theorem dX12_harmed_19 : decode cX12_harmed 19 = .ok (.iconst 0, 1) := by decide +kernel
theorem dX12_harmed_20 : decode cX12_harmed 20 = .ok (.istore_n 2, 1) := by decide +kernel
theorem dX12_harmed_21 : decode cX12_harmed 21 = .ok (.iload_n 2, 1) := by decide +kernel
theorem dX12_harmed_22 : decode cX12_harmed 22 = .ok (.aload_n 0, 1) := by decide +kernel
theorem dX12_harmed_23 : decode cX12_harmed 23 = .ok (.getfield 20, 3) := by decide +kernel
theorem dX12_harmed_26 : decode cX12_harmed 26 = .ok (.iconst 2, 1) := by decide +kernel
theorem dX12_harmed_27 : decode cX12_harmed 27 = .ok (.iaload, 1) := by decide +kernel
theorem dX12_harmed_28 : decode cX12_harmed 28 = .ok (.if_icmp .ge 18, 3) := by decide +kernel
theorem dX12_harmed_31 : decode cX12_harmed 31 = .ok (.iload_n 1, 1) := by decide +kernel
theorem dX12_harmed_32 : decode cX12_harmed 32 = .ok (.aload_n 0, 1) := by decide +kernel
theorem dX12_harmed_33 : decode cX12_harmed 33 = .ok (.getfield 26, 3) := by decide +kernel
theorem dX12_harmed_36 : decode cX12_harmed 36 = .ok (.iload_n 2, 1) := by decide +kernel
theorem dX12_harmed_37 : decode cX12_harmed 37 = .ok (.iaload, 1) := by decide +kernel
theorem dX12_harmed_38 : decode cX12_harmed 38 = .ok (.iadd, 1) := by decide +kernel
theorem dX12_harmed_39 : decode cX12_harmed 39 = .ok (.istore_n 1, 1) := by decide +kernel
theorem dX12_harmed_40 : decode cX12_harmed 40 = .ok (.iinc 2 1, 3) := by decide +kernel
theorem dX12_harmed_43 : decode cX12_harmed 43 = .ok (.goto (-22), 3) := by decide +kernel
theorem dX12_harmed_46 : decode cX12_harmed 46 = .ok (.iload_n 1, 1) := by decide +kernel
theorem dX12_harmed_47 : decode cX12_harmed 47 = .ok (.ireturn, 1) := by decide +kernel
theorem dX12_worst_0 : decode cX12_worst 0 = .ok (.aload_n 0, 1) := by decide +kernel
theorem dX12_worst_1 : decode cX12_worst 1 = .ok (.invokevirtual 165, 3) := by decide +kernel
theorem dX12_worst_4 : decode cX12_worst 4 = .ok (.aload_n 0, 1) := by decide +kernel
theorem dX12_worst_5 : decode cX12_worst 5 = .ok (.getfield 178, 3) := by decide +kernel
theorem dX12_worst_8 : decode cX12_worst 8 = .ok (.ifCond .ne 9, 3) := by decide +kernel
theorem dX12_worst_11 : decode cX12_worst 11 = .ok (.aload_n 0, 1) := by decide +kernel
theorem dX12_worst_12 : decode cX12_worst 12 = .ok (.iconst 1, 1) := by decide +kernel
theorem dX12_worst_13 : decode cX12_worst 13 = .ok (.invokevirtual 168, 3) := by decide +kernel
theorem dX12_worst_16 : decode cX12_worst 16 = .ok (.ireturn, 1) := by decide +kernel
theorem dX12_worst_17 : decode cX12_worst 17 = .ok (.bipush (-2), 2) := by decide +kernel
theorem dX12_worst_19 : decode cX12_worst 19 = .ok (.istore_n 1, 1) := by decide +kernel
theorem dX12_worst_20 : decode cX12_worst 20 = .ok (.iconst 0, 1) := by decide +kernel
theorem dX12_worst_21 : decode cX12_worst 21 = .ok (.istore_n 2, 1) := by decide +kernel
theorem dX12_worst_22 : decode cX12_worst 22 = .ok (.iload_n 2, 1) := by decide +kernel
theorem dX12_worst_23 : decode cX12_worst 23 = .ok (.aload_n 0, 1) := by decide +kernel
theorem dX12_worst_24 : decode cX12_worst 24 = .ok (.getfield 20, 3) := by decide +kernel
theorem dX12_worst_27 : decode cX12_worst 27 = .ok (.iconst 2, 1) := by decide +kernel
theorem dX12_worst_28 : decode cX12_worst 28 = .ok (.iaload, 1) := by decide +kernel
theorem dX12_worst_29 : decode cX12_worst 29 = .ok (.if_icmp .ge 34, 3) := by decide +kernel
theorem dX12_worst_32 : decode cX12_worst 32 = .ok (.aload_n 0, 1) := by decide +kernel
theorem dX12_worst_33 : decode cX12_worst 33 = .ok (.getfield 26, 3) := by decide +kernel
theorem dX12_worst_36 : decode cX12_worst 36 = .ok (.iload_n 2, 1) := by decide +kernel
theorem dX12_worst_37 : decode cX12_worst 37 = .ok (.iaload, 1) := by decide +kernel
theorem dX12_worst_38 : decode cX12_worst 38 = .ok (.iload_n 1, 1) := by decide +kernel
theorem dX12_worst_39 : decode cX12_worst 39 = .ok (.ifCond .ge 7, 3) := by decide +kernel
theorem dX12_worst_42 : decode cX12_worst 42 = .ok (.iconst 0, 1) := by decide +kernel
theorem dX12_worst_43 : decode cX12_worst 43 = .ok (.goto 9, 3) := by decide +kernel
theorem dX12_worst_46 : decode cX12_worst 46 = .ok (.aload_n 0, 1) := by decide +kernel
theorem dX12_worst_47 : decode cX12_worst 47 = .ok (.getfield 26, 3) := by decide +kernel
theorem dX12_worst_50 : decode cX12_worst 50 = .ok (.iload_n 1, 1) := by decide +kernel
theorem dX12_worst_51 : decode cX12_worst 51 = .ok (.iaload, 1) := by decide +kernel
theorem dX12_worst_52 : decode cX12_worst 52 = .ok (.if_icmp .le 5, 3) := by decide +kernel
theorem dX12_worst_55 : decode cX12_worst 55 = .ok (.iload_n 2, 1) := by decide +kernel
theorem dX12_worst_56 : decode cX12_worst 56 = .ok (.istore_n 1, 1) := by decide +kernel
theorem dX12_worst_57 : decode cX12_worst 57 = .ok (.iinc 2 1, 3) := by decide +kernel
theorem dX12_worst_60 : decode cX12_worst 60 = .ok (.goto (-38), 3) := by decide +kernel
theorem dX12_worst_63 : decode cX12_worst 63 = .ok (.iload_n 1, 1) := by decide +kernel
theorem dX12_worst_64 : decode cX12_worst 64 = .ok (.ireturn, 1) := by decide +kernel
theorem dX12_tryTending_0 : decode cX12_tryTending 0 = .ok (.iload_n 1, 1) := by decide +kernel
theorem dX12_tryTending_1 : decode cX12_tryTending 1 = .ok (.aload_n 0, 1) := by decide +kernel
theorem dX12_tryTending_2 : decode cX12_tryTending 2 = .ok (.getfield 20, 3) := by decide +kernel
theorem dX12_tryTending_5 : decode cX12_tryTending 5 = .ok (.iconst 2, 1) := by decide +kernel
theorem dX12_tryTending_6 : decode cX12_tryTending 6 = .ok (.iaload, 1) := by decide +kernel
theorem dX12_tryTending_7 : decode cX12_tryTending 7 = .ok (.if_icmp .ne 33, 3) := by decide +kernel
theorem dX12_tryTending_10 : decode cX12_tryTending 10 = .ok (.iload_n 2, 1) := by decide +kernel
theorem dX12_tryTending_11 : decode cX12_tryTending 11 = .ok (.aload_n 0, 1) := by decide +kernel
theorem dX12_tryTending_12 : decode cX12_tryTending 12 = .ok (.getfield 300, 3) := by decide +kernel
theorem dX12_tryTending_15 : decode cX12_tryTending 15 = .ok (.if_icmp .gt 4, 3) := by decide +kernel
theorem dX12_tryTending_18 : decode cX12_tryTending 18 = .ok (.return_, 1) := by decide +kernel
theorem dX12_tryTending_19 : decode cX12_tryTending 19 = .ok (.aload_n 0, 1) := by decide +kernel
theorem dX12_tryTending_20 : decode cX12_tryTending 20 = .ok (.iload_n 2, 1) := by decide +kernel
theorem dX12_tryTending_21 : decode cX12_tryTending 21 = .ok (.putfield 300, 3) := by decide +kernel
theorem dX12_tryTending_24 : decode cX12_tryTending 24 = .ok (.aload_n 0, 1) := by decide +kernel
theorem dX12_tryTending_25 : decode cX12_tryTending 25 = .ok (.getfield 35, 3) := by decide +kernel
theorem dX12_tryTending_28 : decode cX12_tryTending 28 = .ok (.iconst 0, 1) := by decide +kernel
theorem dX12_tryTending_29 : decode cX12_tryTending 29 = .ok (.aload_n 0, 1) := by decide +kernel
theorem dX12_tryTending_30 : decode cX12_tryTending 30 = .ok (.getfield 38, 3) := by decide +kernel
theorem dX12_tryTending_33 : decode cX12_tryTending 33 = .ok (.iconst 0, 1) := by decide +kernel
theorem dX12_tryTending_34 : decode cX12_tryTending 34 = .ok (.bipush 7, 2) := by decide +kernel
theorem dX12_tryTending_36 : decode cX12_tryTending 36 = .ok (.invokestatic 174, 3) := by decide +kernel
theorem dX12_tryTending_39 : decode cX12_tryTending 39 = .ok (.return_, 1) := by decide +kernel
theorem dX12_tryTending_40 : decode cX12_tryTending 40 = .ok (.iconst 0, 1) := by decide +kernel
theorem dX12_tryTending_41 : decode cX12_tryTending 41 = .ok (.istore_n 3, 1) := by decide +kernel
theorem dX12_tryTending_42 : decode cX12_tryTending 42 = .ok (.iload_n 3, 1) := by decide +kernel
theorem dX12_tryTending_43 : decode cX12_tryTending 43 = .ok (.aload_n 0, 1) := by decide +kernel
theorem dX12_tryTending_44 : decode cX12_tryTending 44 = .ok (.getfield 20, 3) := by decide +kernel
theorem dX12_tryTending_47 : decode cX12_tryTending 47 = .ok (.iconst 3, 1) := by decide +kernel
theorem dX12_tryTending_48 : decode cX12_tryTending 48 = .ok (.iaload, 1) := by decide +kernel
theorem dX12_tryTending_49 : decode cX12_tryTending 49 = .ok (.if_icmp .ge 73, 3) := by decide +kernel
theorem dX12_tryTending_52 : decode cX12_tryTending 52 = .ok (.aload_n 0, 1) := by decide +kernel
theorem dX12_tryTending_53 : decode cX12_tryTending 53 = .ok (.getfield 41, 3) := by decide +kernel
theorem dX12_tryTending_56 : decode cX12_tryTending 56 = .ok (.iload_n 3, 1) := by decide +kernel
theorem dX12_tryTending_57 : decode cX12_tryTending 57 = .ok (.iaload, 1) := by decide +kernel
theorem dX12_tryTending_58 : decode cX12_tryTending 58 = .ok (.ifCond .eq 58, 3) := by decide +kernel
theorem dX12_tryTending_61 : decode cX12_tryTending 61 = .ok (.aload_n 0, 1) := by decide +kernel
theorem dX12_tryTending_62 : decode cX12_tryTending 62 = .ok (.iload_n 3, 1) := by decide +kernel
theorem dX12_tryTending_63 : decode cX12_tryTending 63 = .ok (.iload_n 1, 1) := by decide +kernel
theorem dX12_tryTending_64 : decode cX12_tryTending 64 = .ok (.invokevirtual 278, 3) := by decide +kernel
theorem dX12_tryTending_67 : decode cX12_tryTending 67 = .ok (.ifCond .ne 6, 3) := by decide +kernel
theorem dX12_tryTending_70 : decode cX12_tryTending 70 = .ok (.goto 46, 3) := by decide +kernel
theorem dX12_tryTending_73 : decode cX12_tryTending 73 = .ok (.aload_n 0, 1) := by decide +kernel
theorem dX12_tryTending_74 : decode cX12_tryTending 74 = .ok (.getfield 41, 3) := by decide +kernel
theorem dX12_tryTending_77 : decode cX12_tryTending 77 = .ok (.iload_n 3, 1) := by decide +kernel
theorem dX12_tryTending_78 : decode cX12_tryTending 78 = .ok (.dup2, 1) := by decide +kernel
theorem dX12_tryTending_79 : decode cX12_tryTending 79 = .ok (.iaload, 1) := by decide +kernel
theorem dX12_tryTending_80 : decode cX12_tryTending 80 = .ok (.iconst 1, 1) := by decide +kernel
theorem dX12_tryTending_81 : decode cX12_tryTending 81 = .ok (.isub, 1) := by decide +kernel
theorem dX12_tryTending_82 : decode cX12_tryTending 82 = .ok (.iastore, 1) := by decide +kernel
theorem dX12_tryTending_83 : decode cX12_tryTending 83 = .ok (.aload_n 0, 1) := by decide +kernel
theorem dX12_tryTending_84 : decode cX12_tryTending 84 = .ok (.getfield 35, 3) := by decide +kernel
theorem dX12_tryTending_87 : decode cX12_tryTending 87 = .ok (.iload_n 1, 1) := by decide +kernel
theorem dX12_tryTending_88 : decode cX12_tryTending 88 = .ok (.iload_n 3, 1) := by decide +kernel
theorem dX12_tryTending_89 : decode cX12_tryTending 89 = .ok (.iconst 1, 1) := by decide +kernel
theorem dX12_tryTending_90 : decode cX12_tryTending 90 = .ok (.iadd, 1) := by decide +kernel
theorem dX12_tryTending_91 : decode cX12_tryTending 91 = .ok (.iastore, 1) := by decide +kernel
theorem dX12_tryTending_92 : decode cX12_tryTending 92 = .ok (.aload_n 0, 1) := by decide +kernel
theorem dX12_tryTending_93 : decode cX12_tryTending 93 = .ok (.iload_n 1, 1) := by decide +kernel
theorem dX12_tryTending_94 : decode cX12_tryTending 94 = .ok (.iconst 1, 1) := by decide +kernel
theorem dX12_tryTending_95 : decode cX12_tryTending 95 = .ok (.iadd, 1) := by decide +kernel
theorem dX12_tryTending_96 : decode cX12_tryTending 96 = .ok (.iload_n 2, 1) := by decide +kernel
theorem dX12_tryTending_97 : decode cX12_tryTending 97 = .ok (.aload_n 0, 1) := by decide +kernel
theorem dX12_tryTending_98 : decode cX12_tryTending 98 = .ok (.iload_n 1, 1) := by decide +kernel
theorem dX12_tryTending_99 : decode cX12_tryTending 99 = .ok (.invokevirtual 272, 3) := by decide +kernel
theorem dX12_tryTending_102 : decode cX12_tryTending 102 = .ok (.iadd, 1) := by decide +kernel
theorem dX12_tryTending_103 : decode cX12_tryTending 103 = .ok (.invokevirtual 303, 3) := by decide +kernel
theorem dX12_tryTending_106 : decode cX12_tryTending 106 = .ok (.aload_n 0, 1) := by decide +kernel
theorem dX12_tryTending_107 : decode cX12_tryTending 107 = .ok (.getfield 41, 3) := by decide +kernel
theorem dX12_tryTending_110 : decode cX12_tryTending 110 = .ok (.iload_n 3, 1) := by decide +kernel
theorem dX12_tryTending_111 : decode cX12_tryTending 111 = .ok (.dup2, 1) := by decide +kernel
theorem dX12_tryTending_112 : decode cX12_tryTending 112 = .ok (.iaload, 1) := by decide +kernel
theorem dX12_tryTending_113 : decode cX12_tryTending 113 = .ok (.iconst 1, 1) := by decide +kernel
theorem dX12_tryTending_114 : decode cX12_tryTending 114 = .ok (.iadd, 1) := by decide +kernel
theorem dX12_tryTending_115 : decode cX12_tryTending 115 = .ok (.iastore, 1) := by decide +kernel
theorem dX12_tryTending_116 : decode cX12_tryTending 116 = .ok (.iinc 3 1, 3) := by decide +kernel
theorem dX12_tryTending_119 : decode cX12_tryTending 119 = .ok (.goto (-77), 3) := by decide +kernel
theorem dX12_tryTending_122 : decode cX12_tryTending 122 = .ok (.aload_n 0, 1) := by decide +kernel
theorem dX12_tryTending_123 : decode cX12_tryTending 123 = .ok (.getfield 35, 3) := by decide +kernel
theorem dX12_tryTending_126 : decode cX12_tryTending 126 = .ok (.iload_n 1, 1) := by decide +kernel
