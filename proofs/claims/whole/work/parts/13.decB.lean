theorem dX11_init_0 : decode cX11_init 0 = .ok (.aload_n 0, 1) := by decide +kernel
theorem dX11_init_1 : decode cX11_init 1 = .ok (.invokespecial 1, 3) := by decide +kernel
theorem dX11_init_4 : decode cX11_init 4 = .ok (.aload_n 0, 1) := by decide +kernel
theorem dX11_init_5 : decode cX11_init 5 = .ok (.sipush 900, 3) := by decide +kernel
theorem dX11_init_8 : decode cX11_init 8 = .ok (.newarray .byte, 2) := by decide +kernel
theorem dX11_init_10 : decode cX11_init 10 = .ok (.putfield 9, 3) := by decide +kernel
theorem dX11_init_13 : decode cX11_init 13 = .ok (.aload_n 0, 1) := by decide +kernel
theorem dX11_init_14 : decode cX11_init 14 = .ok (.new 13, 3) := by decide +kernel
theorem dX11_init_17 : decode cX11_init 17 = .ok (.dup, 1) := by decide +kernel
theorem dX11_init_18 : decode cX11_init 18 = .ok (.invokespecial 15, 3) := by decide +kernel
theorem dX11_init_21 : decode cX11_init 21 = .ok (.putfield 16, 3) := by decide +kernel
theorem dX11_init_24 : decode cX11_init 24 = .ok (.aload_n 0, 1) := by decide +kernel
theorem dX11_init_25 : decode cX11_init 25 = .ok (.new 13, 3) := by decide +kernel
theorem dX11_init_28 : decode cX11_init 28 = .ok (.dup, 1) := by decide +kernel
theorem dX11_init_29 : decode cX11_init 29 = .ok (.invokespecial 15, 3) := by decide +kernel
theorem dX11_init_32 : decode cX11_init 32 = .ok (.putfield 20, 3) := by decide +kernel
theorem dX11_init_35 : decode cX11_init 35 = .ok (.aload_n 0, 1) := by decide +kernel
theorem dX11_init_36 : decode cX11_init 36 = .ok (.new 23, 3) := by decide +kernel
theorem dX11_init_39 : decode cX11_init 39 = .ok (.dup, 1) := by decide +kernel
theorem dX11_init_40 : decode cX11_init 40 = .ok (.invokespecial 25, 3) := by decide +kernel
theorem dX11_init_43 : decode cX11_init 43 = .ok (.putfield 26, 3) := by decide +kernel
theorem dX11_init_46 : decode cX11_init 46 = .ok (.aload_n 0, 1) := by decide +kernel
theorem dX11_init_47 : decode cX11_init 47 = .ok (.new 30, 3) := by decide +kernel
theorem dX11_init_50 : decode cX11_init 50 = .ok (.dup, 1) := by decide +kernel
theorem dX11_init_51 : decode cX11_init 51 = .ok (.invokespecial 32, 3) := by decide +kernel
theorem dX11_init_54 : decode cX11_init 54 = .ok (.putfield 33, 3) := by decide +kernel
theorem dX11_init_57 : decode cX11_init 57 = .ok (.aload_n 0, 1) := by decide +kernel
theorem dX11_init_58 : decode cX11_init 58 = .ok (.new 37, 3) := by decide +kernel
theorem dX11_init_61 : decode cX11_init 61 = .ok (.dup, 1) := by decide +kernel
theorem dX11_init_62 : decode cX11_init 62 = .ok (.invokespecial 39, 3) := by decide +kernel
theorem dX11_init_65 : decode cX11_init 65 = .ok (.putfield 40, 3) := by decide +kernel
theorem dX11_init_68 : decode cX11_init 68 = .ok (.aload_n 0, 1) := by decide +kernel
theorem dX11_init_69 : decode cX11_init 69 = .ok (.new 44, 3) := by decide +kernel
theorem dX11_init_72 : decode cX11_init 72 = .ok (.dup, 1) := by decide +kernel
theorem dX11_init_73 : decode cX11_init 73 = .ok (.invokespecial 46, 3) := by decide +kernel
theorem dX11_init_76 : decode cX11_init 76 = .ok (.putfield 47, 3) := by decide +kernel
theorem dX11_init_79 : decode cX11_init 79 = .ok (.aload_n 0, 1) := by decide +kernel
theorem dX11_init_80 : decode cX11_init 80 = .ok (.new 51, 3) := by decide +kernel
theorem dX11_init_83 : decode cX11_init 83 = .ok (.dup, 1) := by decide +kernel
theorem dX11_init_84 : decode cX11_init 84 = .ok (.invokespecial 53, 3) := by decide +kernel
theorem dX11_init_87 : decode cX11_init 87 = .ok (.putfield 54, 3) := by decide +kernel
theorem dX11_init_90 : decode cX11_init 90 = .ok (.aload_n 0, 1) := by decide +kernel
theorem dX11_init_91 : decode cX11_init 91 = .ok (.new 58, 3) := by decide +kernel
theorem dX11_init_94 : decode cX11_init 94 = .ok (.dup, 1) := by decide +kernel
theorem dX11_init_95 : decode cX11_init 95 = .ok (.invokespecial 60, 3) := by decide +kernel
theorem dX11_init_98 : decode cX11_init 98 = .ok (.putfield 61, 3) := by decide +kernel
theorem dX11_init_101 : decode cX11_init 101 = .ok (.return_, 1) := by decide +kernel
theorem dX11_feed_0 : decode cX11_feed 0 = .ok (.aload_n 0, 1) := by decide +kernel
theorem dX11_feed_1 : decode cX11_feed 1 = .ok (.getfield 65, 3) := by decide +kernel
theorem dX11_feed_4 : decode cX11_feed 4 = .ok (.sipush 880, 3) := by decide +kernel
theorem dX11_feed_7 : decode cX11_feed 7 = .ok (.if_icmp .le 5, 3) := by decide +kernel
theorem dX11_feed_10 : decode cX11_feed 10 = .ok (.iconst (-1), 1) := by decide +kernel
theorem dX11_feed_11 : decode cX11_feed 11 = .ok (.ireturn, 1) := by decide +kernel
theorem dX11_feed_12 : decode cX11_feed 12 = .ok (.aload_n 0, 1) := by decide +kernel
theorem dX11_feed_13 : decode cX11_feed 13 = .ok (.iload_n 1, 1) := by decide +kernel
theorem dX11_feed_14 : decode cX11_feed 14 = .ok (.invokevirtual 69, 3) := by decide +kernel
theorem dX11_feed_17 : decode cX11_feed 17 = .ok (.aload_n 0, 1) := by decide +kernel
theorem dX11_feed_18 : decode cX11_feed 18 = .ok (.iload_n 2, 1) := by decide +kernel
theorem dX11_feed_19 : decode cX11_feed 19 = .ok (.invokevirtual 69, 3) := by decide +kernel
theorem dX11_feed_22 : decode cX11_feed 22 = .ok (.aload_n 0, 1) := by decide +kernel
theorem dX11_feed_23 : decode cX11_feed 23 = .ok (.iload_n 3, 1) := by decide +kernel
theorem dX11_feed_24 : decode cX11_feed 24 = .ok (.invokevirtual 69, 3) := by decide +kernel
theorem dX11_feed_27 : decode cX11_feed 27 = .ok (.aload_n 0, 1) := by decide +kernel
theorem dX11_feed_28 : decode cX11_feed 28 = .ok (.iload 4, 2) := by decide +kernel
theorem dX11_feed_30 : decode cX11_feed 30 = .ok (.invokevirtual 69, 3) := by decide +kernel
theorem dX11_feed_33 : decode cX11_feed 33 = .ok (.aload_n 0, 1) := by decide +kernel
theorem dX11_feed_34 : decode cX11_feed 34 = .ok (.iload 5, 2) := by decide +kernel
theorem dX11_feed_36 : decode cX11_feed 36 = .ok (.invokevirtual 69, 3) := by decide +kernel
theorem dX11_feed_39 : decode cX11_feed 39 = .ok (.aload_n 0, 1) := by decide +kernel
theorem dX11_feed_40 : decode cX11_feed 40 = .ok (.getfield 65, 3) := by decide +kernel
theorem dX11_feed_43 : decode cX11_feed 43 = .ok (.ireturn, 1) := by decide +kernel
theorem dX11_county_0 : decode cX11_county 0 = .ok (.iload_n 1, 1) := by decide +kernel
theorem dX11_county_1 : decode cX11_county 1 = .ok (.ifCond .lt 11, 3) := by decide +kernel
theorem dX11_county_4 : decode cX11_county 4 = .ok (.iload_n 1, 1) := by decide +kernel
theorem dX11_county_5 : decode cX11_county 5 = .ok (.aload_n 0, 1) := by decide +kernel
theorem dX11_county_6 : decode cX11_county 6 = .ok (.getfield 65, 3) := by decide +kernel
theorem dX11_county_9 : decode cX11_county 9 = .ok (.if_icmp .le 9, 3) := by decide +kernel
theorem dX11_county_12 : decode cX11_county 12 = .ok (.aload_n 0, 1) := by decide +kernel
theorem dX11_county_13 : decode cX11_county 13 = .ok (.iconst 2, 1) := by decide +kernel
theorem dX11_county_14 : decode cX11_county 14 = .ok (.invokevirtual 73, 3) := by decide +kernel
theorem dX11_county_17 : decode cX11_county 17 = .ok (.ireturn, 1) := by decide +kernel
theorem dX11_county_18 : decode cX11_county 18 = .ok (.aload_n 0, 1) := by decide +kernel
theorem dX11_county_19 : decode cX11_county 19 = .ok (.getfield 26, 3) := by decide +kernel
theorem dX11_county_22 : decode cX11_county 22 = .ok (.aload_n 0, 1) := by decide +kernel
theorem dX11_county_23 : decode cX11_county 23 = .ok (.getfield 9, 3) := by decide +kernel
theorem dX11_county_26 : decode cX11_county 26 = .ok (.iload_n 1, 1) := by decide +kernel
theorem dX11_county_27 : decode cX11_county 27 = .ok (.aload_n 0, 1) := by decide +kernel
theorem dX11_county_28 : decode cX11_county 28 = .ok (.getfield 20, 3) := by decide +kernel
theorem dX11_county_31 : decode cX11_county 31 = .ok (.invokevirtual 77, 3) := by decide +kernel
theorem dX11_county_34 : decode cX11_county 34 = .ok (.aload_n 0, 1) := by decide +kernel
theorem dX11_county_35 : decode cX11_county 35 = .ok (.iconst 0, 1) := by decide +kernel
theorem dX11_county_36 : decode cX11_county 36 = .ok (.putfield 65, 3) := by decide +kernel
theorem dX11_county_39 : decode cX11_county 39 = .ok (.aload_n 0, 1) := by decide +kernel
theorem dX11_county_40 : decode cX11_county 40 = .ok (.aload_n 0, 1) := by decide +kernel
theorem dX11_county_41 : decode cX11_county 41 = .ok (.getfield 26, 3) := by decide +kernel
theorem dX11_county_44 : decode cX11_county 44 = .ok (.getfield 81, 3) := by decide +kernel
theorem dX11_county_47 : decode cX11_county 47 = .ok (.putfield 84, 3) := by decide +kernel
theorem dX11_county_50 : decode cX11_county 50 = .ok (.aload_n 0, 1) := by decide +kernel
theorem dX11_county_51 : decode cX11_county 51 = .ok (.aload_n 0, 1) := by decide +kernel
theorem dX11_county_52 : decode cX11_county 52 = .ok (.getfield 26, 3) := by decide +kernel
theorem dX11_county_55 : decode cX11_county 55 = .ok (.getfield 85, 3) := by decide +kernel
theorem dX11_county_58 : decode cX11_county 58 = .ok (.putfield 88, 3) := by decide +kernel
theorem dX11_county_61 : decode cX11_county 61 = .ok (.aload_n 0, 1) := by decide +kernel
theorem dX11_county_62 : decode cX11_county 62 = .ok (.getfield 84, 3) := by decide +kernel
theorem dX11_county_65 : decode cX11_county 65 = .ok (.ifCond .eq 9, 3) := by decide +kernel
theorem dX11_county_68 : decode cX11_county 68 = .ok (.aload_n 0, 1) := by decide +kernel
theorem dX11_county_69 : decode cX11_county 69 = .ok (.iconst 4, 1) := by decide +kernel
theorem dX11_county_70 : decode cX11_county 70 = .ok (.invokevirtual 73, 3) := by decide +kernel
theorem dX11_county_73 : decode cX11_county 73 = .ok (.ireturn, 1) := by decide +kernel
theorem dX11_county_74 : decode cX11_county 74 = .ok (.aload_n 0, 1) := by decide +kernel
theorem dX11_county_75 : decode cX11_county 75 = .ok (.getfield 16, 3) := by decide +kernel
theorem dX11_county_78 : decode cX11_county 78 = .ok (.astore_n 2, 1) := by decide +kernel
theorem dX11_county_79 : decode cX11_county 79 = .ok (.aload_n 0, 1) := by decide +kernel
theorem dX11_county_80 : decode cX11_county 80 = .ok (.aload_n 0, 1) := by decide +kernel
theorem dX11_county_81 : decode cX11_county 81 = .ok (.getfield 20, 3) := by decide +kernel
theorem dX11_county_84 : decode cX11_county 84 = .ok (.putfield 16, 3) := by decide +kernel
theorem dX11_county_87 : decode cX11_county 87 = .ok (.aload_n 0, 1) := by decide +kernel
theorem dX11_county_88 : decode cX11_county 88 = .ok (.aload_n 2, 1) := by decide +kernel
theorem dX11_county_89 : decode cX11_county 89 = .ok (.putfield 20, 3) := by decide +kernel
theorem dX11_county_92 : decode cX11_county 92 = .ok (.aload_n 0, 1) := by decide +kernel
theorem dX11_county_93 : decode cX11_county 93 = .ok (.getfield 33, 3) := by decide +kernel
theorem dX11_county_96 : decode cX11_county 96 = .ok (.invokevirtual 89, 3) := by decide +kernel
theorem dX11_county_99 : decode cX11_county 99 = .ok (.aload_n 0, 1) := by decide +kernel
theorem dX11_county_100 : decode cX11_county 100 = .ok (.getfield 40, 3) := by decide +kernel
theorem dX11_county_103 : decode cX11_county 103 = .ok (.invokevirtual 92, 3) := by decide +kernel
theorem dX11_county_106 : decode cX11_county 106 = .ok (.aload_n 0, 1) := by decide +kernel
theorem dX11_county_107 : decode cX11_county 107 = .ok (.getfield 47, 3) := by decide +kernel
theorem dX11_county_110 : decode cX11_county 110 = .ok (.iconst 0, 1) := by decide +kernel
theorem dX11_county_111 : decode cX11_county 111 = .ok (.putfield 93, 3) := by decide +kernel
theorem dX11_county_114 : decode cX11_county 114 = .ok (.aload_n 0, 1) := by decide +kernel
theorem dX11_county_115 : decode cX11_county 115 = .ok (.getfield 54, 3) := by decide +kernel
theorem dX11_county_118 : decode cX11_county 118 = .ok (.iconst 0, 1) := by decide +kernel
theorem dX11_county_119 : decode cX11_county 119 = .ok (.putfield 97, 3) := by decide +kernel
theorem dX11_county_122 : decode cX11_county 122 = .ok (.aload_n 0, 1) := by decide +kernel
theorem dX11_county_123 : decode cX11_county 123 = .ok (.getfield 61, 3) := by decide +kernel
theorem dX11_county_126 : decode cX11_county 126 = .ok (.iconst 0, 1) := by decide +kernel
theorem dX11_county_127 : decode cX11_county 127 = .ok (.putfield 98, 3) := by decide +kernel
theorem dX11_county_130 : decode cX11_county 130 = .ok (.aload_n 0, 1) := by decide +kernel
theorem dX11_county_131 : decode cX11_county 131 = .ok (.aload_n 0, 1) := by decide +kernel
theorem dX11_county_132 : decode cX11_county 132 = .ok (.getfield 16, 3) := by decide +kernel
theorem dX11_county_135 : decode cX11_county 135 = .ok (.getfield 99, 3) := by decide +kernel
theorem dX11_county_138 : decode cX11_county 138 = .ok (.getfield 103, 3) := by decide +kernel
theorem dX11_county_141 : decode cX11_county 141 = .ok (.invokevirtual 108, 3) := by decide +kernel
theorem dX11_county_144 : decode cX11_county 144 = .ok (.ireturn, 1) := by decide +kernel
theorem dX11_fault_0 : decode cX11_fault 0 = .ok (.aload_n 0, 1) := by decide +kernel
theorem dX11_fault_1 : decode cX11_fault 1 = .ok (.getfield 84, 3) := by decide +kernel
theorem dX11_fault_4 : decode cX11_fault 4 = .ok (.ireturn, 1) := by decide +kernel
theorem dX11_where_0 : decode cX11_where 0 = .ok (.aload_n 0, 1) := by decide +kernel
theorem dX11_where_1 : decode cX11_where 1 = .ok (.getfield 111, 3) := by decide +kernel
theorem dX11_where_4 : decode cX11_where 4 = .ok (.iconst 4, 1) := by decide +kernel
theorem dX11_where_5 : decode cX11_where 5 = .ok (.if_icmp .ne 10, 3) := by decide +kernel
theorem dX11_where_8 : decode cX11_where 8 = .ok (.aload_n 0, 1) := by decide +kernel
theorem dX11_where_9 : decode cX11_where 9 = .ok (.getfield 88, 3) := by decide +kernel
theorem dX11_where_12 : decode cX11_where 12 = .ok (.goto 4, 3) := by decide +kernel
theorem dX11_where_15 : decode cX11_where 15 = .ok (.iconst (-1), 1) := by decide +kernel
theorem dX11_where_16 : decode cX11_where 16 = .ok (.ireturn, 1) := by decide +kernel
theorem dX11_counts_0 : decode cX11_counts 0 = .ok (.aload_n 0, 1) := by decide +kernel
theorem dX11_counts_1 : decode cX11_counts 1 = .ok (.getfield 16, 3) := by decide +kernel
theorem dX11_counts_4 : decode cX11_counts 4 = .ok (.getfield 114, 3) := by decide +kernel
theorem dX11_counts_7 : decode cX11_counts 7 = .ok (.ifCond .ne 9, 3) := by decide +kernel
theorem dX11_counts_10 : decode cX11_counts 10 = .ok (.aload_n 0, 1) := by decide +kernel
theorem dX11_counts_11 : decode cX11_counts 11 = .ok (.iconst 1, 1) := by decide +kernel
theorem dX11_counts_12 : decode cX11_counts 12 = .ok (.invokevirtual 73, 3) := by decide +kernel
theorem dX11_counts_15 : decode cX11_counts 15 = .ok (.ireturn, 1) := by decide +kernel
theorem dX11_counts_16 : decode cX11_counts 16 = .ok (.iload_n 1, 1) := by decide +kernel
theorem dX11_counts_17 : decode cX11_counts 17 = .ok (.ifCond .lt 9, 3) := by decide +kernel
theorem dX11_counts_20 : decode cX11_counts 20 = .ok (.iload_n 1, 1) := by decide +kernel
theorem dX11_counts_21 : decode cX11_counts 21 = .ok (.ldc 117, 2) := by decide +kernel
theorem dX11_counts_23 : decode cX11_counts 23 = .ok (.if_icmp .le 9, 3) := by decide +kernel
theorem dX11_counts_26 : decode cX11_counts 26 = .ok (.aload_n 0, 1) := by decide +kernel
theorem dX11_counts_27 : decode cX11_counts 27 = .ok (.iconst 2, 1) := by decide +kernel
theorem dX11_counts_28 : decode cX11_counts 28 = .ok (.invokevirtual 73, 3) := by decide +kernel
theorem dX11_counts_31 : decode cX11_counts 31 = .ok (.ireturn, 1) := by decide +kernel
theorem dX11_counts_32 : decode cX11_counts 32 = .ok (.aload_n 0, 1) := by decide +kernel
theorem dX11_counts_33 : decode cX11_counts 33 = .ok (.aload_n 0, 1) := by decide +kernel
theorem dX11_counts_34 : decode cX11_counts 34 = .ok (.getfield 16, 3) := by decide +kernel
theorem dX11_counts_37 : decode cX11_counts 37 = .ok (.iload_n 1, 1) := by decide +kernel
theorem dX11_counts_38 : decode cX11_counts 38 = .ok (.invokevirtual 118, 3) := by decide +kernel
theorem dX11_counts_41 : decode cX11_counts 41 = .ok (.invokevirtual 108, 3) := by decide +kernel
theorem dX11_counts_44 : decode cX11_counts 44 = .ok (.ireturn, 1) := by decide +kernel
theorem dX11_really_0 : decode cX11_really 0 = .ok (.aload_n 0, 1) := by decide +kernel
theorem dX11_really_1 : decode cX11_really 1 = .ok (.getfield 16, 3) := by decide +kernel
theorem dX11_really_4 : decode cX11_really 4 = .ok (.getfield 114, 3) := by decide +kernel
theorem dX11_really_7 : decode cX11_really 7 = .ok (.ifCond .ne 9, 3) := by decide +kernel
theorem dX11_really_10 : decode cX11_really 10 = .ok (.aload_n 0, 1) := by decide +kernel
theorem dX11_really_11 : decode cX11_really 11 = .ok (.iconst 1, 1) := by decide +kernel
theorem dX11_really_12 : decode cX11_really 12 = .ok (.invokevirtual 73, 3) := by decide +kernel
theorem dX11_really_15 : decode cX11_really 15 = .ok (.ireturn, 1) := by decide +kernel
theorem dX11_really_16 : decode cX11_really 16 = .ok (.iload_n 1, 1) := by decide +kernel
theorem dX11_really_17 : decode cX11_really 17 = .ok (.ifCond .lt 9, 3) := by decide +kernel
theorem dX11_really_20 : decode cX11_really 20 = .ok (.iload_n 1, 1) := by decide +kernel
theorem dX11_really_21 : decode cX11_really 21 = .ok (.ldc 121, 2) := by decide +kernel
theorem dX11_really_23 : decode cX11_really 23 = .ok (.if_icmp .le 9, 3) := by decide +kernel
theorem dX11_really_26 : decode cX11_really 26 = .ok (.aload_n 0, 1) := by decide +kernel
theorem dX11_really_27 : decode cX11_really 27 = .ok (.iconst 2, 1) := by decide +kernel
theorem dX11_really_28 : decode cX11_really 28 = .ok (.invokevirtual 73, 3) := by decide +kernel
theorem dX11_really_31 : decode cX11_really 31 = .ok (.ireturn, 1) := by decide +kernel
theorem dX11_really_32 : decode cX11_really 32 = .ok (.aload_n 0, 1) := by decide +kernel
theorem dX11_really_33 : decode cX11_really 33 = .ok (.aload_n 0, 1) := by decide +kernel
theorem dX11_really_34 : decode cX11_really 34 = .ok (.getfield 16, 3) := by decide +kernel
theorem dX11_really_37 : decode cX11_really 37 = .ok (.iload_n 1, 1) := by decide +kernel
theorem dX11_really_38 : decode cX11_really 38 = .ok (.invokevirtual 122, 3) := by decide +kernel
theorem dX11_really_41 : decode cX11_really 41 = .ok (.invokevirtual 108, 3) := by decide +kernel
theorem dX11_really_44 : decode cX11_really 44 = .ok (.ireturn, 1) := by decide +kernel
theorem dX11_sum_0 : decode cX11_sum 0 = .ok (.aload_n 0, 1) := by decide +kernel
theorem dX11_sum_1 : decode cX11_sum 1 = .ok (.getfield 16, 3) := by decide +kernel
theorem dX11_sum_4 : decode cX11_sum 4 = .ok (.getfield 114, 3) := by decide +kernel
theorem dX11_sum_7 : decode cX11_sum 7 = .ok (.ifCond .ne 9, 3) := by decide +kernel
theorem dX11_sum_10 : decode cX11_sum 10 = .ok (.aload_n 0, 1) := by decide +kernel
theorem dX11_sum_11 : decode cX11_sum 11 = .ok (.iconst 1, 1) := by decide +kernel
theorem dX11_sum_12 : decode cX11_sum 12 = .ok (.invokevirtual 73, 3) := by decide +kernel
theorem dX11_sum_15 : decode cX11_sum 15 = .ok (.ireturn, 1) := by decide +kernel
theorem dX11_sum_16 : decode cX11_sum 16 = .ok (.iload_n 1, 1) := by decide +kernel
theorem dX11_sum_17 : decode cX11_sum 17 = .ok (.ifCond .lt 19, 3) := by decide +kernel
theorem dX11_sum_20 : decode cX11_sum 20 = .ok (.iload_n 1, 1) := by decide +kernel
theorem dX11_sum_21 : decode cX11_sum 21 = .ok (.ldc 117, 2) := by decide +kernel
theorem dX11_sum_23 : decode cX11_sum 23 = .ok (.if_icmp .gt 13, 3) := by decide +kernel
theorem dX11_sum_26 : decode cX11_sum 26 = .ok (.iload_n 2, 1) := by decide +kernel
theorem dX11_sum_27 : decode cX11_sum 27 = .ok (.ifCond .lt 9, 3) := by decide +kernel
theorem dX11_sum_30 : decode cX11_sum 30 = .ok (.iload_n 2, 1) := by decide +kernel
theorem dX11_sum_31 : decode cX11_sum 31 = .ok (.ldc 117, 2) := by decide +kernel
theorem dX11_sum_33 : decode cX11_sum 33 = .ok (.if_icmp .le 9, 3) := by decide +kernel
theorem dX11_sum_36 : decode cX11_sum 36 = .ok (.aload_n 0, 1) := by decide +kernel
theorem dX11_sum_37 : decode cX11_sum 37 = .ok (.iconst 2, 1) := by decide +kernel
theorem dX11_sum_38 : decode cX11_sum 38 = .ok (.invokevirtual 73, 3) := by decide +kernel
theorem dX11_sum_41 : decode cX11_sum 41 = .ok (.ireturn, 1) := by decide +kernel
theorem dX11_sum_42 : decode cX11_sum 42 = .ok (.aload_n 0, 1) := by decide +kernel
theorem dX11_sum_43 : decode cX11_sum 43 = .ok (.getfield 16, 3) := by decide +kernel
theorem dX11_sum_46 : decode cX11_sum 46 = .ok (.iload_n 1, 1) := by decide +kernel
theorem dX11_sum_47 : decode cX11_sum 47 = .ok (.invokevirtual 122, 3) := by decide +kernel
theorem dX11_sum_50 : decode cX11_sum 50 = .ok (.istore_n 3, 1) := by decide +kernel
theorem dX11_sum_51 : decode cX11_sum 51 = .ok (.aload_n 0, 1) := by decide +kernel
theorem dX11_sum_52 : decode cX11_sum 52 = .ok (.getfield 16, 3) := by decide +kernel
theorem dX11_sum_55 : decode cX11_sum 55 = .ok (.iload_n 2, 1) := by decide +kernel
theorem dX11_sum_56 : decode cX11_sum 56 = .ok (.invokevirtual 122, 3) := by decide +kernel
theorem dX11_sum_59 : decode cX11_sum 59 = .ok (.istore 4, 2) := by decide +kernel
theorem dX11_sum_61 : decode cX11_sum 61 = .ok (.iload_n 3, 1) := by decide +kernel
theorem dX11_sum_62 : decode cX11_sum 62 = .ok (.bipush (-2), 2) := by decide +kernel
theorem dX11_sum_64 : decode cX11_sum 64 = .ok (.if_icmp .eq 10, 3) := by decide +kernel
theorem dX11_sum_67 : decode cX11_sum 67 = .ok (.iload 4, 2) := by decide +kernel
theorem dX11_sum_69 : decode cX11_sum 69 = .ok (.bipush (-2), 2) := by decide +kernel
theorem dX11_sum_71 : decode cX11_sum 71 = .ok (.if_icmp .ne 10, 3) := by decide +kernel
theorem dX11_sum_74 : decode cX11_sum 74 = .ok (.aload_n 0, 1) := by decide +kernel
theorem dX11_sum_75 : decode cX11_sum 75 = .ok (.bipush (-2), 2) := by decide +kernel
theorem dX11_sum_77 : decode cX11_sum 77 = .ok (.invokevirtual 108, 3) := by decide +kernel
theorem dX11_sum_80 : decode cX11_sum 80 = .ok (.ireturn, 1) := by decide +kernel
theorem dX11_sum_81 : decode cX11_sum 81 = .ok (.aload_n 0, 1) := by decide +kernel
theorem dX11_sum_82 : decode cX11_sum 82 = .ok (.aload_n 0, 1) := by decide +kernel
theorem dX11_sum_83 : decode cX11_sum 83 = .ok (.getfield 16, 3) := by decide +kernel
theorem dX11_sum_86 : decode cX11_sum 86 = .ok (.iload_n 3, 1) := by decide +kernel
theorem dX11_sum_87 : decode cX11_sum 87 = .ok (.iload 4, 2) := by decide +kernel
theorem dX11_sum_89 : decode cX11_sum 89 = .ok (.iadd, 1) := by decide +kernel
theorem dX11_sum_90 : decode cX11_sum 90 = .ok (.invokevirtual 118, 3) := by decide +kernel
theorem dX11_sum_93 : decode cX11_sum 93 = .ok (.invokevirtual 108, 3) := by decide +kernel
theorem dX11_sum_96 : decode cX11_sum 96 = .ok (.ireturn, 1) := by decide +kernel
theorem dX11_sleeper_0 : decode cX11_sleeper 0 = .ok (.aload_n 0, 1) := by decide +kernel
theorem dX11_sleeper_1 : decode cX11_sleeper 1 = .ok (.iload_n 1, 1) := by decide +kernel
theorem dX11_sleeper_2 : decode cX11_sleeper 2 = .ok (.invokevirtual 125, 3) := by decide +kernel
theorem dX11_sleeper_5 : decode cX11_sleeper 5 = .ok (.ifCond .ne 9, 3) := by decide +kernel
theorem dX11_sleeper_8 : decode cX11_sleeper 8 = .ok (.aload_n 0, 1) := by decide +kernel
theorem dX11_sleeper_9 : decode cX11_sleeper 9 = .ok (.iconst 1, 1) := by decide +kernel
theorem dX11_sleeper_10 : decode cX11_sleeper 10 = .ok (.invokevirtual 73, 3) := by decide +kernel
theorem dX11_sleeper_13 : decode cX11_sleeper 13 = .ok (.ireturn, 1) := by decide +kernel
theorem dX11_sleeper_14 : decode cX11_sleeper 14 = .ok (.iload_n 2, 1) := by decide +kernel
theorem dX11_sleeper_15 : decode cX11_sleeper 15 = .ok (.tableswitch 129 0 5 #[37, 54, 71, 88, 102, 116], 37) := by decide +kernel
theorem dX11_sleeper_52 : decode cX11_sleeper 52 = .ok (.aload_n 0, 1) := by decide +kernel
theorem dX11_sleeper_53 : decode cX11_sleeper 53 = .ok (.aload_n 0, 1) := by decide +kernel
theorem dX11_sleeper_54 : decode cX11_sleeper 54 = .ok (.getfield 16, 3) := by decide +kernel
theorem dX11_sleeper_57 : decode cX11_sleeper 57 = .ok (.getfield 99, 3) := by decide +kernel
theorem dX11_sleeper_60 : decode cX11_sleeper 60 = .ok (.getfield 129, 3) := by decide +kernel
theorem dX11_sleeper_63 : decode cX11_sleeper 63 = .ok (.iload_n 1, 1) := by decide +kernel
theorem dX11_sleeper_64 : decode cX11_sleeper 64 = .ok (.iaload, 1) := by decide +kernel
theorem dX11_sleeper_65 : decode cX11_sleeper 65 = .ok (.invokevirtual 108, 3) := by decide +kernel
theorem dX11_sleeper_68 : decode cX11_sleeper 68 = .ok (.ireturn, 1) := by decide +kernel
theorem dX11_sleeper_69 : decode cX11_sleeper 69 = .ok (.aload_n 0, 1) := by decide +kernel
theorem dX11_sleeper_70 : decode cX11_sleeper 70 = .ok (.aload_n 0, 1) := by decide +kernel
theorem dX11_sleeper_71 : decode cX11_sleeper 71 = .ok (.getfield 16, 3) := by decide +kernel
theorem dX11_sleeper_74 : decode cX11_sleeper 74 = .ok (.getfield 99, 3) := by decide +kernel
theorem dX11_sleeper_77 : decode cX11_sleeper 77 = .ok (.getfield 133, 3) := by decide +kernel
theorem dX11_sleeper_80 : decode cX11_sleeper 80 = .ok (.iload_n 1, 1) := by decide +kernel
theorem dX11_sleeper_81 : decode cX11_sleeper 81 = .ok (.iaload, 1) := by decide +kernel
theorem dX11_sleeper_82 : decode cX11_sleeper 82 = .ok (.invokevirtual 108, 3) := by decide +kernel
theorem dX11_sleeper_85 : decode cX11_sleeper 85 = .ok (.ireturn, 1) := by decide +kernel
theorem dX11_sleeper_86 : decode cX11_sleeper 86 = .ok (.aload_n 0, 1) := by decide +kernel
theorem dX11_sleeper_87 : decode cX11_sleeper 87 = .ok (.aload_n 0, 1) := by decide +kernel
theorem dX11_sleeper_88 : decode cX11_sleeper 88 = .ok (.getfield 16, 3) := by decide +kernel
theorem dX11_sleeper_91 : decode cX11_sleeper 91 = .ok (.getfield 99, 3) := by decide +kernel
theorem dX11_sleeper_94 : decode cX11_sleeper 94 = .ok (.getfield 136, 3) := by decide +kernel
theorem dX11_sleeper_97 : decode cX11_sleeper 97 = .ok (.iload_n 1, 1) := by decide +kernel
theorem dX11_sleeper_98 : decode cX11_sleeper 98 = .ok (.iaload, 1) := by decide +kernel
theorem dX11_sleeper_99 : decode cX11_sleeper 99 = .ok (.invokevirtual 108, 3) := by decide +kernel
theorem dX11_sleeper_102 : decode cX11_sleeper 102 = .ok (.ireturn, 1) := by decide +kernel
theorem dX11_sleeper_103 : decode cX11_sleeper 103 = .ok (.aload_n 0, 1) := by decide +kernel
theorem dX11_sleeper_104 : decode cX11_sleeper 104 = .ok (.aload_n 0, 1) := by decide +kernel
theorem dX11_sleeper_105 : decode cX11_sleeper 105 = .ok (.getfield 33, 3) := by decide +kernel
theorem dX11_sleeper_108 : decode cX11_sleeper 108 = .ok (.getfield 139, 3) := by decide +kernel
theorem dX11_sleeper_111 : decode cX11_sleeper 111 = .ok (.iload_n 1, 1) := by decide +kernel
theorem dX11_sleeper_112 : decode cX11_sleeper 112 = .ok (.iaload, 1) := by decide +kernel
theorem dX11_sleeper_113 : decode cX11_sleeper 113 = .ok (.invokevirtual 108, 3) := by decide +kernel
theorem dX11_sleeper_116 : decode cX11_sleeper 116 = .ok (.ireturn, 1) := by decide +kernel
theorem dX11_sleeper_117 : decode cX11_sleeper 117 = .ok (.aload_n 0, 1) := by decide +kernel
theorem dX11_sleeper_118 : decode cX11_sleeper 118 = .ok (.aload_n 0, 1) := by decide +kernel
theorem dX11_sleeper_119 : decode cX11_sleeper 119 = .ok (.getfield 33, 3) := by decide +kernel
theorem dX11_sleeper_122 : decode cX11_sleeper 122 = .ok (.getfield 142, 3) := by decide +kernel
theorem dX11_sleeper_125 : decode cX11_sleeper 125 = .ok (.iload_n 1, 1) := by decide +kernel
theorem dX11_sleeper_126 : decode cX11_sleeper 126 = .ok (.iaload, 1) := by decide +kernel
theorem dX11_sleeper_127 : decode cX11_sleeper 127 = .ok (.invokevirtual 108, 3) := by decide +kernel
theorem dX11_sleeper_130 : decode cX11_sleeper 130 = .ok (.ireturn, 1) := by decide +kernel
theorem dX11_sleeper_131 : decode cX11_sleeper 131 = .ok (.aload_n 0, 1) := by decide +kernel
theorem dX11_sleeper_132 : decode cX11_sleeper 132 = .ok (.aload_n 0, 1) := by decide +kernel
theorem dX11_sleeper_133 : decode cX11_sleeper 133 = .ok (.getfield 16, 3) := by decide +kernel
theorem dX11_sleeper_136 : decode cX11_sleeper 136 = .ok (.iload_n 1, 1) := by decide +kernel
theorem dX11_sleeper_137 : decode cX11_sleeper 137 = .ok (.invokevirtual 145, 3) := by decide +kernel
theorem dX11_sleeper_140 : decode cX11_sleeper 140 = .ok (.invokevirtual 108, 3) := by decide +kernel
theorem dX11_sleeper_143 : decode cX11_sleeper 143 = .ok (.ireturn, 1) := by decide +kernel
theorem dX11_sleeper_144 : decode cX11_sleeper 144 = .ok (.aload_n 0, 1) := by decide +kernel
theorem dX11_sleeper_145 : decode cX11_sleeper 145 = .ok (.iconst 1, 1) := by decide +kernel
theorem dX11_sleeper_146 : decode cX11_sleeper 146 = .ok (.invokevirtual 73, 3) := by decide +kernel
theorem dX11_sleeper_149 : decode cX11_sleeper 149 = .ok (.ireturn, 1) := by decide +kernel
theorem dX11_awake_0 : decode cX11_awake 0 = .ok (.aload_n 0, 1) := by decide +kernel
theorem dX11_awake_1 : decode cX11_awake 1 = .ok (.iload_n 1, 1) := by decide +kernel
theorem dX11_awake_2 : decode cX11_awake 2 = .ok (.invokevirtual 148, 3) := by decide +kernel
theorem dX11_awake_5 : decode cX11_awake 5 = .ok (.ifCond .ne 9, 3) := by decide +kernel
theorem dX11_awake_8 : decode cX11_awake 8 = .ok (.aload_n 0, 1) := by decide +kernel
theorem dX11_awake_9 : decode cX11_awake 9 = .ok (.iconst 1, 1) := by decide +kernel
theorem dX11_awake_10 : decode cX11_awake 10 = .ok (.invokevirtual 73, 3) := by decide +kernel
theorem dX11_awake_13 : decode cX11_awake 13 = .ok (.ireturn, 1) := by decide +kernel
theorem dX11_awake_14 : decode cX11_awake 14 = .ok (.iload_n 2, 1) := by decide +kernel
theorem dX11_awake_15 : decode cX11_awake 15 = .ok (.tableswitch 107 0 4 #[33, 50, 67, 84, 97], 33) := by decide +kernel
theorem dX11_awake_48 : decode cX11_awake 48 = .ok (.aload_n 0, 1) := by decide +kernel
theorem dX11_awake_49 : decode cX11_awake 49 = .ok (.aload_n 0, 1) := by decide +kernel
theorem dX11_awake_50 : decode cX11_awake 50 = .ok (.getfield 16, 3) := by decide +kernel
theorem dX11_awake_53 : decode cX11_awake 53 = .ok (.getfield 151, 3) := by decide +kernel
theorem dX11_awake_56 : decode cX11_awake 56 = .ok (.getfield 155, 3) := by decide +kernel
theorem dX11_awake_59 : decode cX11_awake 59 = .ok (.iload_n 1, 1) := by decide +kernel
theorem dX11_awake_60 : decode cX11_awake 60 = .ok (.iaload, 1) := by decide +kernel
theorem dX11_awake_61 : decode cX11_awake 61 = .ok (.invokevirtual 108, 3) := by decide +kernel
theorem dX11_awake_64 : decode cX11_awake 64 = .ok (.ireturn, 1) := by decide +kernel
theorem dX11_awake_65 : decode cX11_awake 65 = .ok (.aload_n 0, 1) := by decide +kernel
theorem dX11_awake_66 : decode cX11_awake 66 = .ok (.aload_n 0, 1) := by decide +kernel
theorem dX11_awake_67 : decode cX11_awake 67 = .ok (.getfield 16, 3) := by decide +kernel
theorem dX11_awake_70 : decode cX11_awake 70 = .ok (.getfield 151, 3) := by decide +kernel
theorem dX11_awake_73 : decode cX11_awake 73 = .ok (.getfield 158, 3) := by decide +kernel
theorem dX11_awake_76 : decode cX11_awake 76 = .ok (.iload_n 1, 1) := by decide +kernel
theorem dX11_awake_77 : decode cX11_awake 77 = .ok (.iaload, 1) := by decide +kernel
theorem dX11_awake_78 : decode cX11_awake 78 = .ok (.invokevirtual 108, 3) := by decide +kernel
theorem dX11_awake_81 : decode cX11_awake 81 = .ok (.ireturn, 1) := by decide +kernel
theorem dX11_awake_82 : decode cX11_awake 82 = .ok (.aload_n 0, 1) := by decide +kernel
theorem dX11_awake_83 : decode cX11_awake 83 = .ok (.aload_n 0, 1) := by decide +kernel
theorem dX11_awake_84 : decode cX11_awake 84 = .ok (.getfield 16, 3) := by decide +kernel
theorem dX11_awake_87 : decode cX11_awake 87 = .ok (.getfield 151, 3) := by decide +kernel
theorem dX11_awake_90 : decode cX11_awake 90 = .ok (.getfield 161, 3) := by decide +kernel
theorem dX11_awake_93 : decode cX11_awake 93 = .ok (.iload_n 1, 1) := by decide +kernel
theorem dX11_awake_94 : decode cX11_awake 94 = .ok (.iaload, 1) := by decide +kernel
theorem dX11_awake_95 : decode cX11_awake 95 = .ok (.invokevirtual 108, 3) := by decide +kernel
theorem dX11_awake_98 : decode cX11_awake 98 = .ok (.ireturn, 1) := by decide +kernel
theorem dX11_awake_99 : decode cX11_awake 99 = .ok (.aload_n 0, 1) := by decide +kernel
theorem dX11_awake_100 : decode cX11_awake 100 = .ok (.aload_n 0, 1) := by decide +kernel
theorem dX11_awake_101 : decode cX11_awake 101 = .ok (.getfield 33, 3) := by decide +kernel
theorem dX11_awake_104 : decode cX11_awake 104 = .ok (.iload_n 1, 1) := by decide +kernel
theorem dX11_awake_105 : decode cX11_awake 105 = .ok (.invokevirtual 164, 3) := by decide +kernel
theorem dX11_awake_108 : decode cX11_awake 108 = .ok (.invokevirtual 108, 3) := by decide +kernel
theorem dX11_awake_111 : decode cX11_awake 111 = .ok (.ireturn, 1) := by decide +kernel
theorem dX11_awake_112 : decode cX11_awake 112 = .ok (.aload_n 0, 1) := by decide +kernel
theorem dX11_awake_113 : decode cX11_awake 113 = .ok (.aload_n 0, 1) := by decide +kernel
theorem dX11_awake_114 : decode cX11_awake 114 = .ok (.iload_n 1, 1) := by decide +kernel
theorem dX11_awake_115 : decode cX11_awake 115 = .ok (.invokevirtual 167, 3) := by decide +kernel
theorem dX11_awake_118 : decode cX11_awake 118 = .ok (.invokevirtual 108, 3) := by decide +kernel
theorem dX11_awake_121 : decode cX11_awake 121 = .ok (.ireturn, 1) := by decide +kernel
theorem dX11_awake_122 : decode cX11_awake 122 = .ok (.aload_n 0, 1) := by decide +kernel
theorem dX11_awake_123 : decode cX11_awake 123 = .ok (.iconst 1, 1) := by decide +kernel
theorem dX11_awake_124 : decode cX11_awake 124 = .ok (.invokevirtual 73, 3) := by decide +kernel
theorem dX11_awake_127 : decode cX11_awake 127 = .ok (.ireturn, 1) := by decide +kernel
theorem dX11_harmOf_0 : decode cX11_harmOf 0 = .ok (.aload_n 0, 1) := by decide +kernel
theorem dX11_harmOf_1 : decode cX11_harmOf 1 = .ok (.iload_n 1, 1) := by decide +kernel
theorem dX11_harmOf_2 : decode cX11_harmOf 2 = .ok (.invokevirtual 125, 3) := by decide +kernel
theorem dX11_harmOf_5 : decode cX11_harmOf 5 = .ok (.ifCond .ne 9, 3) := by decide +kernel
theorem dX11_harmOf_8 : decode cX11_harmOf 8 = .ok (.aload_n 0, 1) := by decide +kernel
theorem dX11_harmOf_9 : decode cX11_harmOf 9 = .ok (.iconst 1, 1) := by decide +kernel
theorem dX11_harmOf_10 : decode cX11_harmOf 10 = .ok (.invokevirtual 73, 3) := by decide +kernel
theorem dX11_harmOf_13 : decode cX11_harmOf 13 = .ok (.ireturn, 1) := by decide +kernel
theorem dX11_harmOf_14 : decode cX11_harmOf 14 = .ok (.aload_n 0, 1) := by decide +kernel
theorem dX11_harmOf_15 : decode cX11_harmOf 15 = .ok (.aload_n 0, 1) := by decide +kernel
theorem dX11_harmOf_16 : decode cX11_harmOf 16 = .ok (.getfield 33, 3) := by decide +kernel
theorem dX11_harmOf_19 : decode cX11_harmOf 19 = .ok (.getfield 170, 3) := by decide +kernel
theorem dX11_harmOf_22 : decode cX11_harmOf 22 = .ok (.ifCond .eq 7, 3) := by decide +kernel
theorem dX11_harmOf_25 : decode cX11_harmOf 25 = .ok (.iconst 0, 1) := by decide +kernel
theorem dX11_harmOf_26 : decode cX11_harmOf 26 = .ok (.goto 18, 3) := by decide +kernel
theorem dX11_harmOf_29 : decode cX11_harmOf 29 = .ok (.aload_n 0, 1) := by decide +kernel
theorem dX11_harmOf_30 : decode cX11_harmOf 30 = .ok (.getfield 16, 3) := by decide +kernel
theorem dX11_harmOf_33 : decode cX11_harmOf 33 = .ok (.iload_n 1, 1) := by decide +kernel
theorem dX11_harmOf_34 : decode cX11_harmOf 34 = .ok (.aload_n 0, 1) := by decide +kernel
theorem dX11_harmOf_35 : decode cX11_harmOf 35 = .ok (.getfield 33, 3) := by decide +kernel
theorem dX11_harmOf_38 : decode cX11_harmOf 38 = .ok (.invokevirtual 173, 3) := by decide +kernel
theorem dX11_harmOf_41 : decode cX11_harmOf 41 = .ok (.invokevirtual 177, 3) := by decide +kernel
theorem dX11_harmOf_44 : decode cX11_harmOf 44 = .ok (.invokevirtual 108, 3) := by decide +kernel
theorem dX11_harmOf_47 : decode cX11_harmOf 47 = .ok (.ireturn, 1) := by decide +kernel
theorem dX11_harm_0 : decode cX11_harm 0 = .ok (.aload_n 0, 1) := by decide +kernel
theorem dX11_harm_1 : decode cX11_harm 1 = .ok (.getfield 16, 3) := by decide +kernel
theorem dX11_harm_4 : decode cX11_harm 4 = .ok (.getfield 114, 3) := by decide +kernel
theorem dX11_harm_7 : decode cX11_harm 7 = .ok (.ifCond .ne 9, 3) := by decide +kernel
theorem dX11_harm_10 : decode cX11_harm 10 = .ok (.aload_n 0, 1) := by decide +kernel
theorem dX11_harm_11 : decode cX11_harm 11 = .ok (.iconst 1, 1) := by decide +kernel
theorem dX11_harm_12 : decode cX11_harm 12 = .ok (.invokevirtual 73, 3) := by decide +kernel
theorem dX11_harm_15 : decode cX11_harm 15 = .ok (.ireturn, 1) := by decide +kernel
theorem dX11_harm_16 : decode cX11_harm 16 = .ok (.aload_n 0, 1) := by decide +kernel
theorem dX11_harm_17 : decode cX11_harm 17 = .ok (.aload_n 0, 1) := by decide +kernel
theorem dX11_harm_18 : decode cX11_harm 18 = .ok (.getfield 33, 3) := by decide +kernel
theorem dX11_harm_21 : decode cX11_harm 21 = .ok (.getfield 170, 3) := by decide +kernel
theorem dX11_harm_24 : decode cX11_harm 24 = .ok (.ifCond .eq 7, 3) := by decide +kernel
theorem dX11_harm_27 : decode cX11_harm 27 = .ok (.iconst 0, 1) := by decide +kernel
theorem dX11_harm_28 : decode cX11_harm 28 = .ok (.goto 17, 3) := by decide +kernel
theorem dX11_harm_31 : decode cX11_harm 31 = .ok (.aload_n 0, 1) := by decide +kernel
theorem dX11_harm_32 : decode cX11_harm 32 = .ok (.getfield 16, 3) := by decide +kernel
theorem dX11_harm_35 : decode cX11_harm 35 = .ok (.aload_n 0, 1) := by decide +kernel
theorem dX11_harm_36 : decode cX11_harm 36 = .ok (.getfield 33, 3) := by decide +kernel
theorem dX11_harm_39 : decode cX11_harm 39 = .ok (.invokevirtual 173, 3) := by decide +kernel
theorem dX11_harm_42 : decode cX11_harm 42 = .ok (.invokevirtual 181, 3) := by decide +kernel
theorem dX11_harm_45 : decode cX11_harm 45 = .ok (.invokevirtual 108, 3) := by decide +kernel
theorem dX11_harm_48 : decode cX11_harm 48 = .ok (.ireturn, 1) := by decide +kernel
theorem dX11_harmed_0 : decode cX11_harmed 0 = .ok (.aload_n 0, 1) := by decide +kernel
theorem dX11_harmed_1 : decode cX11_harmed 1 = .ok (.getfield 16, 3) := by decide +kernel
theorem dX11_harmed_4 : decode cX11_harmed 4 = .ok (.getfield 114, 3) := by decide +kernel
theorem dX11_harmed_7 : decode cX11_harmed 7 = .ok (.ifCond .ne 9, 3) := by decide +kernel
theorem dX11_harmed_10 : decode cX11_harmed 10 = .ok (.aload_n 0, 1) := by decide +kernel
theorem dX11_harmed_11 : decode cX11_harmed 11 = .ok (.iconst 1, 1) := by decide +kernel
theorem dX11_harmed_12 : decode cX11_harmed 12 = .ok (.invokevirtual 73, 3) := by decide +kernel
theorem dX11_harmed_15 : decode cX11_harmed 15 = .ok (.ireturn, 1) := by decide +kernel
theorem dX11_harmed_16 : decode cX11_harmed 16 = .ok (.aload_n 0, 1) := by decide +kernel
theorem dX11_harmed_17 : decode cX11_harmed 17 = .ok (.aload_n 0, 1) := by decide +kernel
theorem dX11_harmed_18 : decode cX11_harmed 18 = .ok (.getfield 33, 3) := by decide +kernel
theorem dX11_harmed_21 : decode cX11_harmed 21 = .ok (.invokevirtual 184, 3) := by decide +kernel
theorem dX11_harmed_24 : decode cX11_harmed 24 = .ok (.invokevirtual 108, 3) := by decide +kernel
theorem dX11_harmed_27 : decode cX11_harmed 27 = .ok (.ireturn, 1) := by decide +kernel
theorem dX11_worst_0 : decode cX11_worst 0 = .ok (.aload_n 0, 1) := by decide +kernel
theorem dX11_worst_1 : decode cX11_worst 1 = .ok (.getfield 16, 3) := by decide +kernel
theorem dX11_worst_4 : decode cX11_worst 4 = .ok (.getfield 114, 3) := by decide +kernel
theorem dX11_worst_7 : decode cX11_worst 7 = .ok (.ifCond .ne 9, 3) := by decide +kernel
theorem dX11_worst_10 : decode cX11_worst 10 = .ok (.aload_n 0, 1) := by decide +kernel
theorem dX11_worst_11 : decode cX11_worst 11 = .ok (.iconst 1, 1) := by decide +kernel
theorem dX11_worst_12 : decode cX11_worst 12 = .ok (.invokevirtual 73, 3) := by decide +kernel
theorem dX11_worst_15 : decode cX11_worst 15 = .ok (.ireturn, 1) := by decide +kernel
theorem dX11_worst_16 : decode cX11_worst 16 = .ok (.iconst 0, 1) := by decide +kernel
theorem dX11_worst_17 : decode cX11_worst 17 = .ok (.istore_n 1, 1) := by decide +kernel
theorem dX11_worst_18 : decode cX11_worst 18 = .ok (.bipush (-2), 2) := by decide +kernel
theorem dX11_worst_20 : decode cX11_worst 20 = .ok (.istore_n 2, 1) := by decide +kernel
theorem dX11_worst_21 : decode cX11_worst 21 = .ok (.iconst 0, 1) := by decide +kernel
theorem dX11_worst_22 : decode cX11_worst 22 = .ok (.istore_n 3, 1) := by decide +kernel
theorem dX11_worst_23 : decode cX11_worst 23 = .ok (.iload_n 3, 1) := by decide +kernel
theorem dX11_worst_24 : decode cX11_worst 24 = .ok (.bipush 7, 2) := by decide +kernel
theorem dX11_worst_26 : decode cX11_worst 26 = .ok (.if_icmp .ge 34, 3) := by decide +kernel
theorem dX11_worst_29 : decode cX11_worst 29 = .ok (.aload_n 0, 1) := by decide +kernel
theorem dX11_worst_30 : decode cX11_worst 30 = .ok (.getfield 33, 3) := by decide +kernel
theorem dX11_worst_33 : decode cX11_worst 33 = .ok (.getfield 139, 3) := by decide +kernel
theorem dX11_worst_36 : decode cX11_worst 36 = .ok (.iload_n 3, 1) := by decide +kernel
theorem dX11_worst_37 : decode cX11_worst 37 = .ok (.iaload, 1) := by decide +kernel
theorem dX11_worst_38 : decode cX11_worst 38 = .ok (.iload_n 1, 1) := by decide +kernel
theorem dX11_worst_39 : decode cX11_worst 39 = .ok (.if_icmp .le 15, 3) := by decide +kernel
theorem dX11_worst_42 : decode cX11_worst 42 = .ok (.aload_n 0, 1) := by decide +kernel
theorem dX11_worst_43 : decode cX11_worst 43 = .ok (.getfield 33, 3) := by decide +kernel
theorem dX11_worst_46 : decode cX11_worst 46 = .ok (.getfield 139, 3) := by decide +kernel
theorem dX11_worst_49 : decode cX11_worst 49 = .ok (.iload_n 3, 1) := by decide +kernel
theorem dX11_worst_50 : decode cX11_worst 50 = .ok (.iaload, 1) := by decide +kernel
theorem dX11_worst_51 : decode cX11_worst 51 = .ok (.istore_n 1, 1) := by decide +kernel
theorem dX11_worst_52 : decode cX11_worst 52 = .ok (.iload_n 3, 1) := by decide +kernel
theorem dX11_worst_53 : decode cX11_worst 53 = .ok (.istore_n 2, 1) := by decide +kernel
theorem dX11_worst_54 : decode cX11_worst 54 = .ok (.iinc 3 1, 3) := by decide +kernel
theorem dX11_worst_57 : decode cX11_worst 57 = .ok (.goto (-34), 3) := by decide +kernel
theorem dX11_worst_60 : decode cX11_worst 60 = .ok (.aload_n 0, 1) := by decide +kernel
theorem dX11_worst_61 : decode cX11_worst 61 = .ok (.iload_n 2, 1) := by decide +kernel
theorem dX11_worst_62 : decode cX11_worst 62 = .ok (.invokevirtual 108, 3) := by decide +kernel
theorem dX11_worst_65 : decode cX11_worst 65 = .ok (.ireturn, 1) := by decide +kernel
theorem dX11_tending_0 : decode cX11_tending 0 = .ok (.aload_n 0, 1) := by decide +kernel
theorem dX11_tending_1 : decode cX11_tending 1 = .ok (.getfield 16, 3) := by decide +kernel
theorem dX11_tending_4 : decode cX11_tending 4 = .ok (.getfield 114, 3) := by decide +kernel
theorem dX11_tending_7 : decode cX11_tending 7 = .ok (.ifCond .ne 9, 3) := by decide +kernel
theorem dX11_tending_10 : decode cX11_tending 10 = .ok (.aload_n 0, 1) := by decide +kernel
theorem dX11_tending_11 : decode cX11_tending 11 = .ok (.iconst 1, 1) := by decide +kernel
theorem dX11_tending_12 : decode cX11_tending 12 = .ok (.invokevirtual 73, 3) := by decide +kernel
theorem dX11_tending_15 : decode cX11_tending 15 = .ok (.ireturn, 1) := by decide +kernel
theorem dX11_tending_16 : decode cX11_tending 16 = .ok (.aload_n 0, 1) := by decide +kernel
theorem dX11_tending_17 : decode cX11_tending 17 = .ok (.getfield 47, 3) := by decide +kernel
theorem dX11_tending_20 : decode cX11_tending 20 = .ok (.aload_n 0, 1) := by decide +kernel
theorem dX11_tending_21 : decode cX11_tending 21 = .ok (.getfield 16, 3) := by decide +kernel
theorem dX11_tending_24 : decode cX11_tending 24 = .ok (.invokevirtual 187, 3) := by decide +kernel
theorem dX11_tending_27 : decode cX11_tending 27 = .ok (.aload_n 0, 1) := by decide +kernel
theorem dX11_tending_28 : decode cX11_tending 28 = .ok (.aload_n 0, 1) := by decide +kernel
theorem dX11_tending_29 : decode cX11_tending 29 = .ok (.getfield 47, 3) := by decide +kernel
theorem dX11_tending_32 : decode cX11_tending 32 = .ok (.aload_n 0, 1) := by decide +kernel
theorem dX11_tending_33 : decode cX11_tending 33 = .ok (.getfield 47, 3) := by decide +kernel
theorem dX11_tending_36 : decode cX11_tending 36 = .ok (.getfield 191, 3) := by decide +kernel
theorem dX11_tending_39 : decode cX11_tending 39 = .ok (.invokevirtual 194, 3) := by decide +kernel
theorem dX11_tending_42 : decode cX11_tending 42 = .ok (.invokevirtual 108, 3) := by decide +kernel
theorem dX11_tending_45 : decode cX11_tending 45 = .ok (.ireturn, 1) := by decide +kernel
theorem dX11_tendedBy_0 : decode cX11_tendedBy 0 = .ok (.aload_n 0, 1) := by decide +kernel
theorem dX11_tendedBy_1 : decode cX11_tendedBy 1 = .ok (.iload_n 1, 1) := by decide +kernel
theorem dX11_tendedBy_2 : decode cX11_tendedBy 2 = .ok (.invokevirtual 125, 3) := by decide +kernel
theorem dX11_tendedBy_5 : decode cX11_tendedBy 5 = .ok (.ifCond .ne 9, 3) := by decide +kernel
theorem dX11_tendedBy_8 : decode cX11_tendedBy 8 = .ok (.aload_n 0, 1) := by decide +kernel
theorem dX11_tendedBy_9 : decode cX11_tendedBy 9 = .ok (.iconst 1, 1) := by decide +kernel
theorem dX11_tendedBy_10 : decode cX11_tendedBy 10 = .ok (.invokevirtual 73, 3) := by decide +kernel
theorem dX11_tendedBy_13 : decode cX11_tendedBy 13 = .ok (.ireturn, 1) := by decide +kernel
theorem dX11_tendedBy_14 : decode cX11_tendedBy 14 = .ok (.aload_n 0, 1) := by decide +kernel
theorem dX11_tendedBy_15 : decode cX11_tendedBy 15 = .ok (.getfield 47, 3) := by decide +kernel
theorem dX11_tendedBy_18 : decode cX11_tendedBy 18 = .ok (.aload_n 0, 1) := by decide +kernel
theorem dX11_tendedBy_19 : decode cX11_tendedBy 19 = .ok (.getfield 16, 3) := by decide +kernel
theorem dX11_tendedBy_22 : decode cX11_tendedBy 22 = .ok (.invokevirtual 187, 3) := by decide +kernel
theorem dX11_tendedBy_25 : decode cX11_tendedBy 25 = .ok (.aload_n 0, 1) := by decide +kernel
theorem dX11_tendedBy_26 : decode cX11_tendedBy 26 = .ok (.aload_n 0, 1) := by decide +kernel
theorem dX11_tendedBy_27 : decode cX11_tendedBy 27 = .ok (.getfield 47, 3) := by decide +kernel
theorem dX11_tendedBy_30 : decode cX11_tendedBy 30 = .ok (.getfield 197, 3) := by decide +kernel
theorem dX11_tendedBy_33 : decode cX11_tendedBy 33 = .ok (.iload_n 1, 1) := by decide +kernel
theorem dX11_tendedBy_34 : decode cX11_tendedBy 34 = .ok (.iaload, 1) := by decide +kernel
theorem dX11_tendedBy_35 : decode cX11_tendedBy 35 = .ok (.invokevirtual 108, 3) := by decide +kernel
theorem dX11_tendedBy_38 : decode cX11_tendedBy 38 = .ok (.ireturn, 1) := by decide +kernel
theorem dX11_left_0 : decode cX11_left 0 = .ok (.aload_n 0, 1) := by decide +kernel
theorem dX11_left_1 : decode cX11_left 1 = .ok (.getfield 16, 3) := by decide +kernel
theorem dX11_left_4 : decode cX11_left 4 = .ok (.getfield 114, 3) := by decide +kernel
theorem dX11_left_7 : decode cX11_left 7 = .ok (.ifCond .ne 9, 3) := by decide +kernel
theorem dX11_left_10 : decode cX11_left 10 = .ok (.aload_n 0, 1) := by decide +kernel
theorem dX11_left_11 : decode cX11_left 11 = .ok (.iconst 1, 1) := by decide +kernel
theorem dX11_left_12 : decode cX11_left 12 = .ok (.invokevirtual 73, 3) := by decide +kernel
theorem dX11_left_15 : decode cX11_left 15 = .ok (.ireturn, 1) := by decide +kernel
theorem dX11_left_16 : decode cX11_left 16 = .ok (.aload_n 0, 1) := by decide +kernel
theorem dX11_left_17 : decode cX11_left 17 = .ok (.getfield 47, 3) := by decide +kernel
theorem dX11_left_20 : decode cX11_left 20 = .ok (.aload_n 0, 1) := by decide +kernel
theorem dX11_left_21 : decode cX11_left 21 = .ok (.getfield 16, 3) := by decide +kernel
theorem dX11_left_24 : decode cX11_left 24 = .ok (.invokevirtual 187, 3) := by decide +kernel
theorem dX11_left_27 : decode cX11_left 27 = .ok (.aload_n 0, 1) := by decide +kernel
theorem dX11_left_28 : decode cX11_left 28 = .ok (.aload_n 0, 1) := by decide +kernel
theorem dX11_left_29 : decode cX11_left 29 = .ok (.getfield 16, 3) := by decide +kernel
theorem dX11_left_32 : decode cX11_left 32 = .ok (.getfield 99, 3) := by decide +kernel
theorem dX11_left_35 : decode cX11_left 35 = .ok (.getfield 103, 3) := by decide +kernel
theorem dX11_left_38 : decode cX11_left 38 = .ok (.invokestatic 198, 3) := by decide +kernel
theorem dX11_left_41 : decode cX11_left 41 = .ok (.aload_n 0, 1) := by decide +kernel
theorem dX11_left_42 : decode cX11_left 42 = .ok (.getfield 47, 3) := by decide +kernel
theorem dX11_left_45 : decode cX11_left 45 = .ok (.getfield 201, 3) := by decide +kernel
theorem dX11_left_48 : decode cX11_left 48 = .ok (.iconst (-1), 1) := by decide +kernel
theorem dX11_left_49 : decode cX11_left 49 = .ok (.ixor, 1) := by decide +kernel
theorem dX11_left_50 : decode cX11_left 50 = .ok (.iand, 1) := by decide +kernel
theorem dX11_left_51 : decode cX11_left 51 = .ok (.invokevirtual 108, 3) := by decide +kernel
theorem dX11_left_54 : decode cX11_left 54 = .ok (.ireturn, 1) := by decide +kernel
theorem dX11_worthOf_0 : decode cX11_worthOf 0 = .ok (.aload_n 0, 1) := by decide +kernel
theorem dX11_worthOf_1 : decode cX11_worthOf 1 = .ok (.iload_n 1, 1) := by decide +kernel
theorem dX11_worthOf_2 : decode cX11_worthOf 2 = .ok (.invokevirtual 148, 3) := by decide +kernel
theorem dX11_worthOf_5 : decode cX11_worthOf 5 = .ok (.ifCond .ne 9, 3) := by decide +kernel
theorem dX11_worthOf_8 : decode cX11_worthOf 8 = .ok (.aload_n 0, 1) := by decide +kernel
theorem dX11_worthOf_9 : decode cX11_worthOf 9 = .ok (.iconst 1, 1) := by decide +kernel
theorem dX11_worthOf_10 : decode cX11_worthOf 10 = .ok (.invokevirtual 73, 3) := by decide +kernel
theorem dX11_worthOf_13 : decode cX11_worthOf 13 = .ok (.ireturn, 1) := by decide +kernel
theorem dX11_worthOf_14 : decode cX11_worthOf 14 = .ok (.aload_n 0, 1) := by decide +kernel
theorem dX11_worthOf_15 : decode cX11_worthOf 15 = .ok (.getfield 47, 3) := by decide +kernel
theorem dX11_worthOf_18 : decode cX11_worthOf 18 = .ok (.aload_n 0, 1) := by decide +kernel
theorem dX11_worthOf_19 : decode cX11_worthOf 19 = .ok (.getfield 16, 3) := by decide +kernel
theorem dX11_worthOf_22 : decode cX11_worthOf 22 = .ok (.invokevirtual 187, 3) := by decide +kernel
theorem dX11_worthOf_25 : decode cX11_worthOf 25 = .ok (.aload_n 0, 1) := by decide +kernel
theorem dX11_worthOf_26 : decode cX11_worthOf 26 = .ok (.getfield 47, 3) := by decide +kernel
theorem dX11_worthOf_29 : decode cX11_worthOf 29 = .ok (.getfield 191, 3) := by decide +kernel
theorem dX11_worthOf_32 : decode cX11_worthOf 32 = .ok (.iload_n 1, 1) := by decide +kernel
theorem dX11_worthOf_33 : decode cX11_worthOf 33 = .ok (.aload_n 0, 1) := by decide +kernel
theorem dX11_worthOf_34 : decode cX11_worthOf 34 = .ok (.getfield 16, 3) := by decide +kernel
theorem dX11_worthOf_37 : decode cX11_worthOf 37 = .ok (.getfield 151, 3) := by decide +kernel
theorem dX11_worthOf_40 : decode cX11_worthOf 40 = .ok (.getfield 158, 3) := by decide +kernel
theorem dX11_worthOf_43 : decode cX11_worthOf 43 = .ok (.iload_n 1, 1) := by decide +kernel
theorem dX11_worthOf_44 : decode cX11_worthOf 44 = .ok (.iaload, 1) := by decide +kernel
theorem dX11_worthOf_45 : decode cX11_worthOf 45 = .ok (.invokestatic 204, 3) := by decide +kernel
theorem dX11_worthOf_48 : decode cX11_worthOf 48 = .ok (.isub, 1) := by decide +kernel
theorem dX11_worthOf_49 : decode cX11_worthOf 49 = .ok (.istore_n 2, 1) := by decide +kernel
theorem dX11_worthOf_50 : decode cX11_worthOf 50 = .ok (.aload_n 0, 1) := by decide +kernel
theorem dX11_worthOf_51 : decode cX11_worthOf 51 = .ok (.aload_n 0, 1) := by decide +kernel
theorem dX11_worthOf_52 : decode cX11_worthOf 52 = .ok (.getfield 47, 3) := by decide +kernel
theorem dX11_worthOf_55 : decode cX11_worthOf 55 = .ok (.aload_n 0, 1) := by decide +kernel
theorem dX11_worthOf_56 : decode cX11_worthOf 56 = .ok (.getfield 47, 3) := by decide +kernel
theorem dX11_worthOf_59 : decode cX11_worthOf 59 = .ok (.getfield 191, 3) := by decide +kernel
theorem dX11_worthOf_62 : decode cX11_worthOf 62 = .ok (.invokevirtual 194, 3) := by decide +kernel
theorem dX11_worthOf_65 : decode cX11_worthOf 65 = .ok (.aload_n 0, 1) := by decide +kernel
theorem dX11_worthOf_66 : decode cX11_worthOf 66 = .ok (.getfield 47, 3) := by decide +kernel
theorem dX11_worthOf_69 : decode cX11_worthOf 69 = .ok (.iload_n 2, 1) := by decide +kernel
theorem dX11_worthOf_70 : decode cX11_worthOf 70 = .ok (.invokevirtual 194, 3) := by decide +kernel
theorem dX11_worthOf_73 : decode cX11_worthOf 73 = .ok (.isub, 1) := by decide +kernel
theorem dX11_worthOf_74 : decode cX11_worthOf 74 = .ok (.invokevirtual 108, 3) := by decide +kernel
theorem dX11_worthOf_77 : decode cX11_worthOf 77 = .ok (.ireturn, 1) := by decide +kernel
theorem dX11_bestHand_0 : decode cX11_bestHand 0 = .ok (.aload_n 0, 1) := by decide +kernel
theorem dX11_bestHand_1 : decode cX11_bestHand 1 = .ok (.getfield 16, 3) := by decide +kernel
theorem dX11_bestHand_4 : decode cX11_bestHand 4 = .ok (.getfield 114, 3) := by decide +kernel
theorem dX11_bestHand_7 : decode cX11_bestHand 7 = .ok (.ifCond .ne 9, 3) := by decide +kernel
theorem dX11_bestHand_10 : decode cX11_bestHand 10 = .ok (.aload_n 0, 1) := by decide +kernel
theorem dX11_bestHand_11 : decode cX11_bestHand 11 = .ok (.iconst 1, 1) := by decide +kernel
theorem dX11_bestHand_12 : decode cX11_bestHand 12 = .ok (.invokevirtual 73, 3) := by decide +kernel
theorem dX11_bestHand_15 : decode cX11_bestHand 15 = .ok (.ireturn, 1) := by decide +kernel
theorem dX11_bestHand_16 : decode cX11_bestHand 16 = .ok (.aload_n 0, 1) := by decide +kernel
theorem dX11_bestHand_17 : decode cX11_bestHand 17 = .ok (.getfield 47, 3) := by decide +kernel
theorem dX11_bestHand_20 : decode cX11_bestHand 20 = .ok (.aload_n 0, 1) := by decide +kernel
theorem dX11_bestHand_21 : decode cX11_bestHand 21 = .ok (.getfield 16, 3) := by decide +kernel
theorem dX11_bestHand_24 : decode cX11_bestHand 24 = .ok (.invokevirtual 187, 3) := by decide +kernel
theorem dX11_bestHand_27 : decode cX11_bestHand 27 = .ok (.aload_n 0, 1) := by decide +kernel
theorem dX11_bestHand_28 : decode cX11_bestHand 28 = .ok (.getfield 47, 3) := by decide +kernel
theorem dX11_bestHand_31 : decode cX11_bestHand 31 = .ok (.aload_n 0, 1) := by decide +kernel
theorem dX11_bestHand_32 : decode cX11_bestHand 32 = .ok (.getfield 47, 3) := by decide +kernel
theorem dX11_bestHand_35 : decode cX11_bestHand 35 = .ok (.getfield 191, 3) := by decide +kernel
theorem dX11_bestHand_38 : decode cX11_bestHand 38 = .ok (.invokevirtual 194, 3) := by decide +kernel
theorem dX11_bestHand_41 : decode cX11_bestHand 41 = .ok (.istore_n 1, 1) := by decide +kernel
theorem dX11_bestHand_42 : decode cX11_bestHand 42 = .ok (.bipush (-2), 2) := by decide +kernel
theorem dX11_bestHand_44 : decode cX11_bestHand 44 = .ok (.istore_n 2, 1) := by decide +kernel
theorem dX11_bestHand_45 : decode cX11_bestHand 45 = .ok (.iconst 0, 1) := by decide +kernel
theorem dX11_bestHand_46 : decode cX11_bestHand 46 = .ok (.istore_n 3, 1) := by decide +kernel
theorem dX11_bestHand_47 : decode cX11_bestHand 47 = .ok (.iload_n 3, 1) := by decide +kernel
theorem dX11_bestHand_48 : decode cX11_bestHand 48 = .ok (.aload_n 0, 1) := by decide +kernel
theorem dX11_bestHand_49 : decode cX11_bestHand 49 = .ok (.getfield 16, 3) := by decide +kernel
theorem dX11_bestHand_52 : decode cX11_bestHand 52 = .ok (.getfield 151, 3) := by decide +kernel
theorem dX11_bestHand_55 : decode cX11_bestHand 55 = .ok (.getfield 207, 3) := by decide +kernel
theorem dX11_bestHand_58 : decode cX11_bestHand 58 = .ok (.if_icmp .ge 42, 3) := by decide +kernel
theorem dX11_bestHand_61 : decode cX11_bestHand 61 = .ok (.aload_n 0, 1) := by decide +kernel
theorem dX11_bestHand_62 : decode cX11_bestHand 62 = .ok (.getfield 47, 3) := by decide +kernel
theorem dX11_bestHand_65 : decode cX11_bestHand 65 = .ok (.aload_n 0, 1) := by decide +kernel
theorem dX11_bestHand_66 : decode cX11_bestHand 66 = .ok (.getfield 47, 3) := by decide +kernel
theorem dX11_bestHand_69 : decode cX11_bestHand 69 = .ok (.getfield 191, 3) := by decide +kernel
theorem dX11_bestHand_72 : decode cX11_bestHand 72 = .ok (.iload_n 3, 1) := by decide +kernel
theorem dX11_bestHand_73 : decode cX11_bestHand 73 = .ok (.iconst 1, 1) := by decide +kernel
theorem dX11_bestHand_74 : decode cX11_bestHand 74 = .ok (.invokestatic 204, 3) := by decide +kernel
theorem dX11_bestHand_77 : decode cX11_bestHand 77 = .ok (.iadd, 1) := by decide +kernel
theorem dX11_bestHand_78 : decode cX11_bestHand 78 = .ok (.invokevirtual 194, 3) := by decide +kernel
theorem dX11_bestHand_81 : decode cX11_bestHand 81 = .ok (.istore 4, 2) := by decide +kernel
theorem dX11_bestHand_83 : decode cX11_bestHand 83 = .ok (.iload 4, 2) := by decide +kernel
theorem dX11_bestHand_85 : decode cX11_bestHand 85 = .ok (.iload_n 1, 1) := by decide +kernel
theorem dX11_bestHand_86 : decode cX11_bestHand 86 = .ok (.if_icmp .le 8, 3) := by decide +kernel
theorem dX11_bestHand_89 : decode cX11_bestHand 89 = .ok (.iload 4, 2) := by decide +kernel
theorem dX11_bestHand_91 : decode cX11_bestHand 91 = .ok (.istore_n 1, 1) := by decide +kernel
theorem dX11_bestHand_92 : decode cX11_bestHand 92 = .ok (.iload_n 3, 1) := by decide +kernel
theorem dX11_bestHand_93 : decode cX11_bestHand 93 = .ok (.istore_n 2, 1) := by decide +kernel
theorem dX11_bestHand_94 : decode cX11_bestHand 94 = .ok (.iinc 3 1, 3) := by decide +kernel
theorem dX11_bestHand_97 : decode cX11_bestHand 97 = .ok (.goto (-50), 3) := by decide +kernel
theorem dX11_bestHand_100 : decode cX11_bestHand 100 = .ok (.aload_n 0, 1) := by decide +kernel
theorem dX11_bestHand_101 : decode cX11_bestHand 101 = .ok (.iload_n 2, 1) := by decide +kernel
theorem dX11_bestHand_102 : decode cX11_bestHand 102 = .ok (.invokevirtual 108, 3) := by decide +kernel
theorem dX11_bestHand_105 : decode cX11_bestHand 105 = .ok (.ireturn, 1) := by decide +kernel
theorem dX11_word_0 : decode cX11_word 0 = .ok (.aload_n 0, 1) := by decide +kernel
theorem dX11_word_1 : decode cX11_word 1 = .ok (.iload_n 1, 1) := by decide +kernel
theorem dX11_word_2 : decode cX11_word 2 = .ok (.invokevirtual 208, 3) := by decide +kernel
theorem dX11_word_5 : decode cX11_word 5 = .ok (.ifCond .ne 9, 3) := by decide +kernel
theorem dX11_word_8 : decode cX11_word 8 = .ok (.aload_n 0, 1) := by decide +kernel
theorem dX11_word_9 : decode cX11_word 9 = .ok (.iconst 1, 1) := by decide +kernel
theorem dX11_word_10 : decode cX11_word 10 = .ok (.invokevirtual 73, 3) := by decide +kernel
theorem dX11_word_13 : decode cX11_word 13 = .ok (.ireturn, 1) := by decide +kernel
theorem dX11_word_14 : decode cX11_word 14 = .ok (.iload_n 2, 1) := by decide +kernel
theorem dX11_word_15 : decode cX11_word 15 = .ok (.tableswitch 105 0 3 #[29, 46, 63, 88], 29) := by decide +kernel
theorem dX11_word_44 : decode cX11_word 44 = .ok (.aload_n 0, 1) := by decide +kernel
theorem dX11_word_45 : decode cX11_word 45 = .ok (.aload_n 0, 1) := by decide +kernel
theorem dX11_word_46 : decode cX11_word 46 = .ok (.getfield 16, 3) := by decide +kernel
theorem dX11_word_49 : decode cX11_word 49 = .ok (.getfield 211, 3) := by decide +kernel
theorem dX11_word_52 : decode cX11_word 52 = .ok (.getfield 215, 3) := by decide +kernel
theorem dX11_word_55 : decode cX11_word 55 = .ok (.iload_n 1, 1) := by decide +kernel
theorem dX11_word_56 : decode cX11_word 56 = .ok (.iaload, 1) := by decide +kernel
theorem dX11_word_57 : decode cX11_word 57 = .ok (.invokevirtual 108, 3) := by decide +kernel
theorem dX11_word_60 : decode cX11_word 60 = .ok (.ireturn, 1) := by decide +kernel
theorem dX11_word_61 : decode cX11_word 61 = .ok (.aload_n 0, 1) := by decide +kernel
theorem dX11_word_62 : decode cX11_word 62 = .ok (.aload_n 0, 1) := by decide +kernel
theorem dX11_word_63 : decode cX11_word 63 = .ok (.getfield 16, 3) := by decide +kernel
theorem dX11_word_66 : decode cX11_word 66 = .ok (.getfield 211, 3) := by decide +kernel
theorem dX11_word_69 : decode cX11_word 69 = .ok (.getfield 220, 3) := by decide +kernel
theorem dX11_word_72 : decode cX11_word 72 = .ok (.iload_n 1, 1) := by decide +kernel
theorem dX11_word_73 : decode cX11_word 73 = .ok (.iaload, 1) := by decide +kernel
theorem dX11_word_74 : decode cX11_word 74 = .ok (.invokevirtual 108, 3) := by decide +kernel
theorem dX11_word_77 : decode cX11_word 77 = .ok (.ireturn, 1) := by decide +kernel
theorem dX11_word_78 : decode cX11_word 78 = .ok (.aload_n 0, 1) := by decide +kernel
theorem dX11_word_79 : decode cX11_word 79 = .ok (.aload_n 0, 1) := by decide +kernel
theorem dX11_word_80 : decode cX11_word 80 = .ok (.getfield 33, 3) := by decide +kernel
theorem dX11_word_83 : decode cX11_word 83 = .ok (.getfield 223, 3) := by decide +kernel
theorem dX11_word_86 : decode cX11_word 86 = .ok (.iload_n 1, 1) := by decide +kernel
theorem dX11_word_87 : decode cX11_word 87 = .ok (.invokestatic 226, 3) := by decide +kernel
theorem dX11_word_90 : decode cX11_word 90 = .ok (.iand, 1) := by decide +kernel
theorem dX11_word_91 : decode cX11_word 91 = .ok (.ifCond .eq 7, 3) := by decide +kernel
theorem dX11_word_94 : decode cX11_word 94 = .ok (.iconst 1, 1) := by decide +kernel
theorem dX11_word_95 : decode cX11_word 95 = .ok (.goto 4, 3) := by decide +kernel
theorem dX11_word_98 : decode cX11_word 98 = .ok (.iconst 0, 1) := by decide +kernel
theorem dX11_word_99 : decode cX11_word 99 = .ok (.invokevirtual 108, 3) := by decide +kernel
theorem dX11_word_102 : decode cX11_word 102 = .ok (.ireturn, 1) := by decide +kernel
theorem dX11_word_103 : decode cX11_word 103 = .ok (.aload_n 0, 1) := by decide +kernel
theorem dX11_word_104 : decode cX11_word 104 = .ok (.aload_n 0, 1) := by decide +kernel
theorem dX11_word_105 : decode cX11_word 105 = .ok (.getfield 16, 3) := by decide +kernel
theorem dX11_word_108 : decode cX11_word 108 = .ok (.getfield 211, 3) := by decide +kernel
theorem dX11_word_111 : decode cX11_word 111 = .ok (.getfield 229, 3) := by decide +kernel
theorem dX11_word_114 : decode cX11_word 114 = .ok (.iload_n 1, 1) := by decide +kernel
theorem dX11_word_115 : decode cX11_word 115 = .ok (.iaload, 1) := by decide +kernel
theorem dX11_word_116 : decode cX11_word 116 = .ok (.invokevirtual 108, 3) := by decide +kernel
theorem dX11_word_119 : decode cX11_word 119 = .ok (.ireturn, 1) := by decide +kernel
theorem dX11_word_120 : decode cX11_word 120 = .ok (.aload_n 0, 1) := by decide +kernel
theorem dX11_word_121 : decode cX11_word 121 = .ok (.iconst 1, 1) := by decide +kernel
theorem dX11_word_122 : decode cX11_word 122 = .ok (.invokevirtual 73, 3) := by decide +kernel
theorem dX11_word_125 : decode cX11_word 125 = .ok (.ireturn, 1) := by decide +kernel
theorem dX11_chance_0 : decode cX11_chance 0 = .ok (.aload_n 0, 1) := by decide +kernel
theorem dX11_chance_1 : decode cX11_chance 1 = .ok (.iload_n 1, 1) := by decide +kernel
theorem dX11_chance_2 : decode cX11_chance 2 = .ok (.invokevirtual 208, 3) := by decide +kernel
theorem dX11_chance_5 : decode cX11_chance 5 = .ok (.ifCond .ne 10, 3) := by decide +kernel
theorem dX11_chance_8 : decode cX11_chance 8 = .ok (.aload_n 0, 1) := by decide +kernel
theorem dX11_chance_9 : decode cX11_chance 9 = .ok (.iconst 1, 1) := by decide +kernel
theorem dX11_chance_10 : decode cX11_chance 10 = .ok (.invokevirtual 73, 3) := by decide +kernel
theorem dX11_chance_13 : decode cX11_chance 13 = .ok (.i2l, 1) := by decide +kernel
theorem dX11_chance_14 : decode cX11_chance 14 = .ok (.lreturn, 1) := by decide +kernel
theorem dX11_chance_15 : decode cX11_chance 15 = .ok (.aload_n 0, 1) := by decide +kernel
theorem dX11_chance_16 : decode cX11_chance 16 = .ok (.invokevirtual 232, 3) := by decide +kernel
theorem dX11_chance_19 : decode cX11_chance 19 = .ok (.iload_n 1, 1) := by decide +kernel
theorem dX11_chance_20 : decode cX11_chance 20 = .ok (.invokestatic 226, 3) := by decide +kernel
theorem dX11_chance_23 : decode cX11_chance 23 = .ok (.iand, 1) := by decide +kernel
theorem dX11_chance_24 : decode cX11_chance 24 = .ok (.ifCond .ne 11, 3) := by decide +kernel
theorem dX11_chance_27 : decode cX11_chance 27 = .ok (.aload_n 0, 1) := by decide +kernel
theorem dX11_chance_28 : decode cX11_chance 28 = .ok (.iconst 0, 1) := by decide +kernel
theorem dX11_chance_29 : decode cX11_chance 29 = .ok (.iconst 1, 1) := by decide +kernel
theorem dX11_chance_30 : decode cX11_chance 30 = .ok (.iload_n 2, 1) := by decide +kernel
theorem dX11_chance_31 : decode cX11_chance 31 = .ok (.invokevirtual 235, 3) := by decide +kernel
theorem dX11_chance_34 : decode cX11_chance 34 = .ok (.lreturn, 1) := by decide +kernel
theorem dX11_chance_35 : decode cX11_chance 35 = .ok (.aload_n 0, 1) := by decide +kernel
theorem dX11_chance_36 : decode cX11_chance 36 = .ok (.getfield 54, 3) := by decide +kernel
theorem dX11_chance_39 : decode cX11_chance 39 = .ok (.aload_n 0, 1) := by decide +kernel
theorem dX11_chance_40 : decode cX11_chance 40 = .ok (.getfield 16, 3) := by decide +kernel
theorem dX11_chance_43 : decode cX11_chance 43 = .ok (.getfield 211, 3) := by decide +kernel
theorem dX11_chance_46 : decode cX11_chance 46 = .ok (.invokevirtual 239, 3) := by decide +kernel
theorem dX11_chance_49 : decode cX11_chance 49 = .ok (.aload_n 0, 1) := by decide +kernel
theorem dX11_chance_50 : decode cX11_chance 50 = .ok (.aload_n 0, 1) := by decide +kernel
theorem dX11_chance_51 : decode cX11_chance 51 = .ok (.getfield 16, 3) := by decide +kernel
theorem dX11_chance_54 : decode cX11_chance 54 = .ok (.getfield 211, 3) := by decide +kernel
theorem dX11_chance_57 : decode cX11_chance 57 = .ok (.getfield 215, 3) := by decide +kernel
theorem dX11_chance_60 : decode cX11_chance 60 = .ok (.iload_n 1, 1) := by decide +kernel
theorem dX11_chance_61 : decode cX11_chance 61 = .ok (.iaload, 1) := by decide +kernel
theorem dX11_chance_62 : decode cX11_chance 62 = .ok (.aload_n 0, 1) := by decide +kernel
theorem dX11_chance_63 : decode cX11_chance 63 = .ok (.getfield 54, 3) := by decide +kernel
theorem dX11_chance_66 : decode cX11_chance 66 = .ok (.aload_n 0, 1) := by decide +kernel
theorem dX11_chance_67 : decode cX11_chance 67 = .ok (.invokevirtual 232, 3) := by decide +kernel
theorem dX11_chance_70 : decode cX11_chance 70 = .ok (.invokevirtual 242, 3) := by decide +kernel
theorem dX11_chance_73 : decode cX11_chance 73 = .ok (.iload_n 2, 1) := by decide +kernel
theorem dX11_chance_74 : decode cX11_chance 74 = .ok (.invokevirtual 235, 3) := by decide +kernel
theorem dX11_chance_77 : decode cX11_chance 77 = .ok (.lreturn, 1) := by decide +kernel
theorem dX11_mean_0 : decode cX11_mean 0 = .ok (.aload_n 0, 1) := by decide +kernel
theorem dX11_mean_1 : decode cX11_mean 1 = .ok (.getfield 16, 3) := by decide +kernel
theorem dX11_mean_4 : decode cX11_mean 4 = .ok (.getfield 114, 3) := by decide +kernel
theorem dX11_mean_7 : decode cX11_mean 7 = .ok (.ifCond .ne 10, 3) := by decide +kernel
theorem dX11_mean_10 : decode cX11_mean 10 = .ok (.aload_n 0, 1) := by decide +kernel
theorem dX11_mean_11 : decode cX11_mean 11 = .ok (.iconst 1, 1) := by decide +kernel
theorem dX11_mean_12 : decode cX11_mean 12 = .ok (.invokevirtual 73, 3) := by decide +kernel
theorem dX11_mean_15 : decode cX11_mean 15 = .ok (.i2l, 1) := by decide +kernel
theorem dX11_mean_16 : decode cX11_mean 16 = .ok (.lreturn, 1) := by decide +kernel
theorem dX11_mean_17 : decode cX11_mean 17 = .ok (.aload_n 0, 1) := by decide +kernel
theorem dX11_mean_18 : decode cX11_mean 18 = .ok (.invokevirtual 232, 3) := by decide +kernel
theorem dX11_mean_21 : decode cX11_mean 21 = .ok (.ifCond .ne 11, 3) := by decide +kernel
theorem dX11_mean_24 : decode cX11_mean 24 = .ok (.aload_n 0, 1) := by decide +kernel
theorem dX11_mean_25 : decode cX11_mean 25 = .ok (.iconst 0, 1) := by decide +kernel
theorem dX11_mean_26 : decode cX11_mean 26 = .ok (.iconst 1, 1) := by decide +kernel
theorem dX11_mean_27 : decode cX11_mean 27 = .ok (.iload_n 1, 1) := by decide +kernel
theorem dX11_mean_28 : decode cX11_mean 28 = .ok (.invokevirtual 235, 3) := by decide +kernel
theorem dX11_mean_31 : decode cX11_mean 31 = .ok (.lreturn, 1) := by decide +kernel
theorem dX11_mean_32 : decode cX11_mean 32 = .ok (.aload_n 0, 1) := by decide +kernel
theorem dX11_mean_33 : decode cX11_mean 33 = .ok (.getfield 54, 3) := by decide +kernel
theorem dX11_mean_36 : decode cX11_mean 36 = .ok (.aload_n 0, 1) := by decide +kernel
theorem dX11_mean_37 : decode cX11_mean 37 = .ok (.getfield 16, 3) := by decide +kernel
theorem dX11_mean_40 : decode cX11_mean 40 = .ok (.getfield 211, 3) := by decide +kernel
theorem dX11_mean_43 : decode cX11_mean 43 = .ok (.invokevirtual 239, 3) := by decide +kernel
theorem dX11_mean_46 : decode cX11_mean 46 = .ok (.aload_n 0, 1) := by decide +kernel
theorem dX11_mean_47 : decode cX11_mean 47 = .ok (.aload_n 0, 1) := by decide +kernel
theorem dX11_mean_48 : decode cX11_mean 48 = .ok (.getfield 54, 3) := by decide +kernel
theorem dX11_mean_51 : decode cX11_mean 51 = .ok (.aload_n 0, 1) := by decide +kernel
theorem dX11_mean_52 : decode cX11_mean 52 = .ok (.invokevirtual 232, 3) := by decide +kernel
theorem dX11_mean_55 : decode cX11_mean 55 = .ok (.invokevirtual 245, 3) := by decide +kernel
theorem dX11_mean_58 : decode cX11_mean 58 = .ok (.aload_n 0, 1) := by decide +kernel
theorem dX11_mean_59 : decode cX11_mean 59 = .ok (.getfield 54, 3) := by decide +kernel
theorem dX11_mean_62 : decode cX11_mean 62 = .ok (.aload_n 0, 1) := by decide +kernel
theorem dX11_mean_63 : decode cX11_mean 63 = .ok (.invokevirtual 232, 3) := by decide +kernel
theorem dX11_mean_66 : decode cX11_mean 66 = .ok (.invokevirtual 242, 3) := by decide +kernel
theorem dX11_mean_69 : decode cX11_mean 69 = .ok (.iload_n 1, 1) := by decide +kernel
theorem dX11_mean_70 : decode cX11_mean 70 = .ok (.invokevirtual 235, 3) := by decide +kernel
theorem dX11_mean_73 : decode cX11_mean 73 = .ok (.lreturn, 1) := by decide +kernel
theorem dX11_searchAt_0 : decode cX11_searchAt 0 = .ok (.aload_n 0, 1) := by decide +kernel
theorem dX11_searchAt_1 : decode cX11_searchAt 1 = .ok (.getfield 16, 3) := by decide +kernel
theorem dX11_searchAt_4 : decode cX11_searchAt 4 = .ok (.getfield 114, 3) := by decide +kernel
theorem dX11_searchAt_7 : decode cX11_searchAt 7 = .ok (.ifCond .eq 18, 3) := by decide +kernel
theorem dX11_searchAt_10 : decode cX11_searchAt 10 = .ok (.iload_n 1, 1) := by decide +kernel
theorem dX11_searchAt_11 : decode cX11_searchAt 11 = .ok (.ifCond .lt 14, 3) := by decide +kernel
theorem dX11_searchAt_14 : decode cX11_searchAt 14 = .ok (.iload_n 1, 1) := by decide +kernel
theorem dX11_searchAt_15 : decode cX11_searchAt 15 = .ok (.aload_n 0, 1) := by decide +kernel
theorem dX11_searchAt_16 : decode cX11_searchAt 16 = .ok (.invokevirtual 232, 3) := by decide +kernel
theorem dX11_searchAt_19 : decode cX11_searchAt 19 = .ok (.invokestatic 248, 3) := by decide +kernel
theorem dX11_searchAt_22 : decode cX11_searchAt 22 = .ok (.if_icmp .lt 9, 3) := by decide +kernel
theorem dX11_searchAt_25 : decode cX11_searchAt 25 = .ok (.aload_n 0, 1) := by decide +kernel
theorem dX11_searchAt_26 : decode cX11_searchAt 26 = .ok (.iconst 1, 1) := by decide +kernel
theorem dX11_searchAt_27 : decode cX11_searchAt 27 = .ok (.invokevirtual 73, 3) := by decide +kernel
theorem dX11_searchAt_30 : decode cX11_searchAt 30 = .ok (.ireturn, 1) := by decide +kernel
theorem dX11_searchAt_31 : decode cX11_searchAt 31 = .ok (.aload_n 0, 1) := by decide +kernel
theorem dX11_searchAt_32 : decode cX11_searchAt 32 = .ok (.getfield 54, 3) := by decide +kernel
theorem dX11_searchAt_35 : decode cX11_searchAt 35 = .ok (.aload_n 0, 1) := by decide +kernel
theorem dX11_searchAt_36 : decode cX11_searchAt 36 = .ok (.getfield 16, 3) := by decide +kernel
theorem dX11_searchAt_39 : decode cX11_searchAt 39 = .ok (.getfield 211, 3) := by decide +kernel
theorem dX11_searchAt_42 : decode cX11_searchAt 42 = .ok (.invokevirtual 239, 3) := by decide +kernel
theorem dX11_searchAt_45 : decode cX11_searchAt 45 = .ok (.aload_n 0, 1) := by decide +kernel
theorem dX11_searchAt_46 : decode cX11_searchAt 46 = .ok (.aload_n 0, 1) := by decide +kernel
theorem dX11_searchAt_47 : decode cX11_searchAt 47 = .ok (.getfield 54, 3) := by decide +kernel
theorem dX11_searchAt_50 : decode cX11_searchAt 50 = .ok (.aload_n 0, 1) := by decide +kernel
theorem dX11_searchAt_51 : decode cX11_searchAt 51 = .ok (.getfield 16, 3) := by decide +kernel
theorem dX11_searchAt_54 : decode cX11_searchAt 54 = .ok (.getfield 211, 3) := by decide +kernel
theorem dX11_searchAt_57 : decode cX11_searchAt 57 = .ok (.aload_n 0, 1) := by decide +kernel
theorem dX11_searchAt_58 : decode cX11_searchAt 58 = .ok (.invokevirtual 232, 3) := by decide +kernel
theorem dX11_searchAt_61 : decode cX11_searchAt 61 = .ok (.iload_n 1, 1) := by decide +kernel
theorem dX11_searchAt_62 : decode cX11_searchAt 62 = .ok (.invokevirtual 253, 3) := by decide +kernel
theorem dX11_searchAt_65 : decode cX11_searchAt 65 = .ok (.invokevirtual 108, 3) := by decide +kernel
theorem dX11_searchAt_68 : decode cX11_searchAt 68 = .ok (.ireturn, 1) := by decide +kernel
theorem dX11_meanFirst_0 : decode cX11_meanFirst 0 = .ok (.aload_n 0, 1) := by decide +kernel
theorem dX11_meanFirst_1 : decode cX11_meanFirst 1 = .ok (.iload_n 1, 1) := by decide +kernel
theorem dX11_meanFirst_2 : decode cX11_meanFirst 2 = .ok (.invokevirtual 208, 3) := by decide +kernel
theorem dX11_meanFirst_5 : decode cX11_meanFirst 5 = .ok (.ifCond .ne 10, 3) := by decide +kernel
theorem dX11_meanFirst_8 : decode cX11_meanFirst 8 = .ok (.aload_n 0, 1) := by decide +kernel
theorem dX11_meanFirst_9 : decode cX11_meanFirst 9 = .ok (.iconst 1, 1) := by decide +kernel
theorem dX11_meanFirst_10 : decode cX11_meanFirst 10 = .ok (.invokevirtual 73, 3) := by decide +kernel
theorem dX11_meanFirst_13 : decode cX11_meanFirst 13 = .ok (.i2l, 1) := by decide +kernel
theorem dX11_meanFirst_14 : decode cX11_meanFirst 14 = .ok (.lreturn, 1) := by decide +kernel
theorem dX11_meanFirst_15 : decode cX11_meanFirst 15 = .ok (.aload_n 0, 1) := by decide +kernel
theorem dX11_meanFirst_16 : decode cX11_meanFirst 16 = .ok (.iload_n 1, 1) := by decide +kernel
theorem dX11_meanFirst_17 : decode cX11_meanFirst 17 = .ok (.invokevirtual 257, 3) := by decide +kernel
theorem dX11_meanFirst_20 : decode cX11_meanFirst 20 = .ok (.ifCond .ne 10, 3) := by decide +kernel
theorem dX11_meanFirst_23 : decode cX11_meanFirst 23 = .ok (.aload_n 0, 1) := by decide +kernel
theorem dX11_meanFirst_24 : decode cX11_meanFirst 24 = .ok (.iconst 5, 1) := by decide +kernel
theorem dX11_meanFirst_25 : decode cX11_meanFirst 25 = .ok (.invokevirtual 73, 3) := by decide +kernel
theorem dX11_meanFirst_28 : decode cX11_meanFirst 28 = .ok (.i2l, 1) := by decide +kernel
theorem dX11_meanFirst_29 : decode cX11_meanFirst 29 = .ok (.lreturn, 1) := by decide +kernel
theorem dX11_meanFirst_30 : decode cX11_meanFirst 30 = .ok (.aload_n 0, 1) := by decide +kernel
theorem dX11_meanFirst_31 : decode cX11_meanFirst 31 = .ok (.getfield 54, 3) := by decide +kernel
theorem dX11_meanFirst_34 : decode cX11_meanFirst 34 = .ok (.aload_n 0, 1) := by decide +kernel
theorem dX11_meanFirst_35 : decode cX11_meanFirst 35 = .ok (.getfield 16, 3) := by decide +kernel
theorem dX11_meanFirst_38 : decode cX11_meanFirst 38 = .ok (.getfield 211, 3) := by decide +kernel
theorem dX11_meanFirst_41 : decode cX11_meanFirst 41 = .ok (.invokevirtual 239, 3) := by decide +kernel
theorem dX11_meanFirst_44 : decode cX11_meanFirst 44 = .ok (.aload_n 0, 1) := by decide +kernel
theorem dX11_meanFirst_45 : decode cX11_meanFirst 45 = .ok (.aload_n 0, 1) := by decide +kernel
theorem dX11_meanFirst_46 : decode cX11_meanFirst 46 = .ok (.getfield 54, 3) := by decide +kernel
theorem dX11_meanFirst_49 : decode cX11_meanFirst 49 = .ok (.aload_n 0, 1) := by decide +kernel
theorem dX11_meanFirst_50 : decode cX11_meanFirst 50 = .ok (.getfield 16, 3) := by decide +kernel
theorem dX11_meanFirst_53 : decode cX11_meanFirst 53 = .ok (.getfield 211, 3) := by decide +kernel
theorem dX11_meanFirst_56 : decode cX11_meanFirst 56 = .ok (.aload_n 0, 1) := by decide +kernel
theorem dX11_meanFirst_57 : decode cX11_meanFirst 57 = .ok (.invokevirtual 232, 3) := by decide +kernel
theorem dX11_meanFirst_60 : decode cX11_meanFirst 60 = .ok (.iload_n 1, 1) := by decide +kernel
theorem dX11_meanFirst_61 : decode cX11_meanFirst 61 = .ok (.invokevirtual 260, 3) := by decide +kernel
theorem dX11_meanFirst_64 : decode cX11_meanFirst 64 = .ok (.aload_n 0, 1) := by decide +kernel
theorem dX11_meanFirst_65 : decode cX11_meanFirst 65 = .ok (.getfield 54, 3) := by decide +kernel
theorem dX11_meanFirst_68 : decode cX11_meanFirst 68 = .ok (.aload_n 0, 1) := by decide +kernel
theorem dX11_meanFirst_69 : decode cX11_meanFirst 69 = .ok (.invokevirtual 232, 3) := by decide +kernel
theorem dX11_meanFirst_72 : decode cX11_meanFirst 72 = .ok (.invokevirtual 242, 3) := by decide +kernel
theorem dX11_meanFirst_75 : decode cX11_meanFirst 75 = .ok (.iload_n 2, 1) := by decide +kernel
theorem dX11_meanFirst_76 : decode cX11_meanFirst 76 = .ok (.invokevirtual 235, 3) := by decide +kernel
theorem dX11_meanFirst_79 : decode cX11_meanFirst 79 = .ok (.lreturn, 1) := by decide +kernel
theorem dX11_within_0 : decode cX11_within 0 = .ok (.aload_n 0, 1) := by decide +kernel
theorem dX11_within_1 : decode cX11_within 1 = .ok (.getfield 16, 3) := by decide +kernel
theorem dX11_within_4 : decode cX11_within 4 = .ok (.getfield 114, 3) := by decide +kernel
theorem dX11_within_7 : decode cX11_within 7 = .ok (.ifCond .ne 10, 3) := by decide +kernel
theorem dX11_within_10 : decode cX11_within 10 = .ok (.aload_n 0, 1) := by decide +kernel
theorem dX11_within_11 : decode cX11_within 11 = .ok (.iconst 1, 1) := by decide +kernel
theorem dX11_within_12 : decode cX11_within 12 = .ok (.invokevirtual 73, 3) := by decide +kernel
theorem dX11_within_15 : decode cX11_within 15 = .ok (.i2l, 1) := by decide +kernel
theorem dX11_within_16 : decode cX11_within 16 = .ok (.lreturn, 1) := by decide +kernel
theorem dX11_within_17 : decode cX11_within 17 = .ok (.iload_n 1, 1) := by decide +kernel
theorem dX11_within_18 : decode cX11_within 18 = .ok (.ifCond .lt 10, 3) := by decide +kernel
theorem dX11_within_21 : decode cX11_within 21 = .ok (.iload_n 1, 1) := by decide +kernel
theorem dX11_within_22 : decode cX11_within 22 = .ok (.sipush 300, 3) := by decide +kernel
theorem dX11_within_25 : decode cX11_within 25 = .ok (.if_icmp .le 10, 3) := by decide +kernel
theorem dX11_within_28 : decode cX11_within 28 = .ok (.aload_n 0, 1) := by decide +kernel
theorem dX11_within_29 : decode cX11_within 29 = .ok (.iconst 2, 1) := by decide +kernel
theorem dX11_within_30 : decode cX11_within 30 = .ok (.invokevirtual 73, 3) := by decide +kernel
theorem dX11_within_33 : decode cX11_within 33 = .ok (.i2l, 1) := by decide +kernel
theorem dX11_within_34 : decode cX11_within 34 = .ok (.lreturn, 1) := by decide +kernel
theorem dX11_within_35 : decode cX11_within 35 = .ok (.aload_n 0, 1) := by decide +kernel
theorem dX11_within_36 : decode cX11_within 36 = .ok (.invokevirtual 232, 3) := by decide +kernel
theorem dX11_within_39 : decode cX11_within 39 = .ok (.ifCond .ne 11, 3) := by decide +kernel
theorem dX11_within_42 : decode cX11_within 42 = .ok (.aload_n 0, 1) := by decide +kernel
theorem dX11_within_43 : decode cX11_within 43 = .ok (.iconst 0, 1) := by decide +kernel
theorem dX11_within_44 : decode cX11_within 44 = .ok (.iconst 1, 1) := by decide +kernel
theorem dX11_within_45 : decode cX11_within 45 = .ok (.iload_n 2, 1) := by decide +kernel
theorem dX11_within_46 : decode cX11_within 46 = .ok (.invokevirtual 235, 3) := by decide +kernel
theorem dX11_within_49 : decode cX11_within 49 = .ok (.lreturn, 1) := by decide +kernel
theorem dX11_within_50 : decode cX11_within 50 = .ok (.aload_n 0, 1) := by decide +kernel
theorem dX11_within_51 : decode cX11_within 51 = .ok (.getfield 54, 3) := by decide +kernel
theorem dX11_within_54 : decode cX11_within 54 = .ok (.aload_n 0, 1) := by decide +kernel
theorem dX11_within_55 : decode cX11_within 55 = .ok (.getfield 16, 3) := by decide +kernel
theorem dX11_within_58 : decode cX11_within 58 = .ok (.getfield 211, 3) := by decide +kernel
theorem dX11_within_61 : decode cX11_within 61 = .ok (.invokevirtual 239, 3) := by decide +kernel
theorem dX11_within_64 : decode cX11_within 64 = .ok (.aload_n 0, 1) := by decide +kernel
theorem dX11_within_65 : decode cX11_within 65 = .ok (.getfield 54, 3) := by decide +kernel
theorem dX11_within_68 : decode cX11_within 68 = .ok (.aload_n 0, 1) := by decide +kernel
theorem dX11_within_69 : decode cX11_within 69 = .ok (.invokevirtual 232, 3) := by decide +kernel
theorem dX11_within_72 : decode cX11_within 72 = .ok (.iload_n 1, 1) := by decide +kernel
theorem dX11_within_73 : decode cX11_within 73 = .ok (.invokevirtual 263, 3) := by decide +kernel
theorem dX11_within_76 : decode cX11_within 76 = .ok (.istore_n 3, 1) := by decide +kernel
theorem dX11_within_77 : decode cX11_within 77 = .ok (.aload_n 0, 1) := by decide +kernel
theorem dX11_within_78 : decode cX11_within 78 = .ok (.aload_n 0, 1) := by decide +kernel
theorem dX11_within_79 : decode cX11_within 79 = .ok (.getfield 54, 3) := by decide +kernel
theorem dX11_within_82 : decode cX11_within 82 = .ok (.iload_n 3, 1) := by decide +kernel
theorem dX11_within_83 : decode cX11_within 83 = .ok (.invokevirtual 242, 3) := by decide +kernel
theorem dX11_within_86 : decode cX11_within 86 = .ok (.aload_n 0, 1) := by decide +kernel
theorem dX11_within_87 : decode cX11_within 87 = .ok (.getfield 54, 3) := by decide +kernel
theorem dX11_within_90 : decode cX11_within 90 = .ok (.aload_n 0, 1) := by decide +kernel
theorem dX11_within_91 : decode cX11_within 91 = .ok (.invokevirtual 232, 3) := by decide +kernel
theorem dX11_within_94 : decode cX11_within 94 = .ok (.invokevirtual 242, 3) := by decide +kernel
theorem dX11_within_97 : decode cX11_within 97 = .ok (.iload_n 2, 1) := by decide +kernel
theorem dX11_within_98 : decode cX11_within 98 = .ok (.invokevirtual 235, 3) := by decide +kernel
theorem dX11_within_101 : decode cX11_within 101 = .ok (.lreturn, 1) := by decide +kernel
theorem dX11_withinWords_0 : decode cX11_withinWords 0 = .ok (.aload_n 0, 1) := by decide +kernel
theorem dX11_withinWords_1 : decode cX11_withinWords 1 = .ok (.getfield 16, 3) := by decide +kernel
theorem dX11_withinWords_4 : decode cX11_withinWords 4 = .ok (.getfield 114, 3) := by decide +kernel
theorem dX11_withinWords_7 : decode cX11_withinWords 7 = .ok (.ifCond .ne 9, 3) := by decide +kernel
theorem dX11_withinWords_10 : decode cX11_withinWords 10 = .ok (.aload_n 0, 1) := by decide +kernel
theorem dX11_withinWords_11 : decode cX11_withinWords 11 = .ok (.iconst 1, 1) := by decide +kernel
theorem dX11_withinWords_12 : decode cX11_withinWords 12 = .ok (.invokevirtual 73, 3) := by decide +kernel
theorem dX11_withinWords_15 : decode cX11_withinWords 15 = .ok (.ireturn, 1) := by decide +kernel
theorem dX11_withinWords_16 : decode cX11_withinWords 16 = .ok (.iload_n 1, 1) := by decide +kernel
theorem dX11_withinWords_17 : decode cX11_withinWords 17 = .ok (.ifCond .lt 10, 3) := by decide +kernel
theorem dX11_withinWords_20 : decode cX11_withinWords 20 = .ok (.iload_n 1, 1) := by decide +kernel
theorem dX11_withinWords_21 : decode cX11_withinWords 21 = .ok (.sipush 300, 3) := by decide +kernel
theorem dX11_withinWords_24 : decode cX11_withinWords 24 = .ok (.if_icmp .le 9, 3) := by decide +kernel
theorem dX11_withinWords_27 : decode cX11_withinWords 27 = .ok (.aload_n 0, 1) := by decide +kernel
theorem dX11_withinWords_28 : decode cX11_withinWords 28 = .ok (.iconst 2, 1) := by decide +kernel
theorem dX11_withinWords_29 : decode cX11_withinWords 29 = .ok (.invokevirtual 73, 3) := by decide +kernel
theorem dX11_withinWords_32 : decode cX11_withinWords 32 = .ok (.ireturn, 1) := by decide +kernel
theorem dX11_withinWords_33 : decode cX11_withinWords 33 = .ok (.aload_n 0, 1) := by decide +kernel
theorem dX11_withinWords_34 : decode cX11_withinWords 34 = .ok (.getfield 54, 3) := by decide +kernel
theorem dX11_withinWords_37 : decode cX11_withinWords 37 = .ok (.aload_n 0, 1) := by decide +kernel
theorem dX11_withinWords_38 : decode cX11_withinWords 38 = .ok (.getfield 16, 3) := by decide +kernel
theorem dX11_withinWords_41 : decode cX11_withinWords 41 = .ok (.getfield 211, 3) := by decide +kernel
theorem dX11_withinWords_44 : decode cX11_withinWords 44 = .ok (.invokevirtual 239, 3) := by decide +kernel
theorem dX11_withinWords_47 : decode cX11_withinWords 47 = .ok (.aload_n 0, 1) := by decide +kernel
theorem dX11_withinWords_48 : decode cX11_withinWords 48 = .ok (.aload_n 0, 1) := by decide +kernel
theorem dX11_withinWords_49 : decode cX11_withinWords 49 = .ok (.getfield 54, 3) := by decide +kernel
theorem dX11_withinWords_52 : decode cX11_withinWords 52 = .ok (.aload_n 0, 1) := by decide +kernel
theorem dX11_withinWords_53 : decode cX11_withinWords 53 = .ok (.invokevirtual 232, 3) := by decide +kernel
theorem dX11_withinWords_56 : decode cX11_withinWords 56 = .ok (.iload_n 1, 1) := by decide +kernel
theorem dX11_withinWords_57 : decode cX11_withinWords 57 = .ok (.invokevirtual 263, 3) := by decide +kernel
theorem dX11_withinWords_60 : decode cX11_withinWords 60 = .ok (.invokevirtual 108, 3) := by decide +kernel
theorem dX11_withinWords_63 : decode cX11_withinWords 63 = .ok (.ireturn, 1) := by decide +kernel
theorem dX11_next_0 : decode cX11_next 0 = .ok (.aload_n 0, 1) := by decide +kernel
theorem dX11_next_1 : decode cX11_next 1 = .ok (.getfield 16, 3) := by decide +kernel
theorem dX11_next_4 : decode cX11_next 4 = .ok (.getfield 114, 3) := by decide +kernel
theorem dX11_next_7 : decode cX11_next 7 = .ok (.ifCond .ne 9, 3) := by decide +kernel
theorem dX11_next_10 : decode cX11_next 10 = .ok (.aload_n 0, 1) := by decide +kernel
theorem dX11_next_11 : decode cX11_next 11 = .ok (.iconst 1, 1) := by decide +kernel
theorem dX11_next_12 : decode cX11_next 12 = .ok (.invokevirtual 73, 3) := by decide +kernel
theorem dX11_next_15 : decode cX11_next 15 = .ok (.ireturn, 1) := by decide +kernel
theorem dX11_next_16 : decode cX11_next 16 = .ok (.iconst 0, 1) := by decide +kernel
theorem dX11_next_17 : decode cX11_next 17 = .ok (.istore_n 1, 1) := by decide +kernel
theorem dX11_next_18 : decode cX11_next 18 = .ok (.iconst 0, 1) := by decide +kernel
theorem dX11_next_19 : decode cX11_next 19 = .ok (.istore_n 2, 1) := by decide +kernel
theorem dX11_next_20 : decode cX11_next 20 = .ok (.iload_n 2, 1) := by decide +kernel
theorem dX11_next_21 : decode cX11_next 21 = .ok (.aload_n 0, 1) := by decide +kernel
theorem dX11_next_22 : decode cX11_next 22 = .ok (.getfield 16, 3) := by decide +kernel
theorem dX11_next_25 : decode cX11_next 25 = .ok (.getfield 211, 3) := by decide +kernel
theorem dX11_next_28 : decode cX11_next 28 = .ok (.getfield 266, 3) := by decide +kernel
theorem dX11_next_31 : decode cX11_next 31 = .ok (.if_icmp .ge 24, 3) := by decide +kernel
theorem dX11_next_34 : decode cX11_next 34 = .ok (.aload_n 0, 1) := by decide +kernel
theorem dX11_next_35 : decode cX11_next 35 = .ok (.iload_n 2, 1) := by decide +kernel
theorem dX11_next_36 : decode cX11_next 36 = .ok (.invokevirtual 257, 3) := by decide +kernel
theorem dX11_next_39 : decode cX11_next 39 = .ok (.ifCond .eq 10, 3) := by decide +kernel
theorem dX11_next_42 : decode cX11_next 42 = .ok (.iload_n 1, 1) := by decide +kernel
theorem dX11_next_43 : decode cX11_next 43 = .ok (.iload_n 2, 1) := by decide +kernel
theorem dX11_next_44 : decode cX11_next 44 = .ok (.invokestatic 226, 3) := by decide +kernel
theorem dX11_next_47 : decode cX11_next 47 = .ok (.ior, 1) := by decide +kernel
theorem dX11_next_48 : decode cX11_next 48 = .ok (.istore_n 1, 1) := by decide +kernel
theorem dX11_next_49 : decode cX11_next 49 = .ok (.iinc 2 1, 3) := by decide +kernel
theorem dX11_next_52 : decode cX11_next 52 = .ok (.goto (-32), 3) := by decide +kernel
theorem dX11_next_55 : decode cX11_next 55 = .ok (.aload_n 0, 1) := by decide +kernel
theorem dX11_next_56 : decode cX11_next 56 = .ok (.iload_n 1, 1) := by decide +kernel
theorem dX11_next_57 : decode cX11_next 57 = .ok (.invokevirtual 108, 3) := by decide +kernel
theorem dX11_next_60 : decode cX11_next 60 = .ok (.ireturn, 1) := by decide +kernel
theorem dX11_rows_0 : decode cX11_rows 0 = .ok (.aload_n 0, 1) := by decide +kernel
theorem dX11_rows_1 : decode cX11_rows 1 = .ok (.getfield 16, 3) := by decide +kernel
theorem dX11_rows_4 : decode cX11_rows 4 = .ok (.getfield 114, 3) := by decide +kernel
theorem dX11_rows_7 : decode cX11_rows 7 = .ok (.ifCond .ne 9, 3) := by decide +kernel
theorem dX11_rows_10 : decode cX11_rows 10 = .ok (.aload_n 0, 1) := by decide +kernel
theorem dX11_rows_11 : decode cX11_rows 11 = .ok (.iconst 1, 1) := by decide +kernel
theorem dX11_rows_12 : decode cX11_rows 12 = .ok (.invokevirtual 73, 3) := by decide +kernel
theorem dX11_rows_15 : decode cX11_rows 15 = .ok (.ireturn, 1) := by decide +kernel
theorem dX11_rows_16 : decode cX11_rows 16 = .ok (.aload_n 0, 1) := by decide +kernel
theorem dX11_rows_17 : decode cX11_rows 17 = .ok (.getfield 54, 3) := by decide +kernel
theorem dX11_rows_20 : decode cX11_rows 20 = .ok (.aload_n 0, 1) := by decide +kernel
theorem dX11_rows_21 : decode cX11_rows 21 = .ok (.getfield 16, 3) := by decide +kernel
theorem dX11_rows_24 : decode cX11_rows 24 = .ok (.getfield 211, 3) := by decide +kernel
theorem dX11_rows_27 : decode cX11_rows 27 = .ok (.invokevirtual 239, 3) := by decide +kernel
theorem dX11_rows_30 : decode cX11_rows 30 = .ok (.aload_n 0, 1) := by decide +kernel
theorem dX11_rows_31 : decode cX11_rows 31 = .ok (.aload_n 0, 1) := by decide +kernel
theorem dX11_rows_32 : decode cX11_rows 32 = .ok (.getfield 54, 3) := by decide +kernel
theorem dX11_rows_35 : decode cX11_rows 35 = .ok (.aload_n 0, 1) := by decide +kernel
theorem dX11_rows_36 : decode cX11_rows 36 = .ok (.invokevirtual 267, 3) := by decide +kernel
theorem dX11_rows_39 : decode cX11_rows 39 = .ok (.invokevirtual 270, 3) := by decide +kernel
theorem dX11_rows_42 : decode cX11_rows 42 = .ok (.invokevirtual 108, 3) := by decide +kernel
theorem dX11_rows_45 : decode cX11_rows 45 = .ok (.ireturn, 1) := by decide +kernel
theorem dX11_fits_0 : decode cX11_fits 0 = .ok (.aload_n 0, 1) := by decide +kernel
theorem dX11_fits_1 : decode cX11_fits 1 = .ok (.getfield 16, 3) := by decide +kernel
theorem dX11_fits_4 : decode cX11_fits 4 = .ok (.getfield 114, 3) := by decide +kernel
theorem dX11_fits_7 : decode cX11_fits 7 = .ok (.ifCond .ne 9, 3) := by decide +kernel
theorem dX11_fits_10 : decode cX11_fits 10 = .ok (.aload_n 0, 1) := by decide +kernel
theorem dX11_fits_11 : decode cX11_fits 11 = .ok (.iconst 1, 1) := by decide +kernel
theorem dX11_fits_12 : decode cX11_fits 12 = .ok (.invokevirtual 73, 3) := by decide +kernel
theorem dX11_fits_15 : decode cX11_fits 15 = .ok (.ireturn, 1) := by decide +kernel
theorem dX11_fits_16 : decode cX11_fits 16 = .ok (.aload_n 0, 1) := by decide +kernel
theorem dX11_fits_17 : decode cX11_fits 17 = .ok (.getfield 61, 3) := by decide +kernel
theorem dX11_fits_20 : decode cX11_fits 20 = .ok (.aload_n 0, 1) := by decide +kernel
theorem dX11_fits_21 : decode cX11_fits 21 = .ok (.getfield 16, 3) := by decide +kernel
theorem dX11_fits_24 : decode cX11_fits 24 = .ok (.getfield 273, 3) := by decide +kernel
theorem dX11_fits_27 : decode cX11_fits 27 = .ok (.invokevirtual 277, 3) := by decide +kernel
theorem dX11_fits_30 : decode cX11_fits 30 = .ok (.aload_n 0, 1) := by decide +kernel
theorem dX11_fits_31 : decode cX11_fits 31 = .ok (.aload_n 0, 1) := by decide +kernel
theorem dX11_fits_32 : decode cX11_fits 32 = .ok (.getfield 61, 3) := by decide +kernel
theorem dX11_fits_35 : decode cX11_fits 35 = .ok (.getfield 280, 3) := by decide +kernel
theorem dX11_fits_38 : decode cX11_fits 38 = .ok (.invokevirtual 108, 3) := by decide +kernel
theorem dX11_fits_41 : decode cX11_fits 41 = .ok (.ireturn, 1) := by decide +kernel
theorem dX11_could_0 : decode cX11_could 0 = .ok (.aload_n 0, 1) := by decide +kernel
theorem dX11_could_1 : decode cX11_could 1 = .ok (.getfield 16, 3) := by decide +kernel
theorem dX11_could_4 : decode cX11_could 4 = .ok (.getfield 114, 3) := by decide +kernel
theorem dX11_could_7 : decode cX11_could 7 = .ok (.ifCond .ne 9, 3) := by decide +kernel
theorem dX11_could_10 : decode cX11_could 10 = .ok (.aload_n 0, 1) := by decide +kernel
theorem dX11_could_11 : decode cX11_could 11 = .ok (.iconst 1, 1) := by decide +kernel
theorem dX11_could_12 : decode cX11_could 12 = .ok (.invokevirtual 73, 3) := by decide +kernel
theorem dX11_could_15 : decode cX11_could 15 = .ok (.ireturn, 1) := by decide +kernel
theorem dX11_could_16 : decode cX11_could 16 = .ok (.aload_n 0, 1) := by decide +kernel
theorem dX11_could_17 : decode cX11_could 17 = .ok (.getfield 61, 3) := by decide +kernel
theorem dX11_could_20 : decode cX11_could 20 = .ok (.aload_n 0, 1) := by decide +kernel
theorem dX11_could_21 : decode cX11_could 21 = .ok (.getfield 16, 3) := by decide +kernel
theorem dX11_could_24 : decode cX11_could 24 = .ok (.getfield 273, 3) := by decide +kernel
theorem dX11_could_27 : decode cX11_could 27 = .ok (.invokevirtual 277, 3) := by decide +kernel
theorem dX11_could_30 : decode cX11_could 30 = .ok (.aload_n 0, 1) := by decide +kernel
theorem dX11_could_31 : decode cX11_could 31 = .ok (.aload_n 0, 1) := by decide +kernel
theorem dX11_could_32 : decode cX11_could 32 = .ok (.getfield 61, 3) := by decide +kernel
theorem dX11_could_35 : decode cX11_could 35 = .ok (.getfield 281, 3) := by decide +kernel
theorem dX11_could_38 : decode cX11_could 38 = .ok (.invokevirtual 108, 3) := by decide +kernel
theorem dX11_could_41 : decode cX11_could 41 = .ok (.ireturn, 1) := by decide +kernel
theorem dX11_surely_0 : decode cX11_surely 0 = .ok (.aload_n 0, 1) := by decide +kernel
theorem dX11_surely_1 : decode cX11_surely 1 = .ok (.getfield 16, 3) := by decide +kernel
theorem dX11_surely_4 : decode cX11_surely 4 = .ok (.getfield 114, 3) := by decide +kernel
theorem dX11_surely_7 : decode cX11_surely 7 = .ok (.ifCond .ne 9, 3) := by decide +kernel
theorem dX11_surely_10 : decode cX11_surely 10 = .ok (.aload_n 0, 1) := by decide +kernel
theorem dX11_surely_11 : decode cX11_surely 11 = .ok (.iconst 1, 1) := by decide +kernel
theorem dX11_surely_12 : decode cX11_surely 12 = .ok (.invokevirtual 73, 3) := by decide +kernel
theorem dX11_surely_15 : decode cX11_surely 15 = .ok (.ireturn, 1) := by decide +kernel
theorem dX11_surely_16 : decode cX11_surely 16 = .ok (.aload_n 0, 1) := by decide +kernel
theorem dX11_surely_17 : decode cX11_surely 17 = .ok (.getfield 61, 3) := by decide +kernel
theorem dX11_surely_20 : decode cX11_surely 20 = .ok (.aload_n 0, 1) := by decide +kernel
theorem dX11_surely_21 : decode cX11_surely 21 = .ok (.getfield 16, 3) := by decide +kernel
theorem dX11_surely_24 : decode cX11_surely 24 = .ok (.getfield 273, 3) := by decide +kernel
theorem dX11_surely_27 : decode cX11_surely 27 = .ok (.invokevirtual 277, 3) := by decide +kernel
theorem dX11_surely_30 : decode cX11_surely 30 = .ok (.aload_n 0, 1) := by decide +kernel
theorem dX11_surely_31 : decode cX11_surely 31 = .ok (.aload_n 0, 1) := by decide +kernel
theorem dX11_surely_32 : decode cX11_surely 32 = .ok (.getfield 61, 3) := by decide +kernel
theorem dX11_surely_35 : decode cX11_surely 35 = .ok (.getfield 284, 3) := by decide +kernel
theorem dX11_surely_38 : decode cX11_surely 38 = .ok (.invokevirtual 108, 3) := by decide +kernel
theorem dX11_surely_41 : decode cX11_surely 41 = .ok (.ireturn, 1) := by decide +kernel
theorem dX11_ask_0 : decode cX11_ask 0 = .ok (.aload_n 0, 1) := by decide +kernel
theorem dX11_ask_1 : decode cX11_ask 1 = .ok (.getfield 16, 3) := by decide +kernel
theorem dX11_ask_4 : decode cX11_ask 4 = .ok (.getfield 114, 3) := by decide +kernel
theorem dX11_ask_7 : decode cX11_ask 7 = .ok (.ifCond .ne 9, 3) := by decide +kernel
theorem dX11_ask_10 : decode cX11_ask 10 = .ok (.aload_n 0, 1) := by decide +kernel
theorem dX11_ask_11 : decode cX11_ask 11 = .ok (.iconst 1, 1) := by decide +kernel
theorem dX11_ask_12 : decode cX11_ask 12 = .ok (.invokevirtual 73, 3) := by decide +kernel
theorem dX11_ask_15 : decode cX11_ask 15 = .ok (.ireturn, 1) := by decide +kernel
theorem dX11_ask_16 : decode cX11_ask 16 = .ok (.aload_n 0, 1) := by decide +kernel
theorem dX11_ask_17 : decode cX11_ask 17 = .ok (.getfield 61, 3) := by decide +kernel
theorem dX11_ask_20 : decode cX11_ask 20 = .ok (.aload_n 0, 1) := by decide +kernel
theorem dX11_ask_21 : decode cX11_ask 21 = .ok (.getfield 16, 3) := by decide +kernel
theorem dX11_ask_24 : decode cX11_ask 24 = .ok (.getfield 273, 3) := by decide +kernel
theorem dX11_ask_27 : decode cX11_ask 27 = .ok (.invokevirtual 277, 3) := by decide +kernel
theorem dX11_ask_30 : decode cX11_ask 30 = .ok (.aload_n 0, 1) := by decide +kernel
theorem dX11_ask_31 : decode cX11_ask 31 = .ok (.aload_n 0, 1) := by decide +kernel
theorem dX11_ask_32 : decode cX11_ask 32 = .ok (.getfield 61, 3) := by decide +kernel
theorem dX11_ask_35 : decode cX11_ask 35 = .ok (.getfield 287, 3) := by decide +kernel
theorem dX11_ask_38 : decode cX11_ask 38 = .ok (.invokevirtual 108, 3) := by decide +kernel
theorem dX11_ask_41 : decode cX11_ask 41 = .ok (.ireturn, 1) := by decide +kernel
theorem dX11_askLeaves_0 : decode cX11_askLeaves 0 = .ok (.aload_n 0, 1) := by decide +kernel
theorem dX11_askLeaves_1 : decode cX11_askLeaves 1 = .ok (.getfield 16, 3) := by decide +kernel
theorem dX11_askLeaves_4 : decode cX11_askLeaves 4 = .ok (.getfield 114, 3) := by decide +kernel
theorem dX11_askLeaves_7 : decode cX11_askLeaves 7 = .ok (.ifCond .ne 9, 3) := by decide +kernel
theorem dX11_askLeaves_10 : decode cX11_askLeaves 10 = .ok (.aload_n 0, 1) := by decide +kernel
theorem dX11_askLeaves_11 : decode cX11_askLeaves 11 = .ok (.iconst 1, 1) := by decide +kernel
theorem dX11_askLeaves_12 : decode cX11_askLeaves 12 = .ok (.invokevirtual 73, 3) := by decide +kernel
theorem dX11_askLeaves_15 : decode cX11_askLeaves 15 = .ok (.ireturn, 1) := by decide +kernel
theorem dX11_askLeaves_16 : decode cX11_askLeaves 16 = .ok (.aload_n 0, 1) := by decide +kernel
theorem dX11_askLeaves_17 : decode cX11_askLeaves 17 = .ok (.getfield 61, 3) := by decide +kernel
theorem dX11_askLeaves_20 : decode cX11_askLeaves 20 = .ok (.aload_n 0, 1) := by decide +kernel
theorem dX11_askLeaves_21 : decode cX11_askLeaves 21 = .ok (.getfield 16, 3) := by decide +kernel
theorem dX11_askLeaves_24 : decode cX11_askLeaves 24 = .ok (.getfield 273, 3) := by decide +kernel
theorem dX11_askLeaves_27 : decode cX11_askLeaves 27 = .ok (.invokevirtual 277, 3) := by decide +kernel
theorem dX11_askLeaves_30 : decode cX11_askLeaves 30 = .ok (.aload_n 0, 1) := by decide +kernel
theorem dX11_askLeaves_31 : decode cX11_askLeaves 31 = .ok (.aload_n 0, 1) := by decide +kernel
theorem dX11_askLeaves_32 : decode cX11_askLeaves 32 = .ok (.getfield 61, 3) := by decide +kernel
theorem dX11_askLeaves_35 : decode cX11_askLeaves 35 = .ok (.getfield 290, 3) := by decide +kernel
theorem dX11_askLeaves_38 : decode cX11_askLeaves 38 = .ok (.invokevirtual 108, 3) := by decide +kernel
theorem dX11_askLeaves_41 : decode cX11_askLeaves 41 = .ok (.ireturn, 1) := by decide +kernel
theorem dX11_judge_0 : decode cX11_judge 0 = .ok (.aload_n 0, 1) := by decide +kernel
theorem dX11_judge_1 : decode cX11_judge 1 = .ok (.getfield 16, 3) := by decide +kernel
theorem dX11_judge_4 : decode cX11_judge 4 = .ok (.getfield 114, 3) := by decide +kernel
theorem dX11_judge_7 : decode cX11_judge 7 = .ok (.ifCond .ne 9, 3) := by decide +kernel
theorem dX11_judge_10 : decode cX11_judge 10 = .ok (.aload_n 0, 1) := by decide +kernel
theorem dX11_judge_11 : decode cX11_judge 11 = .ok (.iconst 1, 1) := by decide +kernel
theorem dX11_judge_12 : decode cX11_judge 12 = .ok (.invokevirtual 73, 3) := by decide +kernel
theorem dX11_judge_15 : decode cX11_judge 15 = .ok (.ireturn, 1) := by decide +kernel
theorem dX11_judge_16 : decode cX11_judge 16 = .ok (.aload_n 0, 1) := by decide +kernel
theorem dX11_judge_17 : decode cX11_judge 17 = .ok (.aload_n 0, 1) := by decide +kernel
theorem dX11_judge_18 : decode cX11_judge 18 = .ok (.getfield 16, 3) := by decide +kernel
theorem dX11_judge_21 : decode cX11_judge 21 = .ok (.getfield 273, 3) := by decide +kernel
theorem dX11_judge_24 : decode cX11_judge 24 = .ok (.aload_n 0, 1) := by decide +kernel
theorem dX11_judge_25 : decode cX11_judge 25 = .ok (.getfield 16, 3) := by decide +kernel
theorem dX11_judge_28 : decode cX11_judge 28 = .ok (.getfield 273, 3) := by decide +kernel
theorem dX11_judge_31 : decode cX11_judge 31 = .ok (.getfield 293, 3) := by decide +kernel
theorem dX11_judge_34 : decode cX11_judge 34 = .ok (.invokestatic 198, 3) := by decide +kernel
theorem dX11_judge_37 : decode cX11_judge 37 = .ok (.invokevirtual 296, 3) := by decide +kernel
theorem dX11_judge_40 : decode cX11_judge 40 = .ok (.invokevirtual 108, 3) := by decide +kernel
theorem dX11_judge_43 : decode cX11_judge 43 = .ok (.ireturn, 1) := by decide +kernel
theorem dX11_together_0 : decode cX11_together 0 = .ok (.aload_n 0, 1) := by decide +kernel
theorem dX11_together_1 : decode cX11_together 1 = .ok (.getfield 16, 3) := by decide +kernel
theorem dX11_together_4 : decode cX11_together 4 = .ok (.getfield 114, 3) := by decide +kernel
theorem dX11_together_7 : decode cX11_together 7 = .ok (.ifCond .eq 24, 3) := by decide +kernel
theorem dX11_together_10 : decode cX11_together 10 = .ok (.iload_n 1, 1) := by decide +kernel
theorem dX11_together_11 : decode cX11_together 11 = .ok (.ifCond .lt 20, 3) := by decide +kernel
theorem dX11_together_14 : decode cX11_together 14 = .ok (.iload_n 1, 1) := by decide +kernel
theorem dX11_together_15 : decode cX11_together 15 = .ok (.aload_n 0, 1) := by decide +kernel
theorem dX11_together_16 : decode cX11_together 16 = .ok (.getfield 16, 3) := by decide +kernel
theorem dX11_together_19 : decode cX11_together 19 = .ok (.getfield 273, 3) := by decide +kernel
theorem dX11_together_22 : decode cX11_together 22 = .ok (.getfield 293, 3) := by decide +kernel
theorem dX11_together_25 : decode cX11_together 25 = .ok (.invokestatic 198, 3) := by decide +kernel
theorem dX11_together_28 : decode cX11_together 28 = .ok (.if_icmp .le 9, 3) := by decide +kernel
theorem dX11_together_31 : decode cX11_together 31 = .ok (.aload_n 0, 1) := by decide +kernel
theorem dX11_together_32 : decode cX11_together 32 = .ok (.iconst 1, 1) := by decide +kernel
theorem dX11_together_33 : decode cX11_together 33 = .ok (.invokevirtual 73, 3) := by decide +kernel
theorem dX11_together_36 : decode cX11_together 36 = .ok (.ireturn, 1) := by decide +kernel
theorem dX11_together_37 : decode cX11_together 37 = .ok (.aload_n 0, 1) := by decide +kernel
theorem dX11_together_38 : decode cX11_together 38 = .ok (.aload_n 0, 1) := by decide +kernel
theorem dX11_together_39 : decode cX11_together 39 = .ok (.getfield 16, 3) := by decide +kernel
theorem dX11_together_42 : decode cX11_together 42 = .ok (.getfield 273, 3) := by decide +kernel
theorem dX11_together_45 : decode cX11_together 45 = .ok (.iload_n 1, 1) := by decide +kernel
theorem dX11_together_46 : decode cX11_together 46 = .ok (.invokevirtual 299, 3) := by decide +kernel
theorem dX11_together_49 : decode cX11_together 49 = .ok (.invokevirtual 108, 3) := by decide +kernel
theorem dX11_together_52 : decode cX11_together 52 = .ok (.ireturn, 1) := by decide +kernel
theorem dX11_clash_0 : decode cX11_clash 0 = .ok (.aload_n 0, 1) := by decide +kernel
theorem dX11_clash_1 : decode cX11_clash 1 = .ok (.getfield 16, 3) := by decide +kernel
theorem dX11_clash_4 : decode cX11_clash 4 = .ok (.getfield 114, 3) := by decide +kernel
theorem dX11_clash_7 : decode cX11_clash 7 = .ok (.ifCond .ne 9, 3) := by decide +kernel
theorem dX11_clash_10 : decode cX11_clash 10 = .ok (.aload_n 0, 1) := by decide +kernel
theorem dX11_clash_11 : decode cX11_clash 11 = .ok (.iconst 1, 1) := by decide +kernel
theorem dX11_clash_12 : decode cX11_clash 12 = .ok (.invokevirtual 73, 3) := by decide +kernel
theorem dX11_clash_15 : decode cX11_clash 15 = .ok (.ireturn, 1) := by decide +kernel
theorem dX11_clash_16 : decode cX11_clash 16 = .ok (.aload_n 0, 1) := by decide +kernel
theorem dX11_clash_17 : decode cX11_clash 17 = .ok (.aload_n 0, 1) := by decide +kernel
theorem dX11_clash_18 : decode cX11_clash 18 = .ok (.getfield 16, 3) := by decide +kernel
theorem dX11_clash_21 : decode cX11_clash 21 = .ok (.getfield 273, 3) := by decide +kernel
theorem dX11_clash_24 : decode cX11_clash 24 = .ok (.invokevirtual 302, 3) := by decide +kernel
theorem dX11_clash_27 : decode cX11_clash 27 = .ok (.invokevirtual 108, 3) := by decide +kernel
theorem dX11_clash_30 : decode cX11_clash 30 = .ok (.ireturn, 1) := by decide +kernel
theorem dX11_envoys_0 : decode cX11_envoys 0 = .ok (.aload_n 0, 1) := by decide +kernel
theorem dX11_envoys_1 : decode cX11_envoys 1 = .ok (.getfield 16, 3) := by decide +kernel
theorem dX11_envoys_4 : decode cX11_envoys 4 = .ok (.getfield 114, 3) := by decide +kernel
theorem dX11_envoys_7 : decode cX11_envoys 7 = .ok (.ifCond .ne 12, 3) := by decide +kernel
theorem dX11_envoys_10 : decode cX11_envoys 10 = .ok (.aload_n 0, 1) := by decide +kernel
theorem dX11_envoys_11 : decode cX11_envoys 11 = .ok (.iconst 1, 1) := by decide +kernel
theorem dX11_envoys_12 : decode cX11_envoys 12 = .ok (.invokevirtual 73, 3) := by decide +kernel
theorem dX11_envoys_15 : decode cX11_envoys 15 = .ok (.pop, 1) := by decide +kernel
theorem dX11_envoys_16 : decode cX11_envoys 16 = .ok (.bipush (-100), 2) := by decide +kernel
theorem dX11_envoys_18 : decode cX11_envoys 18 = .ok (.ireturn, 1) := by decide +kernel
theorem dX11_envoys_19 : decode cX11_envoys 19 = .ok (.iload_n 1, 1) := by decide +kernel
theorem dX11_envoys_20 : decode cX11_envoys 20 = .ok (.invokestatic 305, 3) := by decide +kernel
theorem dX11_envoys_23 : decode cX11_envoys 23 = .ok (.ifCond .eq 23, 3) := by decide +kernel
theorem dX11_envoys_26 : decode cX11_envoys 26 = .ok (.iload_n 2, 1) := by decide +kernel
theorem dX11_envoys_27 : decode cX11_envoys 27 = .ok (.ifCond .lt 19, 3) := by decide +kernel
theorem dX11_envoys_30 : decode cX11_envoys 30 = .ok (.iload_n 2, 1) := by decide +kernel
theorem dX11_envoys_31 : decode cX11_envoys 31 = .ok (.bipush 6, 2) := by decide +kernel
theorem dX11_envoys_33 : decode cX11_envoys 33 = .ok (.if_icmp .gt 13, 3) := by decide +kernel
theorem dX11_envoys_36 : decode cX11_envoys 36 = .ok (.iload_n 3, 1) := by decide +kernel
theorem dX11_envoys_37 : decode cX11_envoys 37 = .ok (.ifCond .lt 9, 3) := by decide +kernel
theorem dX11_envoys_40 : decode cX11_envoys 40 = .ok (.iload_n 3, 1) := by decide +kernel
theorem dX11_envoys_41 : decode cX11_envoys 41 = .ok (.bipush 6, 2) := by decide +kernel
theorem dX11_envoys_43 : decode cX11_envoys 43 = .ok (.if_icmp .le 12, 3) := by decide +kernel
theorem dX11_envoys_46 : decode cX11_envoys 46 = .ok (.aload_n 0, 1) := by decide +kernel
theorem dX11_envoys_47 : decode cX11_envoys 47 = .ok (.iconst 2, 1) := by decide +kernel
theorem dX11_envoys_48 : decode cX11_envoys 48 = .ok (.invokevirtual 73, 3) := by decide +kernel
theorem dX11_envoys_51 : decode cX11_envoys 51 = .ok (.pop, 1) := by decide +kernel
theorem dX11_envoys_52 : decode cX11_envoys 52 = .ok (.bipush (-100), 2) := by decide +kernel
theorem dX11_envoys_54 : decode cX11_envoys 54 = .ok (.ireturn, 1) := by decide +kernel
theorem dX11_envoys_55 : decode cX11_envoys 55 = .ok (.aload_n 0, 1) := by decide +kernel
theorem dX11_envoys_56 : decode cX11_envoys 56 = .ok (.iload 4, 2) := by decide +kernel
theorem dX11_envoys_58 : decode cX11_envoys 58 = .ok (.ifCond .eq 12, 3) := by decide +kernel
theorem dX11_envoys_61 : decode cX11_envoys 61 = .ok (.iload_n 1, 1) := by decide +kernel
theorem dX11_envoys_62 : decode cX11_envoys 62 = .ok (.iload_n 3, 1) := by decide +kernel
theorem dX11_envoys_63 : decode cX11_envoys 63 = .ok (.iload_n 2, 1) := by decide +kernel
theorem dX11_envoys_64 : decode cX11_envoys 64 = .ok (.invokestatic 308, 3) := by decide +kernel
theorem dX11_envoys_67 : decode cX11_envoys 67 = .ok (.goto 9, 3) := by decide +kernel
theorem dX11_envoys_70 : decode cX11_envoys 70 = .ok (.iload_n 1, 1) := by decide +kernel
theorem dX11_envoys_71 : decode cX11_envoys 71 = .ok (.iload_n 2, 1) := by decide +kernel
theorem dX11_envoys_72 : decode cX11_envoys 72 = .ok (.iload_n 3, 1) := by decide +kernel
theorem dX11_envoys_73 : decode cX11_envoys 73 = .ok (.invokestatic 308, 3) := by decide +kernel
theorem dX11_envoys_76 : decode cX11_envoys 76 = .ok (.invokevirtual 108, 3) := by decide +kernel
theorem dX11_envoys_79 : decode cX11_envoys 79 = .ok (.ireturn, 1) := by decide +kernel
theorem dX11_rests_0 : decode cX11_rests 0 = .ok (.aload_n 0, 1) := by decide +kernel
theorem dX11_rests_1 : decode cX11_rests 1 = .ok (.getfield 16, 3) := by decide +kernel
theorem dX11_rests_4 : decode cX11_rests 4 = .ok (.getfield 114, 3) := by decide +kernel
theorem dX11_rests_7 : decode cX11_rests 7 = .ok (.ifCond .ne 9, 3) := by decide +kernel
theorem dX11_rests_10 : decode cX11_rests 10 = .ok (.aload_n 0, 1) := by decide +kernel
theorem dX11_rests_11 : decode cX11_rests 11 = .ok (.iconst 1, 1) := by decide +kernel
theorem dX11_rests_12 : decode cX11_rests 12 = .ok (.invokevirtual 73, 3) := by decide +kernel
theorem dX11_rests_15 : decode cX11_rests 15 = .ok (.ireturn, 1) := by decide +kernel
theorem dX11_rests_16 : decode cX11_rests 16 = .ok (.iload_n 1, 1) := by decide +kernel
theorem dX11_rests_17 : decode cX11_rests 17 = .ok (.invokestatic 305, 3) := by decide +kernel
theorem dX11_rests_20 : decode cX11_rests 20 = .ok (.ifCond .ne 9, 3) := by decide +kernel
theorem dX11_rests_23 : decode cX11_rests 23 = .ok (.aload_n 0, 1) := by decide +kernel
theorem dX11_rests_24 : decode cX11_rests 24 = .ok (.iconst 2, 1) := by decide +kernel
theorem dX11_rests_25 : decode cX11_rests 25 = .ok (.invokevirtual 73, 3) := by decide +kernel
theorem dX11_rests_28 : decode cX11_rests 28 = .ok (.ireturn, 1) := by decide +kernel
theorem dX11_rests_29 : decode cX11_rests 29 = .ok (.iconst 0, 1) := by decide +kernel
theorem dX11_rests_30 : decode cX11_rests 30 = .ok (.istore_n 2, 1) := by decide +kernel
theorem dX11_rests_31 : decode cX11_rests 31 = .ok (.iconst 0, 1) := by decide +kernel
theorem dX11_rests_32 : decode cX11_rests 32 = .ok (.istore_n 3, 1) := by decide +kernel
theorem dX11_rests_33 : decode cX11_rests 33 = .ok (.iload_n 3, 1) := by decide +kernel
theorem dX11_rests_34 : decode cX11_rests 34 = .ok (.bipush 6, 2) := by decide +kernel
theorem dX11_rests_36 : decode cX11_rests 36 = .ok (.if_icmp .gt 38, 3) := by decide +kernel
theorem dX11_rests_39 : decode cX11_rests 39 = .ok (.iconst 0, 1) := by decide +kernel
theorem dX11_rests_40 : decode cX11_rests 40 = .ok (.istore 4, 2) := by decide +kernel
theorem dX11_rests_42 : decode cX11_rests 42 = .ok (.iload 4, 2) := by decide +kernel
theorem dX11_rests_44 : decode cX11_rests 44 = .ok (.bipush 6, 2) := by decide +kernel
theorem dX11_rests_46 : decode cX11_rests 46 = .ok (.if_icmp .gt 22, 3) := by decide +kernel
theorem dX11_rests_49 : decode cX11_rests 49 = .ok (.iload_n 1, 1) := by decide +kernel
theorem dX11_rests_50 : decode cX11_rests 50 = .ok (.iload_n 3, 1) := by decide +kernel
theorem dX11_rests_51 : decode cX11_rests 51 = .ok (.iload 4, 2) := by decide +kernel
theorem dX11_rests_53 : decode cX11_rests 53 = .ok (.invokestatic 312, 3) := by decide +kernel
theorem dX11_rests_56 : decode cX11_rests 56 = .ok (.ifCond .eq 6, 3) := by decide +kernel
theorem dX11_rests_59 : decode cX11_rests 59 = .ok (.iinc 2 1, 3) := by decide +kernel
theorem dX11_rests_62 : decode cX11_rests 62 = .ok (.iinc 4 1, 3) := by decide +kernel
theorem dX11_rests_65 : decode cX11_rests 65 = .ok (.goto (-23), 3) := by decide +kernel
theorem dX11_rests_68 : decode cX11_rests 68 = .ok (.iinc 3 1, 3) := by decide +kernel
theorem dX11_rests_71 : decode cX11_rests 71 = .ok (.goto (-38), 3) := by decide +kernel
theorem dX11_rests_74 : decode cX11_rests 74 = .ok (.aload_n 0, 1) := by decide +kernel
theorem dX11_rests_75 : decode cX11_rests 75 = .ok (.iload_n 2, 1) := by decide +kernel
theorem dX11_rests_76 : decode cX11_rests 76 = .ok (.invokevirtual 108, 3) := by decide +kernel
theorem dX11_rests_79 : decode cX11_rests 79 = .ok (.ireturn, 1) := by decide +kernel
theorem dX11_rest_0 : decode cX11_rest 0 = .ok (.aload_n 0, 1) := by decide +kernel
theorem dX11_rest_1 : decode cX11_rest 1 = .ok (.getfield 16, 3) := by decide +kernel
theorem dX11_rest_4 : decode cX11_rest 4 = .ok (.getfield 114, 3) := by decide +kernel
theorem dX11_rest_7 : decode cX11_rest 7 = .ok (.ifCond .ne 9, 3) := by decide +kernel
theorem dX11_rest_10 : decode cX11_rest 10 = .ok (.aload_n 0, 1) := by decide +kernel
theorem dX11_rest_11 : decode cX11_rest 11 = .ok (.iconst 1, 1) := by decide +kernel
theorem dX11_rest_12 : decode cX11_rest 12 = .ok (.invokevirtual 73, 3) := by decide +kernel
theorem dX11_rest_15 : decode cX11_rest 15 = .ok (.ireturn, 1) := by decide +kernel
theorem dX11_rest_16 : decode cX11_rest 16 = .ok (.iload_n 1, 1) := by decide +kernel
theorem dX11_rest_17 : decode cX11_rest 17 = .ok (.invokestatic 305, 3) := by decide +kernel
theorem dX11_rest_20 : decode cX11_rest 20 = .ok (.ifCond .ne 9, 3) := by decide +kernel
theorem dX11_rest_23 : decode cX11_rest 23 = .ok (.aload_n 0, 1) := by decide +kernel
theorem dX11_rest_24 : decode cX11_rest 24 = .ok (.iconst 2, 1) := by decide +kernel
theorem dX11_rest_25 : decode cX11_rest 25 = .ok (.invokevirtual 73, 3) := by decide +kernel
theorem dX11_rest_28 : decode cX11_rest 28 = .ok (.ireturn, 1) := by decide +kernel
theorem dX11_rest_29 : decode cX11_rest 29 = .ok (.iconst 0, 1) := by decide +kernel
theorem dX11_rest_30 : decode cX11_rest 30 = .ok (.istore_n 2, 1) := by decide +kernel
theorem dX11_rest_31 : decode cX11_rest 31 = .ok (.iload_n 2, 1) := by decide +kernel
theorem dX11_rest_32 : decode cX11_rest 32 = .ok (.bipush 6, 2) := by decide +kernel
theorem dX11_rest_34 : decode cX11_rest 34 = .ok (.if_icmp .gt 43, 3) := by decide +kernel
theorem dX11_rest_37 : decode cX11_rest 37 = .ok (.iconst 0, 1) := by decide +kernel
theorem dX11_rest_38 : decode cX11_rest 38 = .ok (.istore_n 3, 1) := by decide +kernel
theorem dX11_rest_39 : decode cX11_rest 39 = .ok (.iload_n 3, 1) := by decide +kernel
theorem dX11_rest_40 : decode cX11_rest 40 = .ok (.bipush 6, 2) := by decide +kernel
theorem dX11_rest_42 : decode cX11_rest 42 = .ok (.if_icmp .gt 29, 3) := by decide +kernel
theorem dX11_rest_45 : decode cX11_rest 45 = .ok (.iload_n 1, 1) := by decide +kernel
theorem dX11_rest_46 : decode cX11_rest 46 = .ok (.iload_n 2, 1) := by decide +kernel
theorem dX11_rest_47 : decode cX11_rest 47 = .ok (.iload_n 3, 1) := by decide +kernel
theorem dX11_rest_48 : decode cX11_rest 48 = .ok (.invokestatic 312, 3) := by decide +kernel
theorem dX11_rest_51 : decode cX11_rest 51 = .ok (.ifCond .eq 14, 3) := by decide +kernel
theorem dX11_rest_54 : decode cX11_rest 54 = .ok (.aload_n 0, 1) := by decide +kernel
theorem dX11_rest_55 : decode cX11_rest 55 = .ok (.bipush 10, 2) := by decide +kernel
theorem dX11_rest_57 : decode cX11_rest 57 = .ok (.iload_n 2, 1) := by decide +kernel
theorem dX11_rest_58 : decode cX11_rest 58 = .ok (.imul, 1) := by decide +kernel
theorem dX11_rest_59 : decode cX11_rest 59 = .ok (.iload_n 3, 1) := by decide +kernel
theorem dX11_rest_60 : decode cX11_rest 60 = .ok (.iadd, 1) := by decide +kernel
theorem dX11_rest_61 : decode cX11_rest 61 = .ok (.invokevirtual 108, 3) := by decide +kernel
theorem dX11_rest_64 : decode cX11_rest 64 = .ok (.ireturn, 1) := by decide +kernel
theorem dX11_rest_65 : decode cX11_rest 65 = .ok (.iinc 3 1, 3) := by decide +kernel
theorem dX11_rest_68 : decode cX11_rest 68 = .ok (.goto (-29), 3) := by decide +kernel
theorem dX11_rest_71 : decode cX11_rest 71 = .ok (.iinc 2 1, 3) := by decide +kernel
theorem dX11_rest_74 : decode cX11_rest 74 = .ok (.goto (-43), 3) := by decide +kernel
theorem dX11_rest_77 : decode cX11_rest 77 = .ok (.aload_n 0, 1) := by decide +kernel
theorem dX11_rest_78 : decode cX11_rest 78 = .ok (.bipush (-2), 2) := by decide +kernel
theorem dX11_rest_80 : decode cX11_rest 80 = .ok (.invokevirtual 108, 3) := by decide +kernel
theorem dX11_rest_83 : decode cX11_rest 83 = .ok (.ireturn, 1) := by decide +kernel
theorem dX11_winters_0 : decode cX11_winters 0 = .ok (.aload_n 0, 1) := by decide +kernel
theorem dX11_winters_1 : decode cX11_winters 1 = .ok (.getfield 16, 3) := by decide +kernel
theorem dX11_winters_4 : decode cX11_winters 4 = .ok (.getfield 114, 3) := by decide +kernel
theorem dX11_winters_7 : decode cX11_winters 7 = .ok (.ifCond .ne 9, 3) := by decide +kernel
theorem dX11_winters_10 : decode cX11_winters 10 = .ok (.aload_n 0, 1) := by decide +kernel
theorem dX11_winters_11 : decode cX11_winters 11 = .ok (.iconst 1, 1) := by decide +kernel
theorem dX11_winters_12 : decode cX11_winters 12 = .ok (.invokevirtual 73, 3) := by decide +kernel
theorem dX11_winters_15 : decode cX11_winters 15 = .ok (.ireturn, 1) := by decide +kernel
theorem dX11_winters_16 : decode cX11_winters 16 = .ok (.iload_n 1, 1) := by decide +kernel
theorem dX11_winters_17 : decode cX11_winters 17 = .ok (.iload_n 2, 1) := by decide +kernel
theorem dX11_winters_18 : decode cX11_winters 18 = .ok (.invokestatic 316, 3) := by decide +kernel
theorem dX11_winters_21 : decode cX11_winters 21 = .ok (.ifCond .ne 9, 3) := by decide +kernel
theorem dX11_winters_24 : decode cX11_winters 24 = .ok (.aload_n 0, 1) := by decide +kernel
theorem dX11_winters_25 : decode cX11_winters 25 = .ok (.iconst 2, 1) := by decide +kernel
theorem dX11_winters_26 : decode cX11_winters 26 = .ok (.invokevirtual 73, 3) := by decide +kernel
theorem dX11_winters_29 : decode cX11_winters 29 = .ok (.ireturn, 1) := by decide +kernel
theorem dX11_winters_30 : decode cX11_winters 30 = .ok (.aload_n 0, 1) := by decide +kernel
theorem dX11_winters_31 : decode cX11_winters 31 = .ok (.getfield 47, 3) := by decide +kernel
theorem dX11_winters_34 : decode cX11_winters 34 = .ok (.aload_n 0, 1) := by decide +kernel
theorem dX11_winters_35 : decode cX11_winters 35 = .ok (.getfield 16, 3) := by decide +kernel
theorem dX11_winters_38 : decode cX11_winters 38 = .ok (.invokevirtual 187, 3) := by decide +kernel
theorem dX11_winters_41 : decode cX11_winters 41 = .ok (.aload_n 0, 1) := by decide +kernel
theorem dX11_winters_42 : decode cX11_winters 42 = .ok (.aload_n 0, 1) := by decide +kernel
theorem dX11_winters_43 : decode cX11_winters 43 = .ok (.iload_n 1, 1) := by decide +kernel
theorem dX11_winters_44 : decode cX11_winters 44 = .ok (.iload_n 2, 1) := by decide +kernel
theorem dX11_winters_45 : decode cX11_winters 45 = .ok (.invokevirtual 320, 3) := by decide +kernel
theorem dX11_winters_48 : decode cX11_winters 48 = .ok (.aload_n 0, 1) := by decide +kernel
theorem dX11_winters_49 : decode cX11_winters 49 = .ok (.getfield 16, 3) := by decide +kernel
theorem dX11_winters_52 : decode cX11_winters 52 = .ok (.aload_n 0, 1) := by decide +kernel
theorem dX11_winters_53 : decode cX11_winters 53 = .ok (.getfield 47, 3) := by decide +kernel
theorem dX11_winters_56 : decode cX11_winters 56 = .ok (.getfield 201, 3) := by decide +kernel
theorem dX11_winters_59 : decode cX11_winters 59 = .ok (.invokevirtual 181, 3) := by decide +kernel
theorem dX11_winters_62 : decode cX11_winters 62 = .ok (.imul, 1) := by decide +kernel
theorem dX11_winters_63 : decode cX11_winters 63 = .ok (.invokevirtual 108, 3) := by decide +kernel
theorem dX11_winters_66 : decode cX11_winters 66 = .ok (.ireturn, 1) := by decide +kernel
theorem dX11_wintersOf_0 : decode cX11_wintersOf 0 = .ok (.aload_n 0, 1) := by decide +kernel
theorem dX11_wintersOf_1 : decode cX11_wintersOf 1 = .ok (.iload_n 1, 1) := by decide +kernel
theorem dX11_wintersOf_2 : decode cX11_wintersOf 2 = .ok (.invokevirtual 125, 3) := by decide +kernel
theorem dX11_wintersOf_5 : decode cX11_wintersOf 5 = .ok (.ifCond .ne 9, 3) := by decide +kernel
theorem dX11_wintersOf_8 : decode cX11_wintersOf 8 = .ok (.aload_n 0, 1) := by decide +kernel
theorem dX11_wintersOf_9 : decode cX11_wintersOf 9 = .ok (.iconst 1, 1) := by decide +kernel
theorem dX11_wintersOf_10 : decode cX11_wintersOf 10 = .ok (.invokevirtual 73, 3) := by decide +kernel
theorem dX11_wintersOf_13 : decode cX11_wintersOf 13 = .ok (.ireturn, 1) := by decide +kernel
theorem dX11_wintersOf_14 : decode cX11_wintersOf 14 = .ok (.iload_n 2, 1) := by decide +kernel
theorem dX11_wintersOf_15 : decode cX11_wintersOf 15 = .ok (.iload_n 3, 1) := by decide +kernel
theorem dX11_wintersOf_16 : decode cX11_wintersOf 16 = .ok (.invokestatic 316, 3) := by decide +kernel
theorem dX11_wintersOf_19 : decode cX11_wintersOf 19 = .ok (.ifCond .ne 9, 3) := by decide +kernel
theorem dX11_wintersOf_22 : decode cX11_wintersOf 22 = .ok (.aload_n 0, 1) := by decide +kernel
theorem dX11_wintersOf_23 : decode cX11_wintersOf 23 = .ok (.iconst 2, 1) := by decide +kernel
theorem dX11_wintersOf_24 : decode cX11_wintersOf 24 = .ok (.invokevirtual 73, 3) := by decide +kernel
theorem dX11_wintersOf_27 : decode cX11_wintersOf 27 = .ok (.ireturn, 1) := by decide +kernel
theorem dX11_wintersOf_28 : decode cX11_wintersOf 28 = .ok (.aload_n 0, 1) := by decide +kernel
theorem dX11_wintersOf_29 : decode cX11_wintersOf 29 = .ok (.getfield 47, 3) := by decide +kernel
theorem dX11_wintersOf_32 : decode cX11_wintersOf 32 = .ok (.aload_n 0, 1) := by decide +kernel
theorem dX11_wintersOf_33 : decode cX11_wintersOf 33 = .ok (.getfield 16, 3) := by decide +kernel
theorem dX11_wintersOf_36 : decode cX11_wintersOf 36 = .ok (.invokevirtual 187, 3) := by decide +kernel
theorem dX11_wintersOf_39 : decode cX11_wintersOf 39 = .ok (.aload_n 0, 1) := by decide +kernel
theorem dX11_wintersOf_40 : decode cX11_wintersOf 40 = .ok (.aload_n 0, 1) := by decide +kernel
theorem dX11_wintersOf_41 : decode cX11_wintersOf 41 = .ok (.getfield 33, 3) := by decide +kernel
theorem dX11_wintersOf_44 : decode cX11_wintersOf 44 = .ok (.getfield 139, 3) := by decide +kernel
theorem dX11_wintersOf_47 : decode cX11_wintersOf 47 = .ok (.iload_n 1, 1) := by decide +kernel
theorem dX11_wintersOf_48 : decode cX11_wintersOf 48 = .ok (.iaload, 1) := by decide +kernel
theorem dX11_wintersOf_49 : decode cX11_wintersOf 49 = .ok (.aload_n 0, 1) := by decide +kernel
theorem dX11_wintersOf_50 : decode cX11_wintersOf 50 = .ok (.iload_n 2, 1) := by decide +kernel
theorem dX11_wintersOf_51 : decode cX11_wintersOf 51 = .ok (.iload_n 3, 1) := by decide +kernel
theorem dX11_wintersOf_52 : decode cX11_wintersOf 52 = .ok (.invokevirtual 320, 3) := by decide +kernel
theorem dX11_wintersOf_55 : decode cX11_wintersOf 55 = .ok (.aload_n 0, 1) := by decide +kernel
theorem dX11_wintersOf_56 : decode cX11_wintersOf 56 = .ok (.getfield 16, 3) := by decide +kernel
theorem dX11_wintersOf_59 : decode cX11_wintersOf 59 = .ok (.iload_n 1, 1) := by decide +kernel
theorem dX11_wintersOf_60 : decode cX11_wintersOf 60 = .ok (.aload_n 0, 1) := by decide +kernel
theorem dX11_wintersOf_61 : decode cX11_wintersOf 61 = .ok (.getfield 47, 3) := by decide +kernel
theorem dX11_wintersOf_64 : decode cX11_wintersOf 64 = .ok (.getfield 201, 3) := by decide +kernel
theorem dX11_wintersOf_67 : decode cX11_wintersOf 67 = .ok (.invokevirtual 177, 3) := by decide +kernel
theorem dX11_wintersOf_70 : decode cX11_wintersOf 70 = .ok (.imul, 1) := by decide +kernel
theorem dX11_wintersOf_71 : decode cX11_wintersOf 71 = .ok (.iadd, 1) := by decide +kernel
theorem dX11_wintersOf_72 : decode cX11_wintersOf 72 = .ok (.invokevirtual 108, 3) := by decide +kernel
theorem dX11_wintersOf_75 : decode cX11_wintersOf 75 = .ok (.ireturn, 1) := by decide +kernel
theorem dX11_above_0 : decode cX11_above 0 = .ok (.aload_n 0, 1) := by decide +kernel
theorem dX11_above_1 : decode cX11_above 1 = .ok (.getfield 16, 3) := by decide +kernel
theorem dX11_above_4 : decode cX11_above 4 = .ok (.getfield 114, 3) := by decide +kernel
theorem dX11_above_7 : decode cX11_above 7 = .ok (.ifCond .ne 9, 3) := by decide +kernel
theorem dX11_above_10 : decode cX11_above 10 = .ok (.aload_n 0, 1) := by decide +kernel
theorem dX11_above_11 : decode cX11_above 11 = .ok (.iconst 1, 1) := by decide +kernel
theorem dX11_above_12 : decode cX11_above 12 = .ok (.invokevirtual 73, 3) := by decide +kernel
theorem dX11_above_15 : decode cX11_above 15 = .ok (.ireturn, 1) := by decide +kernel
theorem dX11_above_16 : decode cX11_above 16 = .ok (.iload_n 1, 1) := by decide +kernel
theorem dX11_above_17 : decode cX11_above 17 = .ok (.ifCond .lt 18, 3) := by decide +kernel
theorem dX11_above_20 : decode cX11_above 20 = .ok (.iload_n 1, 1) := by decide +kernel
theorem dX11_above_21 : decode cX11_above 21 = .ok (.sipush 9999, 3) := by decide +kernel
theorem dX11_above_24 : decode cX11_above 24 = .ok (.if_icmp .gt 11, 3) := by decide +kernel
theorem dX11_above_27 : decode cX11_above 27 = .ok (.iload_n 2, 1) := by decide +kernel
theorem dX11_above_28 : decode cX11_above 28 = .ok (.iload_n 3, 1) := by decide +kernel
theorem dX11_above_29 : decode cX11_above 29 = .ok (.invokestatic 316, 3) := by decide +kernel
theorem dX11_above_32 : decode cX11_above 32 = .ok (.ifCond .ne 9, 3) := by decide +kernel
theorem dX11_above_35 : decode cX11_above 35 = .ok (.aload_n 0, 1) := by decide +kernel
theorem dX11_above_36 : decode cX11_above 36 = .ok (.iconst 2, 1) := by decide +kernel
theorem dX11_above_37 : decode cX11_above 37 = .ok (.invokevirtual 73, 3) := by decide +kernel
theorem dX11_above_40 : decode cX11_above 40 = .ok (.ireturn, 1) := by decide +kernel
theorem dX11_above_41 : decode cX11_above 41 = .ok (.aload_n 0, 1) := by decide +kernel
theorem dX11_above_42 : decode cX11_above 42 = .ok (.getfield 47, 3) := by decide +kernel
theorem dX11_above_45 : decode cX11_above 45 = .ok (.aload_n 0, 1) := by decide +kernel
theorem dX11_above_46 : decode cX11_above 46 = .ok (.getfield 16, 3) := by decide +kernel
theorem dX11_above_49 : decode cX11_above 49 = .ok (.invokevirtual 187, 3) := by decide +kernel
theorem dX11_above_52 : decode cX11_above 52 = .ok (.aload_n 0, 1) := by decide +kernel
theorem dX11_above_53 : decode cX11_above 53 = .ok (.getfield 33, 3) := by decide +kernel
theorem dX11_above_56 : decode cX11_above 56 = .ok (.getfield 170, 3) := by decide +kernel
theorem dX11_above_59 : decode cX11_above 59 = .ok (.ifCond .eq 7, 3) := by decide +kernel
theorem dX11_above_62 : decode cX11_above 62 = .ok (.iconst 0, 1) := by decide +kernel
theorem dX11_above_63 : decode cX11_above 63 = .ok (.goto 17, 3) := by decide +kernel
theorem dX11_above_66 : decode cX11_above 66 = .ok (.aload_n 0, 1) := by decide +kernel
theorem dX11_above_67 : decode cX11_above 67 = .ok (.getfield 16, 3) := by decide +kernel
theorem dX11_above_70 : decode cX11_above 70 = .ok (.aload_n 0, 1) := by decide +kernel
theorem dX11_above_71 : decode cX11_above 71 = .ok (.getfield 47, 3) := by decide +kernel
theorem dX11_above_74 : decode cX11_above 74 = .ok (.getfield 201, 3) := by decide +kernel
theorem dX11_above_77 : decode cX11_above 77 = .ok (.invokevirtual 181, 3) := by decide +kernel
theorem dX11_above_80 : decode cX11_above 80 = .ok (.istore 4, 2) := by decide +kernel
theorem dX11_above_82 : decode cX11_above 82 = .ok (.aload_n 0, 1) := by decide +kernel
theorem dX11_above_83 : decode cX11_above 83 = .ok (.getfield 33, 3) := by decide +kernel
theorem dX11_above_86 : decode cX11_above 86 = .ok (.invokevirtual 184, 3) := by decide +kernel
theorem dX11_above_89 : decode cX11_above 89 = .ok (.istore 5, 2) := by decide +kernel
theorem dX11_above_91 : decode cX11_above 91 = .ok (.iload_n 2, 1) := by decide +kernel
theorem dX11_above_92 : decode cX11_above 92 = .ok (.istore 6, 2) := by decide +kernel
theorem dX11_above_94 : decode cX11_above 94 = .ok (.iconst 1, 1) := by decide +kernel
theorem dX11_above_95 : decode cX11_above 95 = .ok (.istore 7, 2) := by decide +kernel
theorem dX11_above_97 : decode cX11_above 97 = .ok (.iload 7, 2) := by decide +kernel
theorem dX11_above_99 : decode cX11_above 99 = .ok (.iload_n 3, 1) := by decide +kernel
theorem dX11_above_100 : decode cX11_above 100 = .ok (.if_icmp .gt 51, 3) := by decide +kernel
theorem dX11_above_103 : decode cX11_above 103 = .ok (.iload 6, 2) := by decide +kernel
theorem dX11_above_105 : decode cX11_above 105 = .ok (.invokestatic 323, 3) := by decide +kernel
theorem dX11_above_108 : decode cX11_above 108 = .ok (.istore 6, 2) := by decide +kernel
theorem dX11_above_110 : decode cX11_above 110 = .ok (.iload 6, 2) := by decide +kernel
theorem dX11_above_112 : decode cX11_above 112 = .ok (.bipush 100, 2) := by decide +kernel
theorem dX11_above_114 : decode cX11_above 114 = .ok (.irem, 1) := by decide +kernel
theorem dX11_above_115 : decode cX11_above 115 = .ok (.aload_n 0, 1) := by decide +kernel
theorem dX11_above_116 : decode cX11_above 116 = .ok (.getfield 16, 3) := by decide +kernel
theorem dX11_above_119 : decode cX11_above 119 = .ok (.getfield 326, 3) := by decide +kernel
theorem dX11_above_122 : decode cX11_above 122 = .ok (.if_icmp .ge 10, 3) := by decide +kernel
theorem dX11_above_125 : decode cX11_above 125 = .ok (.iload 5, 2) := by decide +kernel
theorem dX11_above_127 : decode cX11_above 127 = .ok (.iload 4, 2) := by decide +kernel
theorem dX11_above_129 : decode cX11_above 129 = .ok (.iadd, 1) := by decide +kernel
theorem dX11_above_130 : decode cX11_above 130 = .ok (.istore 5, 2) := by decide +kernel
theorem dX11_above_132 : decode cX11_above 132 = .ok (.iload 5, 2) := by decide +kernel
theorem dX11_above_134 : decode cX11_above 134 = .ok (.iload_n 1, 1) := by decide +kernel
theorem dX11_above_135 : decode cX11_above 135 = .ok (.if_icmp .le 10, 3) := by decide +kernel
theorem dX11_above_138 : decode cX11_above 138 = .ok (.aload_n 0, 1) := by decide +kernel
theorem dX11_above_139 : decode cX11_above 139 = .ok (.iload 7, 2) := by decide +kernel
theorem dX11_above_141 : decode cX11_above 141 = .ok (.invokevirtual 108, 3) := by decide +kernel
theorem dX11_above_144 : decode cX11_above 144 = .ok (.ireturn, 1) := by decide +kernel
theorem dX11_above_145 : decode cX11_above 145 = .ok (.iinc 7 1, 3) := by decide +kernel
theorem dX11_above_148 : decode cX11_above 148 = .ok (.goto (-51), 3) := by decide +kernel
theorem dX11_above_151 : decode cX11_above 151 = .ok (.aload_n 0, 1) := by decide +kernel
theorem dX11_above_152 : decode cX11_above 152 = .ok (.iconst 0, 1) := by decide +kernel
theorem dX11_above_153 : decode cX11_above 153 = .ok (.invokevirtual 108, 3) := by decide +kernel
theorem dX11_above_156 : decode cX11_above 156 = .ok (.ireturn, 1) := by decide +kernel
theorem dX11_tend_0 : decode cX11_tend 0 = .ok (.aload_n 0, 1) := by decide +kernel
theorem dX11_tend_1 : decode cX11_tend 1 = .ok (.iload_n 1, 1) := by decide +kernel
theorem dX11_tend_2 : decode cX11_tend 2 = .ok (.invokevirtual 148, 3) := by decide +kernel
theorem dX11_tend_5 : decode cX11_tend 5 = .ok (.ifCond .eq 11, 3) := by decide +kernel
theorem dX11_tend_8 : decode cX11_tend 8 = .ok (.aload_n 0, 1) := by decide +kernel
theorem dX11_tend_9 : decode cX11_tend 9 = .ok (.iload_n 2, 1) := by decide +kernel
theorem dX11_tend_10 : decode cX11_tend 10 = .ok (.invokevirtual 125, 3) := by decide +kernel
theorem dX11_tend_13 : decode cX11_tend 13 = .ok (.ifCond .ne 9, 3) := by decide +kernel
theorem dX11_tend_16 : decode cX11_tend 16 = .ok (.aload_n 0, 1) := by decide +kernel
theorem dX11_tend_17 : decode cX11_tend 17 = .ok (.iconst 1, 1) := by decide +kernel
theorem dX11_tend_18 : decode cX11_tend 18 = .ok (.invokevirtual 329, 3) := by decide +kernel
theorem dX11_tend_21 : decode cX11_tend 21 = .ok (.ireturn, 1) := by decide +kernel
theorem dX11_tend_22 : decode cX11_tend 22 = .ok (.aload_n 0, 1) := by decide +kernel
theorem dX11_tend_23 : decode cX11_tend 23 = .ok (.getfield 33, 3) := by decide +kernel
theorem dX11_tend_26 : decode cX11_tend 26 = .ok (.getfield 142, 3) := by decide +kernel
theorem dX11_tend_29 : decode cX11_tend 29 = .ok (.iload_n 2, 1) := by decide +kernel
theorem dX11_tend_30 : decode cX11_tend 30 = .ok (.iaload, 1) := by decide +kernel
theorem dX11_tend_31 : decode cX11_tend 31 = .ok (.bipush (-2), 2) := by decide +kernel
theorem dX11_tend_33 : decode cX11_tend 33 = .ok (.if_icmp .ne 25, 3) := by decide +kernel
theorem dX11_tend_36 : decode cX11_tend 36 = .ok (.aload_n 0, 1) := by decide +kernel
theorem dX11_tend_37 : decode cX11_tend 37 = .ok (.getfield 16, 3) := by decide +kernel
theorem dX11_tend_40 : decode cX11_tend 40 = .ok (.iload_n 1, 1) := by decide +kernel
theorem dX11_tend_41 : decode cX11_tend 41 = .ok (.iload_n 2, 1) := by decide +kernel
theorem dX11_tend_42 : decode cX11_tend 42 = .ok (.invokevirtual 332, 3) := by decide +kernel
theorem dX11_tend_45 : decode cX11_tend 45 = .ok (.ifCond .eq 13, 3) := by decide +kernel
theorem dX11_tend_48 : decode cX11_tend 48 = .ok (.aload_n 0, 1) := by decide +kernel
theorem dX11_tend_49 : decode cX11_tend 49 = .ok (.getfield 33, 3) := by decide +kernel
theorem dX11_tend_52 : decode cX11_tend 52 = .ok (.getfield 170, 3) := by decide +kernel
theorem dX11_tend_55 : decode cX11_tend 55 = .ok (.ifCond .eq 9, 3) := by decide +kernel
theorem dX11_tend_58 : decode cX11_tend 58 = .ok (.aload_n 0, 1) := by decide +kernel
theorem dX11_tend_59 : decode cX11_tend 59 = .ok (.iconst 5, 1) := by decide +kernel
theorem dX11_tend_60 : decode cX11_tend 60 = .ok (.invokevirtual 329, 3) := by decide +kernel
theorem dX11_tend_63 : decode cX11_tend 63 = .ok (.ireturn, 1) := by decide +kernel
theorem dX11_tend_64 : decode cX11_tend 64 = .ok (.aload_n 0, 1) := by decide +kernel
theorem dX11_tend_65 : decode cX11_tend 65 = .ok (.iload_n 1, 1) := by decide +kernel
theorem dX11_tend_66 : decode cX11_tend 66 = .ok (.invokevirtual 167, 3) := by decide +kernel
theorem dX11_tend_69 : decode cX11_tend 69 = .ok (.ifCond .gt 9, 3) := by decide +kernel
theorem dX11_tend_72 : decode cX11_tend 72 = .ok (.aload_n 0, 1) := by decide +kernel
theorem dX11_tend_73 : decode cX11_tend 73 = .ok (.iconst 3, 1) := by decide +kernel
theorem dX11_tend_74 : decode cX11_tend 74 = .ok (.invokevirtual 329, 3) := by decide +kernel
theorem dX11_tend_77 : decode cX11_tend 77 = .ok (.ireturn, 1) := by decide +kernel
theorem dX11_tend_78 : decode cX11_tend 78 = .ok (.aload_n 0, 1) := by decide +kernel
theorem dX11_tend_79 : decode cX11_tend 79 = .ok (.getfield 40, 3) := by decide +kernel
theorem dX11_tend_82 : decode cX11_tend 82 = .ok (.aload_n 0, 1) := by decide +kernel
theorem dX11_tend_83 : decode cX11_tend 83 = .ok (.getfield 33, 3) := by decide +kernel
theorem dX11_tend_86 : decode cX11_tend 86 = .ok (.invokevirtual 335, 3) := by decide +kernel
theorem dX11_tend_89 : decode cX11_tend 89 = .ok (.aload_n 0, 1) := by decide +kernel
theorem dX11_tend_90 : decode cX11_tend 90 = .ok (.getfield 33, 3) := by decide +kernel
theorem dX11_tend_93 : decode cX11_tend 93 = .ok (.getfield 142, 3) := by decide +kernel
theorem dX11_tend_96 : decode cX11_tend 96 = .ok (.iload_n 2, 1) := by decide +kernel
theorem dX11_tend_97 : decode cX11_tend 97 = .ok (.iload_n 1, 1) := by decide +kernel
theorem dX11_tend_98 : decode cX11_tend 98 = .ok (.iastore, 1) := by decide +kernel
theorem dX11_tend_99 : decode cX11_tend 99 = .ok (.aload_n 0, 1) := by decide +kernel
theorem dX11_tend_100 : decode cX11_tend 100 = .ok (.invokevirtual 339, 3) := by decide +kernel
theorem dX11_tend_103 : decode cX11_tend 103 = .ok (.ireturn, 1) := by decide +kernel
theorem dX11_day_0 : decode cX11_day 0 = .ok (.aload_n 0, 1) := by decide +kernel
theorem dX11_day_1 : decode cX11_day 1 = .ok (.getfield 16, 3) := by decide +kernel
theorem dX11_day_4 : decode cX11_day 4 = .ok (.getfield 114, 3) := by decide +kernel
theorem dX11_day_7 : decode cX11_day 7 = .ok (.ifCond .ne 9, 3) := by decide +kernel
theorem dX11_day_10 : decode cX11_day 10 = .ok (.aload_n 0, 1) := by decide +kernel
theorem dX11_day_11 : decode cX11_day 11 = .ok (.iconst 1, 1) := by decide +kernel
theorem dX11_day_12 : decode cX11_day 12 = .ok (.invokevirtual 73, 3) := by decide +kernel
theorem dX11_day_15 : decode cX11_day 15 = .ok (.ireturn, 1) := by decide +kernel
theorem dX11_day_16 : decode cX11_day 16 = .ok (.aload_n 0, 1) := by decide +kernel
theorem dX11_day_17 : decode cX11_day 17 = .ok (.getfield 33, 3) := by decide +kernel
theorem dX11_day_20 : decode cX11_day 20 = .ok (.getfield 343, 3) := by decide +kernel
theorem dX11_day_23 : decode cX11_day 23 = .ok (.sipush 999, 3) := by decide +kernel
theorem dX11_day_26 : decode cX11_day 26 = .ok (.if_icmp .lt 9, 3) := by decide +kernel
theorem dX11_day_29 : decode cX11_day 29 = .ok (.aload_n 0, 1) := by decide +kernel
theorem dX11_day_30 : decode cX11_day 30 = .ok (.iconst 3, 1) := by decide +kernel
theorem dX11_day_31 : decode cX11_day 31 = .ok (.invokevirtual 73, 3) := by decide +kernel
theorem dX11_day_34 : decode cX11_day 34 = .ok (.ireturn, 1) := by decide +kernel
theorem dX11_day_35 : decode cX11_day 35 = .ok (.aload_n 0, 1) := by decide +kernel
theorem dX11_day_36 : decode cX11_day 36 = .ok (.getfield 33, 3) := by decide +kernel
theorem dX11_day_39 : decode cX11_day 39 = .ok (.getfield 170, 3) := by decide +kernel
theorem dX11_day_42 : decode cX11_day 42 = .ok (.ifCond .eq 9, 3) := by decide +kernel
theorem dX11_day_45 : decode cX11_day 45 = .ok (.aload_n 0, 1) := by decide +kernel
theorem dX11_day_46 : decode cX11_day 46 = .ok (.iconst 5, 1) := by decide +kernel
theorem dX11_day_47 : decode cX11_day 47 = .ok (.invokevirtual 73, 3) := by decide +kernel
theorem dX11_day_50 : decode cX11_day 50 = .ok (.ireturn, 1) := by decide +kernel
theorem dX11_day_51 : decode cX11_day 51 = .ok (.aload_n 0, 1) := by decide +kernel
theorem dX11_day_52 : decode cX11_day 52 = .ok (.getfield 40, 3) := by decide +kernel
theorem dX11_day_55 : decode cX11_day 55 = .ok (.aload_n 0, 1) := by decide +kernel
theorem dX11_day_56 : decode cX11_day 56 = .ok (.getfield 33, 3) := by decide +kernel
theorem dX11_day_59 : decode cX11_day 59 = .ok (.invokevirtual 335, 3) := by decide +kernel
theorem dX11_day_62 : decode cX11_day 62 = .ok (.aload_n 0, 1) := by decide +kernel
theorem dX11_day_63 : decode cX11_day 63 = .ok (.getfield 33, 3) := by decide +kernel
theorem dX11_day_66 : decode cX11_day 66 = .ok (.invokevirtual 173, 3) := by decide +kernel
theorem dX11_day_69 : decode cX11_day 69 = .ok (.istore_n 1, 1) := by decide +kernel
theorem dX11_day_70 : decode cX11_day 70 = .ok (.aload_n 0, 1) := by decide +kernel
theorem dX11_day_71 : decode cX11_day 71 = .ok (.getfield 16, 3) := by decide +kernel
theorem dX11_day_74 : decode cX11_day 74 = .ok (.iload_n 1, 1) := by decide +kernel
theorem dX11_day_75 : decode cX11_day 75 = .ok (.invokevirtual 181, 3) := by decide +kernel
theorem dX11_day_78 : decode cX11_day 78 = .ok (.istore_n 2, 1) := by decide +kernel
theorem dX11_day_79 : decode cX11_day 79 = .ok (.iconst 0, 1) := by decide +kernel
theorem dX11_day_80 : decode cX11_day 80 = .ok (.istore_n 3, 1) := by decide +kernel
theorem dX11_day_81 : decode cX11_day 81 = .ok (.iload_n 3, 1) := by decide +kernel
theorem dX11_day_82 : decode cX11_day 82 = .ok (.aload_n 0, 1) := by decide +kernel
theorem dX11_day_83 : decode cX11_day 83 = .ok (.getfield 16, 3) := by decide +kernel
theorem dX11_day_86 : decode cX11_day 86 = .ok (.getfield 99, 3) := by decide +kernel
theorem dX11_day_89 : decode cX11_day 89 = .ok (.getfield 103, 3) := by decide +kernel
theorem dX11_day_92 : decode cX11_day 92 = .ok (.if_icmp .ge 30, 3) := by decide +kernel
theorem dX11_day_95 : decode cX11_day 95 = .ok (.aload_n 0, 1) := by decide +kernel
theorem dX11_day_96 : decode cX11_day 96 = .ok (.getfield 33, 3) := by decide +kernel
theorem dX11_day_99 : decode cX11_day 99 = .ok (.getfield 139, 3) := by decide +kernel
theorem dX11_day_102 : decode cX11_day 102 = .ok (.iload_n 3, 1) := by decide +kernel
theorem dX11_day_103 : decode cX11_day 103 = .ok (.dup2, 1) := by decide +kernel
theorem dX11_day_104 : decode cX11_day 104 = .ok (.iaload, 1) := by decide +kernel
theorem dX11_day_105 : decode cX11_day 105 = .ok (.aload_n 0, 1) := by decide +kernel
theorem dX11_day_106 : decode cX11_day 106 = .ok (.getfield 16, 3) := by decide +kernel
theorem dX11_day_109 : decode cX11_day 109 = .ok (.iload_n 3, 1) := by decide +kernel
theorem dX11_day_110 : decode cX11_day 110 = .ok (.iload_n 1, 1) := by decide +kernel
theorem dX11_day_111 : decode cX11_day 111 = .ok (.invokevirtual 177, 3) := by decide +kernel
theorem dX11_day_114 : decode cX11_day 114 = .ok (.iadd, 1) := by decide +kernel
theorem dX11_day_115 : decode cX11_day 115 = .ok (.iastore, 1) := by decide +kernel
theorem dX11_day_116 : decode cX11_day 116 = .ok (.iinc 3 1, 3) := by decide +kernel
theorem dX11_day_119 : decode cX11_day 119 = .ok (.goto (-38), 3) := by decide +kernel
theorem dX11_day_122 : decode cX11_day 122 = .ok (.aload_n 0, 1) := by decide +kernel
theorem dX11_day_123 : decode cX11_day 123 = .ok (.getfield 33, 3) := by decide +kernel
theorem dX11_day_126 : decode cX11_day 126 = .ok (.invokevirtual 346, 3) := by decide +kernel
theorem dX11_day_129 : decode cX11_day 129 = .ok (.aload_n 0, 1) := by decide +kernel
theorem dX11_day_130 : decode cX11_day 130 = .ok (.getfield 33, 3) := by decide +kernel
theorem dX11_day_133 : decode cX11_day 133 = .ok (.dup, 1) := by decide +kernel
theorem dX11_day_134 : decode cX11_day 134 = .ok (.getfield 343, 3) := by decide +kernel
theorem dX11_day_137 : decode cX11_day 137 = .ok (.iconst 1, 1) := by decide +kernel
theorem dX11_day_138 : decode cX11_day 138 = .ok (.iadd, 1) := by decide +kernel
theorem dX11_day_139 : decode cX11_day 139 = .ok (.putfield 343, 3) := by decide +kernel
theorem dX11_day_142 : decode cX11_day 142 = .ok (.aload_n 0, 1) := by decide +kernel
theorem dX11_day_143 : decode cX11_day 143 = .ok (.iload_n 2, 1) := by decide +kernel
theorem dX11_day_144 : decode cX11_day 144 = .ok (.invokevirtual 108, 3) := by decide +kernel
theorem dX11_day_147 : decode cX11_day 147 = .ok (.ireturn, 1) := by decide +kernel
theorem dX11_say_0 : decode cX11_say 0 = .ok (.aload_n 0, 1) := by decide +kernel
theorem dX11_say_1 : decode cX11_say 1 = .ok (.iload_n 1, 1) := by decide +kernel
theorem dX11_say_2 : decode cX11_say 2 = .ok (.invokevirtual 208, 3) := by decide +kernel
theorem dX11_say_5 : decode cX11_say 5 = .ok (.ifCond .ne 9, 3) := by decide +kernel
theorem dX11_say_8 : decode cX11_say 8 = .ok (.aload_n 0, 1) := by decide +kernel
theorem dX11_say_9 : decode cX11_say 9 = .ok (.iconst 1, 1) := by decide +kernel
theorem dX11_say_10 : decode cX11_say 10 = .ok (.invokevirtual 73, 3) := by decide +kernel
theorem dX11_say_13 : decode cX11_say 13 = .ok (.ireturn, 1) := by decide +kernel
theorem dX11_say_14 : decode cX11_say 14 = .ok (.aload_n 0, 1) := by decide +kernel
theorem dX11_say_15 : decode cX11_say 15 = .ok (.iload_n 1, 1) := by decide +kernel
theorem dX11_say_16 : decode cX11_say 16 = .ok (.invokevirtual 257, 3) := by decide +kernel
theorem dX11_say_19 : decode cX11_say 19 = .ok (.ifCond .ne 9, 3) := by decide +kernel
theorem dX11_say_22 : decode cX11_say 22 = .ok (.aload_n 0, 1) := by decide +kernel
theorem dX11_say_23 : decode cX11_say 23 = .ok (.iconst 5, 1) := by decide +kernel
theorem dX11_say_24 : decode cX11_say 24 = .ok (.invokevirtual 73, 3) := by decide +kernel
theorem dX11_say_27 : decode cX11_say 27 = .ok (.ireturn, 1) := by decide +kernel
theorem dX11_say_28 : decode cX11_say 28 = .ok (.aload_n 0, 1) := by decide +kernel
theorem dX11_say_29 : decode cX11_say 29 = .ok (.getfield 54, 3) := by decide +kernel
theorem dX11_say_32 : decode cX11_say 32 = .ok (.aload_n 0, 1) := by decide +kernel
theorem dX11_say_33 : decode cX11_say 33 = .ok (.getfield 16, 3) := by decide +kernel
theorem dX11_say_36 : decode cX11_say 36 = .ok (.getfield 211, 3) := by decide +kernel
theorem dX11_say_39 : decode cX11_say 39 = .ok (.invokevirtual 239, 3) := by decide +kernel
theorem dX11_say_42 : decode cX11_say 42 = .ok (.aload_n 0, 1) := by decide +kernel
theorem dX11_say_43 : decode cX11_say 43 = .ok (.getfield 54, 3) := by decide +kernel
theorem dX11_say_46 : decode cX11_say 46 = .ok (.aload_n 0, 1) := by decide +kernel
theorem dX11_say_47 : decode cX11_say 47 = .ok (.invokevirtual 232, 3) := by decide +kernel
theorem dX11_say_50 : decode cX11_say 50 = .ok (.invokevirtual 242, 3) := by decide +kernel
theorem dX11_say_53 : decode cX11_say 53 = .ok (.istore_n 2, 1) := by decide +kernel
theorem dX11_say_54 : decode cX11_say 54 = .ok (.aload_n 0, 1) := by decide +kernel
theorem dX11_say_55 : decode cX11_say 55 = .ok (.getfield 40, 3) := by decide +kernel
theorem dX11_say_58 : decode cX11_say 58 = .ok (.aload_n 0, 1) := by decide +kernel
theorem dX11_say_59 : decode cX11_say 59 = .ok (.getfield 33, 3) := by decide +kernel
theorem dX11_say_62 : decode cX11_say 62 = .ok (.invokevirtual 335, 3) := by decide +kernel
theorem dX11_say_65 : decode cX11_say 65 = .ok (.aload_n 0, 1) := by decide +kernel
theorem dX11_say_66 : decode cX11_say 66 = .ok (.getfield 33, 3) := by decide +kernel
theorem dX11_say_69 : decode cX11_say 69 = .ok (.aload_n 0, 1) := by decide +kernel
theorem dX11_say_70 : decode cX11_say 70 = .ok (.getfield 33, 3) := by decide +kernel
theorem dX11_say_73 : decode cX11_say 73 = .ok (.getfield 349, 3) := by decide +kernel
theorem dX11_say_76 : decode cX11_say 76 = .ok (.invokestatic 323, 3) := by decide +kernel
theorem dX11_say_79 : decode cX11_say 79 = .ok (.putfield 349, 3) := by decide +kernel
theorem dX11_say_82 : decode cX11_say 82 = .ok (.aload_n 0, 1) := by decide +kernel
theorem dX11_say_83 : decode cX11_say 83 = .ok (.getfield 33, 3) := by decide +kernel
theorem dX11_say_86 : decode cX11_say 86 = .ok (.iload_n 2, 1) := by decide +kernel
theorem dX11_say_87 : decode cX11_say 87 = .ok (.ifCond .le 31, 3) := by decide +kernel
theorem dX11_say_90 : decode cX11_say 90 = .ok (.aload_n 0, 1) := by decide +kernel
theorem dX11_say_91 : decode cX11_say 91 = .ok (.getfield 33, 3) := by decide +kernel
theorem dX11_say_94 : decode cX11_say 94 = .ok (.getfield 349, 3) := by decide +kernel
theorem dX11_say_97 : decode cX11_say 97 = .ok (.iload_n 2, 1) := by decide +kernel
theorem dX11_say_98 : decode cX11_say 98 = .ok (.irem, 1) := by decide +kernel
theorem dX11_say_99 : decode cX11_say 99 = .ok (.aload_n 0, 1) := by decide +kernel
theorem dX11_say_100 : decode cX11_say 100 = .ok (.getfield 16, 3) := by decide +kernel
theorem dX11_say_103 : decode cX11_say 103 = .ok (.getfield 211, 3) := by decide +kernel
theorem dX11_say_106 : decode cX11_say 106 = .ok (.getfield 215, 3) := by decide +kernel
theorem dX11_say_109 : decode cX11_say 109 = .ok (.iload_n 1, 1) := by decide +kernel
theorem dX11_say_110 : decode cX11_say 110 = .ok (.iaload, 1) := by decide +kernel
theorem dX11_say_111 : decode cX11_say 111 = .ok (.if_icmp .ge 7, 3) := by decide +kernel
theorem dX11_say_114 : decode cX11_say 114 = .ok (.iconst 1, 1) := by decide +kernel
theorem dX11_say_115 : decode cX11_say 115 = .ok (.goto 4, 3) := by decide +kernel
theorem dX11_say_118 : decode cX11_say 118 = .ok (.iconst 0, 1) := by decide +kernel
theorem dX11_say_119 : decode cX11_say 119 = .ok (.putfield 170, 3) := by decide +kernel
theorem dX11_say_122 : decode cX11_say 122 = .ok (.aload_n 0, 1) := by decide +kernel
theorem dX11_say_123 : decode cX11_say 123 = .ok (.getfield 33, 3) := by decide +kernel
theorem dX11_say_126 : decode cX11_say 126 = .ok (.dup, 1) := by decide +kernel
theorem dX11_say_127 : decode cX11_say 127 = .ok (.getfield 223, 3) := by decide +kernel
theorem dX11_say_130 : decode cX11_say 130 = .ok (.iload_n 1, 1) := by decide +kernel
theorem dX11_say_131 : decode cX11_say 131 = .ok (.invokestatic 226, 3) := by decide +kernel
theorem dX11_say_134 : decode cX11_say 134 = .ok (.ior, 1) := by decide +kernel
theorem dX11_say_135 : decode cX11_say 135 = .ok (.putfield 223, 3) := by decide +kernel
theorem dX11_say_138 : decode cX11_say 138 = .ok (.aload_n 0, 1) := by decide +kernel
theorem dX11_say_139 : decode cX11_say 139 = .ok (.aload_n 0, 1) := by decide +kernel
theorem dX11_say_140 : decode cX11_say 140 = .ok (.getfield 33, 3) := by decide +kernel
theorem dX11_say_143 : decode cX11_say 143 = .ok (.getfield 170, 3) := by decide +kernel
theorem dX11_say_146 : decode cX11_say 146 = .ok (.ifCond .eq 7, 3) := by decide +kernel
theorem dX11_say_149 : decode cX11_say 149 = .ok (.iconst 1, 1) := by decide +kernel
theorem dX11_say_150 : decode cX11_say 150 = .ok (.goto 4, 3) := by decide +kernel
theorem dX11_say_153 : decode cX11_say 153 = .ok (.iconst 0, 1) := by decide +kernel
theorem dX11_say_154 : decode cX11_say 154 = .ok (.invokevirtual 108, 3) := by decide +kernel
theorem dX11_say_157 : decode cX11_say 157 = .ok (.ireturn, 1) := by decide +kernel
theorem dX11_seed_0 : decode cX11_seed 0 = .ok (.aload_n 0, 1) := by decide +kernel
theorem dX11_seed_1 : decode cX11_seed 1 = .ok (.getfield 16, 3) := by decide +kernel
theorem dX11_seed_4 : decode cX11_seed 4 = .ok (.getfield 114, 3) := by decide +kernel
theorem dX11_seed_7 : decode cX11_seed 7 = .ok (.ifCond .ne 9, 3) := by decide +kernel
theorem dX11_seed_10 : decode cX11_seed 10 = .ok (.aload_n 0, 1) := by decide +kernel
theorem dX11_seed_11 : decode cX11_seed 11 = .ok (.iconst 1, 1) := by decide +kernel
theorem dX11_seed_12 : decode cX11_seed 12 = .ok (.invokevirtual 329, 3) := by decide +kernel
theorem dX11_seed_15 : decode cX11_seed 15 = .ok (.ireturn, 1) := by decide +kernel
theorem dX11_seed_16 : decode cX11_seed 16 = .ok (.iload_n 1, 1) := by decide +kernel
theorem dX11_seed_17 : decode cX11_seed 17 = .ok (.ifCond .lt 10, 3) := by decide +kernel
theorem dX11_seed_20 : decode cX11_seed 20 = .ok (.iload_n 1, 1) := by decide +kernel
theorem dX11_seed_21 : decode cX11_seed 21 = .ok (.ldc_w 352, 3) := by decide +kernel
theorem dX11_seed_24 : decode cX11_seed 24 = .ok (.if_icmp .le 9, 3) := by decide +kernel
theorem dX11_seed_27 : decode cX11_seed 27 = .ok (.aload_n 0, 1) := by decide +kernel
theorem dX11_seed_28 : decode cX11_seed 28 = .ok (.iconst 2, 1) := by decide +kernel
theorem dX11_seed_29 : decode cX11_seed 29 = .ok (.invokevirtual 329, 3) := by decide +kernel
theorem dX11_seed_32 : decode cX11_seed 32 = .ok (.ireturn, 1) := by decide +kernel
theorem dX11_seed_33 : decode cX11_seed 33 = .ok (.aload_n 0, 1) := by decide +kernel
theorem dX11_seed_34 : decode cX11_seed 34 = .ok (.getfield 33, 3) := by decide +kernel
theorem dX11_seed_37 : decode cX11_seed 37 = .ok (.iload_n 1, 1) := by decide +kernel
theorem dX11_seed_38 : decode cX11_seed 38 = .ok (.putfield 349, 3) := by decide +kernel
theorem dX11_seed_41 : decode cX11_seed 41 = .ok (.aload_n 0, 1) := by decide +kernel
theorem dX11_seed_42 : decode cX11_seed 42 = .ok (.invokevirtual 339, 3) := by decide +kernel
theorem dX11_seed_45 : decode cX11_seed 45 = .ok (.ireturn, 1) := by decide +kernel
theorem dX11_undo_0 : decode cX11_undo 0 = .ok (.aload_n 0, 1) := by decide +kernel
theorem dX11_undo_1 : decode cX11_undo 1 = .ok (.getfield 40, 3) := by decide +kernel
theorem dX11_undo_4 : decode cX11_undo 4 = .ok (.getfield 353, 3) := by decide +kernel
theorem dX11_undo_7 : decode cX11_undo 7 = .ok (.ifCond .gt 10, 3) := by decide +kernel
theorem dX11_undo_10 : decode cX11_undo 10 = .ok (.aload_n 0, 1) := by decide +kernel
theorem dX11_undo_11 : decode cX11_undo 11 = .ok (.bipush 6, 2) := by decide +kernel
theorem dX11_undo_13 : decode cX11_undo 13 = .ok (.invokevirtual 329, 3) := by decide +kernel
theorem dX11_undo_16 : decode cX11_undo 16 = .ok (.ireturn, 1) := by decide +kernel
theorem dX11_undo_17 : decode cX11_undo 17 = .ok (.aload_n 0, 1) := by decide +kernel
theorem dX11_undo_18 : decode cX11_undo 18 = .ok (.getfield 40, 3) := by decide +kernel
theorem dX11_undo_21 : decode cX11_undo 21 = .ok (.aload_n 0, 1) := by decide +kernel
theorem dX11_undo_22 : decode cX11_undo 22 = .ok (.getfield 33, 3) := by decide +kernel
theorem dX11_undo_25 : decode cX11_undo 25 = .ok (.invokevirtual 354, 3) := by decide +kernel
theorem dX11_undo_28 : decode cX11_undo 28 = .ok (.aload_n 0, 1) := by decide +kernel
theorem dX11_undo_29 : decode cX11_undo 29 = .ok (.invokevirtual 339, 3) := by decide +kernel
theorem dX11_undo_32 : decode cX11_undo 32 = .ok (.ireturn, 1) := by decide +kernel
theorem dX11_image_0 : decode cX11_image 0 = .ok (.aload_n 0, 1) := by decide +kernel
theorem dX11_image_1 : decode cX11_image 1 = .ok (.getfield 16, 3) := by decide +kernel
theorem dX11_image_4 : decode cX11_image 4 = .ok (.getfield 114, 3) := by decide +kernel
theorem dX11_image_7 : decode cX11_image 7 = .ok (.ifCond .ne 9, 3) := by decide +kernel
theorem dX11_image_10 : decode cX11_image 10 = .ok (.aload_n 0, 1) := by decide +kernel
theorem dX11_image_11 : decode cX11_image 11 = .ok (.iconst 1, 1) := by decide +kernel
theorem dX11_image_12 : decode cX11_image 12 = .ok (.invokevirtual 73, 3) := by decide +kernel
theorem dX11_image_15 : decode cX11_image 15 = .ok (.ireturn, 1) := by decide +kernel
theorem dX11_image_16 : decode cX11_image 16 = .ok (.aload_n 0, 1) := by decide +kernel
theorem dX11_image_17 : decode cX11_image 17 = .ok (.getfield 40, 3) := by decide +kernel
theorem dX11_image_20 : decode cX11_image 20 = .ok (.getfield 357, 3) := by decide +kernel
theorem dX11_image_23 : decode cX11_image 23 = .ok (.iconst 3, 1) := by decide +kernel
theorem dX11_image_24 : decode cX11_image 24 = .ok (.if_icmp .lt 9, 3) := by decide +kernel
theorem dX11_image_27 : decode cX11_image 27 = .ok (.aload_n 0, 1) := by decide +kernel
theorem dX11_image_28 : decode cX11_image 28 = .ok (.iconst 3, 1) := by decide +kernel
theorem dX11_image_29 : decode cX11_image 29 = .ok (.invokevirtual 73, 3) := by decide +kernel
theorem dX11_image_32 : decode cX11_image 32 = .ok (.ireturn, 1) := by decide +kernel
theorem dX11_image_33 : decode cX11_image 33 = .ok (.aload_n 0, 1) := by decide +kernel
theorem dX11_image_34 : decode cX11_image 34 = .ok (.aload_n 0, 1) := by decide +kernel
theorem dX11_image_35 : decode cX11_image 35 = .ok (.getfield 40, 3) := by decide +kernel
theorem dX11_image_38 : decode cX11_image 38 = .ok (.aload_n 0, 1) := by decide +kernel
theorem dX11_image_39 : decode cX11_image 39 = .ok (.getfield 33, 3) := by decide +kernel
theorem dX11_image_42 : decode cX11_image 42 = .ok (.invokevirtual 360, 3) := by decide +kernel
theorem dX11_image_45 : decode cX11_image 45 = .ok (.invokevirtual 108, 3) := by decide +kernel
theorem dX11_image_48 : decode cX11_image 48 = .ok (.ireturn, 1) := by decide +kernel
theorem dX11_back_0 : decode cX11_back 0 = .ok (.iload_n 1, 1) := by decide +kernel
theorem dX11_back_1 : decode cX11_back 1 = .ok (.ifCond .lt 14, 3) := by decide +kernel
theorem dX11_back_4 : decode cX11_back 4 = .ok (.iload_n 1, 1) := by decide +kernel
theorem dX11_back_5 : decode cX11_back 5 = .ok (.aload_n 0, 1) := by decide +kernel
theorem dX11_back_6 : decode cX11_back 6 = .ok (.getfield 40, 3) := by decide +kernel
theorem dX11_back_9 : decode cX11_back 9 = .ok (.getfield 357, 3) := by decide +kernel
theorem dX11_back_12 : decode cX11_back 12 = .ok (.if_icmp .lt 9, 3) := by decide +kernel
theorem dX11_back_15 : decode cX11_back 15 = .ok (.aload_n 0, 1) := by decide +kernel
theorem dX11_back_16 : decode cX11_back 16 = .ok (.iconst 1, 1) := by decide +kernel
theorem dX11_back_17 : decode cX11_back 17 = .ok (.invokevirtual 329, 3) := by decide +kernel
theorem dX11_back_20 : decode cX11_back 20 = .ok (.ireturn, 1) := by decide +kernel
theorem dX11_back_21 : decode cX11_back 21 = .ok (.aload_n 0, 1) := by decide +kernel
theorem dX11_back_22 : decode cX11_back 22 = .ok (.getfield 40, 3) := by decide +kernel
theorem dX11_back_25 : decode cX11_back 25 = .ok (.aload_n 0, 1) := by decide +kernel
theorem dX11_back_26 : decode cX11_back 26 = .ok (.getfield 33, 3) := by decide +kernel
theorem dX11_back_29 : decode cX11_back 29 = .ok (.iload_n 1, 1) := by decide +kernel
theorem dX11_back_30 : decode cX11_back 30 = .ok (.invokevirtual 364, 3) := by decide +kernel
theorem dX11_back_33 : decode cX11_back 33 = .ok (.aload_n 0, 1) := by decide +kernel
theorem dX11_back_34 : decode cX11_back 34 = .ok (.invokevirtual 339, 3) := by decide +kernel
theorem dX11_back_37 : decode cX11_back 37 = .ok (.ireturn, 1) := by decide +kernel
theorem dX11_led_0 : decode cX11_led 0 = .ok (.iload_n 1, 1) := by decide +kernel
theorem dX11_led_1 : decode cX11_led 1 = .ok (.ifCond .lt 17, 3) := by decide +kernel
theorem dX11_led_4 : decode cX11_led 4 = .ok (.iload_n 1, 1) := by decide +kernel
theorem dX11_led_5 : decode cX11_led 5 = .ok (.aload_n 0, 1) := by decide +kernel
theorem dX11_led_6 : decode cX11_led 6 = .ok (.getfield 33, 3) := by decide +kernel
theorem dX11_led_9 : decode cX11_led 9 = .ok (.getfield 223, 3) := by decide +kernel
theorem dX11_led_12 : decode cX11_led 12 = .ok (.invokestatic 248, 3) := by decide +kernel
theorem dX11_led_15 : decode cX11_led 15 = .ok (.if_icmp .lt 14, 3) := by decide +kernel
theorem dX11_led_18 : decode cX11_led 18 = .ok (.new 368, 3) := by decide +kernel
theorem dX11_led_21 : decode cX11_led 21 = .ok (.dup, 1) := by decide +kernel
theorem dX11_led_22 : decode cX11_led 22 = .ok (.ldc_w 370, 3) := by decide +kernel
theorem dX11_led_25 : decode cX11_led 25 = .ok (.invokespecial 372, 3) := by decide +kernel
theorem dX11_led_28 : decode cX11_led 28 = .ok (.athrow, 1) := by decide +kernel
theorem dX11_led_29 : decode cX11_led 29 = .ok (.iload_n 1, 1) := by decide +kernel
theorem dX11_led_30 : decode cX11_led 30 = .ok (.istore_n 2, 1) := by decide +kernel
theorem dX11_led_31 : decode cX11_led 31 = .ok (.iconst 0, 1) := by decide +kernel
theorem dX11_led_32 : decode cX11_led 32 = .ok (.istore_n 3, 1) := by decide +kernel
theorem dX11_led_33 : decode cX11_led 33 = .ok (.iload_n 3, 1) := by decide +kernel
theorem dX11_led_34 : decode cX11_led 34 = .ok (.bipush 7, 2) := by decide +kernel
theorem dX11_led_36 : decode cX11_led 36 = .ok (.if_icmp .ge 33, 3) := by decide +kernel
theorem dX11_led_39 : decode cX11_led 39 = .ok (.aload_n 0, 1) := by decide +kernel
theorem dX11_led_40 : decode cX11_led 40 = .ok (.getfield 33, 3) := by decide +kernel
theorem dX11_led_43 : decode cX11_led 43 = .ok (.getfield 223, 3) := by decide +kernel
theorem dX11_led_46 : decode cX11_led 46 = .ok (.iload_n 3, 1) := by decide +kernel
theorem dX11_led_47 : decode cX11_led 47 = .ok (.invokestatic 226, 3) := by decide +kernel
theorem dX11_led_50 : decode cX11_led 50 = .ok (.iand, 1) := by decide +kernel
theorem dX11_led_51 : decode cX11_led 51 = .ok (.ifCond .eq 12, 3) := by decide +kernel
theorem dX11_led_54 : decode cX11_led 54 = .ok (.iload_n 2, 1) := by decide +kernel
theorem dX11_led_55 : decode cX11_led 55 = .ok (.ifCond .ne 5, 3) := by decide +kernel
theorem dX11_led_58 : decode cX11_led 58 = .ok (.iload_n 3, 1) := by decide +kernel
theorem dX11_led_59 : decode cX11_led 59 = .ok (.ireturn, 1) := by decide +kernel
theorem dX11_led_60 : decode cX11_led 60 = .ok (.iinc 2 (-1), 3) := by decide +kernel
theorem dX11_led_63 : decode cX11_led 63 = .ok (.iinc 3 1, 3) := by decide +kernel
theorem dX11_led_66 : decode cX11_led 66 = .ok (.goto (-33), 3) := by decide +kernel
theorem dX11_led_69 : decode cX11_led 69 = .ok (.new 368, 3) := by decide +kernel
theorem dX11_led_72 : decode cX11_led 72 = .ok (.dup, 1) := by decide +kernel
theorem dX11_led_73 : decode cX11_led 73 = .ok (.ldc_w 370, 3) := by decide +kernel
theorem dX11_led_76 : decode cX11_led 76 = .ok (.invokespecial 372, 3) := by decide +kernel
theorem dX11_led_79 : decode cX11_led 79 = .ok (.athrow, 1) := by decide +kernel
theorem dX11_size_0 : decode cX11_size 0 = .ok (.iload_n 1, 1) := by decide +kernel
theorem dX11_size_1 : decode cX11_size 1 = .ok (.tableswitch 206 0 13 #[71, 79, 87, 98, 109, 120, 131, 142, 153, 161, 177, 185, 193, 201], 71) := by decide +kernel
theorem dX11_size_72 : decode cX11_size 72 = .ok (.aload_n 0, 1) := by decide +kernel
theorem dX11_size_73 : decode cX11_size 73 = .ok (.getfield 16, 3) := by decide +kernel
theorem dX11_size_76 : decode cX11_size 76 = .ok (.getfield 375, 3) := by decide +kernel
theorem dX11_size_79 : decode cX11_size 79 = .ok (.ireturn, 1) := by decide +kernel
theorem dX11_size_80 : decode cX11_size 80 = .ok (.aload_n 0, 1) := by decide +kernel
theorem dX11_size_81 : decode cX11_size 81 = .ok (.getfield 16, 3) := by decide +kernel
theorem dX11_size_84 : decode cX11_size 84 = .ok (.getfield 326, 3) := by decide +kernel
theorem dX11_size_87 : decode cX11_size 87 = .ok (.ireturn, 1) := by decide +kernel
theorem dX11_size_88 : decode cX11_size 88 = .ok (.aload_n 0, 1) := by decide +kernel
theorem dX11_size_89 : decode cX11_size 89 = .ok (.getfield 16, 3) := by decide +kernel
theorem dX11_size_92 : decode cX11_size 92 = .ok (.getfield 99, 3) := by decide +kernel
theorem dX11_size_95 : decode cX11_size 95 = .ok (.getfield 103, 3) := by decide +kernel
theorem dX11_size_98 : decode cX11_size 98 = .ok (.ireturn, 1) := by decide +kernel
theorem dX11_size_99 : decode cX11_size 99 = .ok (.aload_n 0, 1) := by decide +kernel
theorem dX11_size_100 : decode cX11_size 100 = .ok (.getfield 16, 3) := by decide +kernel
theorem dX11_size_103 : decode cX11_size 103 = .ok (.getfield 151, 3) := by decide +kernel
theorem dX11_size_106 : decode cX11_size 106 = .ok (.getfield 207, 3) := by decide +kernel
theorem dX11_size_109 : decode cX11_size 109 = .ok (.ireturn, 1) := by decide +kernel
theorem dX11_size_110 : decode cX11_size 110 = .ok (.aload_n 0, 1) := by decide +kernel
theorem dX11_size_111 : decode cX11_size 111 = .ok (.getfield 16, 3) := by decide +kernel
theorem dX11_size_114 : decode cX11_size 114 = .ok (.getfield 211, 3) := by decide +kernel
theorem dX11_size_117 : decode cX11_size 117 = .ok (.getfield 266, 3) := by decide +kernel
theorem dX11_size_120 : decode cX11_size 120 = .ok (.ireturn, 1) := by decide +kernel
theorem dX11_size_121 : decode cX11_size 121 = .ok (.aload_n 0, 1) := by decide +kernel
theorem dX11_size_122 : decode cX11_size 122 = .ok (.getfield 16, 3) := by decide +kernel
theorem dX11_size_125 : decode cX11_size 125 = .ok (.getfield 211, 3) := by decide +kernel
theorem dX11_size_128 : decode cX11_size 128 = .ok (.getfield 378, 3) := by decide +kernel
theorem dX11_size_131 : decode cX11_size 131 = .ok (.ireturn, 1) := by decide +kernel
theorem dX11_size_132 : decode cX11_size 132 = .ok (.aload_n 0, 1) := by decide +kernel
theorem dX11_size_133 : decode cX11_size 133 = .ok (.getfield 16, 3) := by decide +kernel
theorem dX11_size_136 : decode cX11_size 136 = .ok (.getfield 273, 3) := by decide +kernel
theorem dX11_size_139 : decode cX11_size 139 = .ok (.getfield 293, 3) := by decide +kernel
theorem dX11_size_142 : decode cX11_size 142 = .ok (.ireturn, 1) := by decide +kernel
theorem dX11_size_143 : decode cX11_size 143 = .ok (.aload_n 0, 1) := by decide +kernel
theorem dX11_size_144 : decode cX11_size 144 = .ok (.getfield 16, 3) := by decide +kernel
theorem dX11_size_147 : decode cX11_size 147 = .ok (.getfield 273, 3) := by decide +kernel
theorem dX11_size_150 : decode cX11_size 150 = .ok (.getfield 381, 3) := by decide +kernel
theorem dX11_size_153 : decode cX11_size 153 = .ok (.ireturn, 1) := by decide +kernel
theorem dX11_size_154 : decode cX11_size 154 = .ok (.aload_n 0, 1) := by decide +kernel
theorem dX11_size_155 : decode cX11_size 155 = .ok (.getfield 33, 3) := by decide +kernel
theorem dX11_size_158 : decode cX11_size 158 = .ok (.getfield 343, 3) := by decide +kernel
theorem dX11_size_161 : decode cX11_size 161 = .ok (.ireturn, 1) := by decide +kernel
theorem dX11_size_162 : decode cX11_size 162 = .ok (.aload_n 0, 1) := by decide +kernel
theorem dX11_size_163 : decode cX11_size 163 = .ok (.getfield 33, 3) := by decide +kernel
theorem dX11_size_166 : decode cX11_size 166 = .ok (.getfield 170, 3) := by decide +kernel
theorem dX11_size_169 : decode cX11_size 169 = .ok (.ifCond .eq 7, 3) := by decide +kernel
theorem dX11_size_172 : decode cX11_size 172 = .ok (.iconst 1, 1) := by decide +kernel
theorem dX11_size_173 : decode cX11_size 173 = .ok (.goto 4, 3) := by decide +kernel
theorem dX11_size_176 : decode cX11_size 176 = .ok (.iconst 0, 1) := by decide +kernel
theorem dX11_size_177 : decode cX11_size 177 = .ok (.ireturn, 1) := by decide +kernel
theorem dX11_size_178 : decode cX11_size 178 = .ok (.aload_n 0, 1) := by decide +kernel
theorem dX11_size_179 : decode cX11_size 179 = .ok (.getfield 33, 3) := by decide +kernel
theorem dX11_size_182 : decode cX11_size 182 = .ok (.getfield 349, 3) := by decide +kernel
theorem dX11_size_185 : decode cX11_size 185 = .ok (.ireturn, 1) := by decide +kernel
theorem dX11_size_186 : decode cX11_size 186 = .ok (.aload_n 0, 1) := by decide +kernel
theorem dX11_size_187 : decode cX11_size 187 = .ok (.getfield 40, 3) := by decide +kernel
theorem dX11_size_190 : decode cX11_size 190 = .ok (.getfield 353, 3) := by decide +kernel
theorem dX11_size_193 : decode cX11_size 193 = .ok (.ireturn, 1) := by decide +kernel
theorem dX11_size_194 : decode cX11_size 194 = .ok (.aload_n 0, 1) := by decide +kernel
theorem dX11_size_195 : decode cX11_size 195 = .ok (.getfield 40, 3) := by decide +kernel
theorem dX11_size_198 : decode cX11_size 198 = .ok (.getfield 357, 3) := by decide +kernel
theorem dX11_size_201 : decode cX11_size 201 = .ok (.ireturn, 1) := by decide +kernel
theorem dX11_size_202 : decode cX11_size 202 = .ok (.aload_n 0, 1) := by decide +kernel
theorem dX11_size_203 : decode cX11_size 203 = .ok (.getfield 65, 3) := by decide +kernel
theorem dX11_size_206 : decode cX11_size 206 = .ok (.ireturn, 1) := by decide +kernel
theorem dX11_size_207 : decode cX11_size 207 = .ok (.iconst (-1), 1) := by decide +kernel
theorem dX11_size_208 : decode cX11_size 208 = .ok (.ireturn, 1) := by decide +kernel
theorem dX11_trouble_0 : decode cX11_trouble 0 = .ok (.aload_n 0, 1) := by decide +kernel
theorem dX11_trouble_1 : decode cX11_trouble 1 = .ok (.getfield 111, 3) := by decide +kernel
theorem dX11_trouble_4 : decode cX11_trouble 4 = .ok (.ireturn, 1) := by decide +kernel
theorem dX11_refuse_0 : decode cX11_refuse 0 = .ok (.aload_n 0, 1) := by decide +kernel
theorem dX11_refuse_1 : decode cX11_refuse 1 = .ok (.iload_n 1, 1) := by decide +kernel
theorem dX11_refuse_2 : decode cX11_refuse 2 = .ok (.putfield 111, 3) := by decide +kernel
theorem dX11_refuse_5 : decode cX11_refuse 5 = .ok (.iconst (-1), 1) := by decide +kernel
theorem dX11_refuse_6 : decode cX11_refuse 6 = .ok (.ireturn, 1) := by decide +kernel
theorem dX11_grant_0 : decode cX11_grant 0 = .ok (.aload_n 0, 1) := by decide +kernel
theorem dX11_grant_1 : decode cX11_grant 1 = .ok (.iconst 0, 1) := by decide +kernel
theorem dX11_grant_2 : decode cX11_grant 2 = .ok (.putfield 111, 3) := by decide +kernel
theorem dX11_grant_5 : decode cX11_grant 5 = .ok (.iload_n 1, 1) := by decide +kernel
theorem dX11_grant_6 : decode cX11_grant 6 = .ok (.ireturn, 1) := by decide +kernel
theorem dX11_deny_0 : decode cX11_deny 0 = .ok (.aload_n 0, 1) := by decide +kernel
theorem dX11_deny_1 : decode cX11_deny 1 = .ok (.iload_n 1, 1) := by decide +kernel
theorem dX11_deny_2 : decode cX11_deny 2 = .ok (.putfield 111, 3) := by decide +kernel
theorem dX11_deny_5 : decode cX11_deny 5 = .ok (.iconst 0, 1) := by decide +kernel
theorem dX11_deny_6 : decode cX11_deny 6 = .ok (.ireturn, 1) := by decide +kernel
theorem dX11_allow_0 : decode cX11_allow 0 = .ok (.aload_n 0, 1) := by decide +kernel
theorem dX11_allow_1 : decode cX11_allow 1 = .ok (.iconst 0, 1) := by decide +kernel
theorem dX11_allow_2 : decode cX11_allow 2 = .ok (.putfield 111, 3) := by decide +kernel
theorem dX11_allow_5 : decode cX11_allow 5 = .ok (.iconst 1, 1) := by decide +kernel
theorem dX11_allow_6 : decode cX11_allow 6 = .ok (.ireturn, 1) := by decide +kernel
theorem dX11_grantPart_0 : decode cX11_grantPart 0 = .ok (.aload_n 0, 1) := by decide +kernel
theorem dX11_grantPart_1 : decode cX11_grantPart 1 = .ok (.iconst 0, 1) := by decide +kernel
theorem dX11_grantPart_2 : decode cX11_grantPart 2 = .ok (.putfield 111, 3) := by decide +kernel
theorem dX11_grantPart_5 : decode cX11_grantPart 5 = .ok (.iload_n 1, 1) := by decide +kernel
theorem dX11_grantPart_6 : decode cX11_grantPart 6 = .ok (.iload_n 2, 1) := by decide +kernel
theorem dX11_grantPart_7 : decode cX11_grantPart 7 = .ok (.invokestatic 384, 3) := by decide +kernel
theorem dX11_grantPart_10 : decode cX11_grantPart 10 = .ok (.istore 4, 2) := by decide +kernel
theorem dX11_grantPart_12 : decode cX11_grantPart 12 = .ok (.iload 4, 2) := by decide +kernel
theorem dX11_grantPart_14 : decode cX11_grantPart 14 = .ok (.ifCond .gt 13, 3) := by decide +kernel
theorem dX11_grantPart_17 : decode cX11_grantPart 17 = .ok (.iload_n 3, 1) := by decide +kernel
theorem dX11_grantPart_18 : decode cX11_grantPart 18 = .ok (.ifCond .eq 7, 3) := by decide +kernel
theorem dX11_grantPart_21 : decode cX11_grantPart 21 = .ok (.lconst 1, 1) := by decide +kernel
theorem dX11_grantPart_22 : decode cX11_grantPart 22 = .ok (.goto 4, 3) := by decide +kernel
theorem dX11_grantPart_25 : decode cX11_grantPart 25 = .ok (.lconst 0, 1) := by decide +kernel
theorem dX11_grantPart_26 : decode cX11_grantPart 26 = .ok (.lreturn, 1) := by decide +kernel
theorem dX11_grantPart_27 : decode cX11_grantPart 27 = .ok (.iload_n 3, 1) := by decide +kernel
theorem dX11_grantPart_28 : decode cX11_grantPart 28 = .ok (.ifCond .eq 7, 3) := by decide +kernel
theorem dX11_grantPart_31 : decode cX11_grantPart 31 = .ok (.iload_n 2, 1) := by decide +kernel
theorem dX11_grantPart_32 : decode cX11_grantPart 32 = .ok (.goto 4, 3) := by decide +kernel
theorem dX11_grantPart_35 : decode cX11_grantPart 35 = .ok (.iload_n 1, 1) := by decide +kernel
theorem dX11_grantPart_36 : decode cX11_grantPart 36 = .ok (.iload 4, 2) := by decide +kernel
theorem dX11_grantPart_38 : decode cX11_grantPart 38 = .ok (.idiv, 1) := by decide +kernel
theorem dX11_grantPart_39 : decode cX11_grantPart 39 = .ok (.i2l, 1) := by decide +kernel
theorem dX11_grantPart_40 : decode cX11_grantPart 40 = .ok (.lreturn, 1) := by decide +kernel
theorem dX11_putBytes_0 : decode cX11_putBytes 0 = .ok (.bipush 24, 2) := by decide +kernel
theorem dX11_putBytes_2 : decode cX11_putBytes 2 = .ok (.istore_n 2, 1) := by decide +kernel
theorem dX11_putBytes_3 : decode cX11_putBytes 3 = .ok (.iload_n 2, 1) := by decide +kernel
theorem dX11_putBytes_4 : decode cX11_putBytes 4 = .ok (.ifCond .lt 42, 3) := by decide +kernel
theorem dX11_putBytes_7 : decode cX11_putBytes 7 = .ok (.aload_n 0, 1) := by decide +kernel
theorem dX11_putBytes_8 : decode cX11_putBytes 8 = .ok (.getfield 65, 3) := by decide +kernel
theorem dX11_putBytes_11 : decode cX11_putBytes 11 = .ok (.sipush 900, 3) := by decide +kernel
theorem dX11_putBytes_14 : decode cX11_putBytes 14 = .ok (.if_icmp .ge 26, 3) := by decide +kernel
theorem dX11_putBytes_17 : decode cX11_putBytes 17 = .ok (.aload_n 0, 1) := by decide +kernel
theorem dX11_putBytes_18 : decode cX11_putBytes 18 = .ok (.getfield 9, 3) := by decide +kernel
theorem dX11_putBytes_21 : decode cX11_putBytes 21 = .ok (.aload_n 0, 1) := by decide +kernel
theorem dX11_putBytes_22 : decode cX11_putBytes 22 = .ok (.getfield 65, 3) := by decide +kernel
theorem dX11_putBytes_25 : decode cX11_putBytes 25 = .ok (.iload_n 1, 1) := by decide +kernel
theorem dX11_putBytes_26 : decode cX11_putBytes 26 = .ok (.iload_n 2, 1) := by decide +kernel
theorem dX11_putBytes_27 : decode cX11_putBytes 27 = .ok (.ishr, 1) := by decide +kernel
theorem dX11_putBytes_28 : decode cX11_putBytes 28 = .ok (.i2b, 1) := by decide +kernel
theorem dX11_putBytes_29 : decode cX11_putBytes 29 = .ok (.bastore, 1) := by decide +kernel
theorem dX11_putBytes_30 : decode cX11_putBytes 30 = .ok (.aload_n 0, 1) := by decide +kernel
theorem dX11_putBytes_31 : decode cX11_putBytes 31 = .ok (.dup, 1) := by decide +kernel
theorem dX11_putBytes_32 : decode cX11_putBytes 32 = .ok (.getfield 65, 3) := by decide +kernel
theorem dX11_putBytes_35 : decode cX11_putBytes 35 = .ok (.iconst 1, 1) := by decide +kernel
theorem dX11_putBytes_36 : decode cX11_putBytes 36 = .ok (.iadd, 1) := by decide +kernel
theorem dX11_putBytes_37 : decode cX11_putBytes 37 = .ok (.putfield 65, 3) := by decide +kernel
theorem dX11_putBytes_40 : decode cX11_putBytes 40 = .ok (.iinc 2 (-8), 3) := by decide +kernel
theorem dX11_putBytes_43 : decode cX11_putBytes 43 = .ok (.goto (-40), 3) := by decide +kernel
theorem dX11_putBytes_46 : decode cX11_putBytes 46 = .ok (.return_, 1) := by decide +kernel
theorem dX11_isSleeper_0 : decode cX11_isSleeper 0 = .ok (.iload_n 1, 1) := by decide +kernel
theorem dX11_isSleeper_1 : decode cX11_isSleeper 1 = .ok (.ifCond .lt 21, 3) := by decide +kernel
theorem dX11_isSleeper_4 : decode cX11_isSleeper 4 = .ok (.iload_n 1, 1) := by decide +kernel
theorem dX11_isSleeper_5 : decode cX11_isSleeper 5 = .ok (.aload_n 0, 1) := by decide +kernel
theorem dX11_isSleeper_6 : decode cX11_isSleeper 6 = .ok (.getfield 16, 3) := by decide +kernel
theorem dX11_isSleeper_9 : decode cX11_isSleeper 9 = .ok (.getfield 99, 3) := by decide +kernel
theorem dX11_isSleeper_12 : decode cX11_isSleeper 12 = .ok (.getfield 103, 3) := by decide +kernel
theorem dX11_isSleeper_15 : decode cX11_isSleeper 15 = .ok (.if_icmp .ge 7, 3) := by decide +kernel
theorem dX11_isSleeper_18 : decode cX11_isSleeper 18 = .ok (.iconst 1, 1) := by decide +kernel
theorem dX11_isSleeper_19 : decode cX11_isSleeper 19 = .ok (.goto 4, 3) := by decide +kernel
theorem dX11_isSleeper_22 : decode cX11_isSleeper 22 = .ok (.iconst 0, 1) := by decide +kernel
theorem dX11_isSleeper_23 : decode cX11_isSleeper 23 = .ok (.ireturn, 1) := by decide +kernel
theorem dX11_isHelper_0 : decode cX11_isHelper 0 = .ok (.iload_n 1, 1) := by decide +kernel
theorem dX11_isHelper_1 : decode cX11_isHelper 1 = .ok (.ifCond .lt 21, 3) := by decide +kernel
theorem dX11_isHelper_4 : decode cX11_isHelper 4 = .ok (.iload_n 1, 1) := by decide +kernel
theorem dX11_isHelper_5 : decode cX11_isHelper 5 = .ok (.aload_n 0, 1) := by decide +kernel
theorem dX11_isHelper_6 : decode cX11_isHelper 6 = .ok (.getfield 16, 3) := by decide +kernel
theorem dX11_isHelper_9 : decode cX11_isHelper 9 = .ok (.getfield 151, 3) := by decide +kernel
theorem dX11_isHelper_12 : decode cX11_isHelper 12 = .ok (.getfield 207, 3) := by decide +kernel
theorem dX11_isHelper_15 : decode cX11_isHelper 15 = .ok (.if_icmp .ge 7, 3) := by decide +kernel
theorem dX11_isHelper_18 : decode cX11_isHelper 18 = .ok (.iconst 1, 1) := by decide +kernel
theorem dX11_isHelper_19 : decode cX11_isHelper 19 = .ok (.goto 4, 3) := by decide +kernel
theorem dX11_isHelper_22 : decode cX11_isHelper 22 = .ok (.iconst 0, 1) := by decide +kernel
theorem dX11_isHelper_23 : decode cX11_isHelper 23 = .ok (.ireturn, 1) := by decide +kernel
theorem dX11_isWord_0 : decode cX11_isWord 0 = .ok (.iload_n 1, 1) := by decide +kernel
theorem dX11_isWord_1 : decode cX11_isWord 1 = .ok (.ifCond .lt 21, 3) := by decide +kernel
theorem dX11_isWord_4 : decode cX11_isWord 4 = .ok (.iload_n 1, 1) := by decide +kernel
theorem dX11_isWord_5 : decode cX11_isWord 5 = .ok (.aload_n 0, 1) := by decide +kernel
theorem dX11_isWord_6 : decode cX11_isWord 6 = .ok (.getfield 16, 3) := by decide +kernel
theorem dX11_isWord_9 : decode cX11_isWord 9 = .ok (.getfield 211, 3) := by decide +kernel
theorem dX11_isWord_12 : decode cX11_isWord 12 = .ok (.getfield 266, 3) := by decide +kernel
theorem dX11_isWord_15 : decode cX11_isWord 15 = .ok (.if_icmp .ge 7, 3) := by decide +kernel
theorem dX11_isWord_18 : decode cX11_isWord 18 = .ok (.iconst 1, 1) := by decide +kernel
theorem dX11_isWord_19 : decode cX11_isWord 19 = .ok (.goto 4, 3) := by decide +kernel
theorem dX11_isWord_22 : decode cX11_isWord 22 = .ok (.iconst 0, 1) := by decide +kernel
theorem dX11_isWord_23 : decode cX11_isWord 23 = .ok (.ireturn, 1) := by decide +kernel
theorem dX11_freeHands_0 : decode cX11_freeHands 0 = .ok (.aload_n 0, 1) := by decide +kernel
theorem dX11_freeHands_1 : decode cX11_freeHands 1 = .ok (.getfield 16, 3) := by decide +kernel
theorem dX11_freeHands_4 : decode cX11_freeHands 4 = .ok (.getfield 151, 3) := by decide +kernel
theorem dX11_freeHands_7 : decode cX11_freeHands 7 = .ok (.getfield 158, 3) := by decide +kernel
theorem dX11_freeHands_10 : decode cX11_freeHands 10 = .ok (.iload_n 1, 1) := by decide +kernel
theorem dX11_freeHands_11 : decode cX11_freeHands 11 = .ok (.iaload, 1) := by decide +kernel
theorem dX11_freeHands_12 : decode cX11_freeHands 12 = .ok (.aload_n 0, 1) := by decide +kernel
theorem dX11_freeHands_13 : decode cX11_freeHands 13 = .ok (.getfield 33, 3) := by decide +kernel
theorem dX11_freeHands_16 : decode cX11_freeHands 16 = .ok (.iload_n 1, 1) := by decide +kernel
theorem dX11_freeHands_17 : decode cX11_freeHands 17 = .ok (.invokevirtual 164, 3) := by decide +kernel
theorem dX11_freeHands_20 : decode cX11_freeHands 20 = .ok (.invokestatic 248, 3) := by decide +kernel
theorem dX11_freeHands_23 : decode cX11_freeHands 23 = .ok (.isub, 1) := by decide +kernel
theorem dX11_freeHands_24 : decode cX11_freeHands 24 = .ok (.ireturn, 1) := by decide +kernel
theorem dX11_unsaid_0 : decode cX11_unsaid 0 = .ok (.aload_n 0, 1) := by decide +kernel
theorem dX11_unsaid_1 : decode cX11_unsaid 1 = .ok (.getfield 16, 3) := by decide +kernel
theorem dX11_unsaid_4 : decode cX11_unsaid 4 = .ok (.getfield 211, 3) := by decide +kernel
theorem dX11_unsaid_7 : decode cX11_unsaid 7 = .ok (.getfield 266, 3) := by decide +kernel
theorem dX11_unsaid_10 : decode cX11_unsaid 10 = .ok (.invokestatic 198, 3) := by decide +kernel
theorem dX11_unsaid_13 : decode cX11_unsaid 13 = .ok (.aload_n 0, 1) := by decide +kernel
theorem dX11_unsaid_14 : decode cX11_unsaid 14 = .ok (.getfield 33, 3) := by decide +kernel
theorem dX11_unsaid_17 : decode cX11_unsaid 17 = .ok (.getfield 223, 3) := by decide +kernel
theorem dX11_unsaid_20 : decode cX11_unsaid 20 = .ok (.iconst (-1), 1) := by decide +kernel
theorem dX11_unsaid_21 : decode cX11_unsaid 21 = .ok (.ixor, 1) := by decide +kernel
theorem dX11_unsaid_22 : decode cX11_unsaid 22 = .ok (.iand, 1) := by decide +kernel
theorem dX11_unsaid_23 : decode cX11_unsaid 23 = .ok (.ireturn, 1) := by decide +kernel
theorem dX11_toSay_0 : decode cX11_toSay 0 = .ok (.aload_n 0, 1) := by decide +kernel
theorem dX11_toSay_1 : decode cX11_toSay 1 = .ok (.getfield 33, 3) := by decide +kernel
theorem dX11_toSay_4 : decode cX11_toSay 4 = .ok (.getfield 170, 3) := by decide +kernel
theorem dX11_toSay_7 : decode cX11_toSay 7 = .ok (.ifCond .eq 7, 3) := by decide +kernel
theorem dX11_toSay_10 : decode cX11_toSay 10 = .ok (.iconst 0, 1) := by decide +kernel
theorem dX11_toSay_11 : decode cX11_toSay 11 = .ok (.goto 7, 3) := by decide +kernel
theorem dX11_toSay_14 : decode cX11_toSay 14 = .ok (.aload_n 0, 1) := by decide +kernel
theorem dX11_toSay_15 : decode cX11_toSay 15 = .ok (.invokevirtual 267, 3) := by decide +kernel
theorem dX11_toSay_18 : decode cX11_toSay 18 = .ok (.ireturn, 1) := by decide +kernel
theorem dX11_canSay_0 : decode cX11_canSay 0 = .ok (.aload_n 0, 1) := by decide +kernel
theorem dX11_canSay_1 : decode cX11_canSay 1 = .ok (.invokevirtual 232, 3) := by decide +kernel
theorem dX11_canSay_4 : decode cX11_canSay 4 = .ok (.iload_n 1, 1) := by decide +kernel
theorem dX11_canSay_5 : decode cX11_canSay 5 = .ok (.invokestatic 226, 3) := by decide +kernel
theorem dX11_canSay_8 : decode cX11_canSay 8 = .ok (.iand, 1) := by decide +kernel
theorem dX11_canSay_9 : decode cX11_canSay 9 = .ok (.ifCond .eq 32, 3) := by decide +kernel
theorem dX11_canSay_12 : decode cX11_canSay 12 = .ok (.aload_n 0, 1) := by decide +kernel
theorem dX11_canSay_13 : decode cX11_canSay 13 = .ok (.getfield 16, 3) := by decide +kernel
theorem dX11_canSay_16 : decode cX11_canSay 16 = .ok (.getfield 211, 3) := by decide +kernel
theorem dX11_canSay_19 : decode cX11_canSay 19 = .ok (.getfield 229, 3) := by decide +kernel
theorem dX11_canSay_22 : decode cX11_canSay 22 = .ok (.iload_n 1, 1) := by decide +kernel
theorem dX11_canSay_23 : decode cX11_canSay 23 = .ok (.iaload, 1) := by decide +kernel
theorem dX11_canSay_24 : decode cX11_canSay 24 = .ok (.aload_n 0, 1) := by decide +kernel
theorem dX11_canSay_25 : decode cX11_canSay 25 = .ok (.getfield 33, 3) := by decide +kernel
theorem dX11_canSay_28 : decode cX11_canSay 28 = .ok (.getfield 223, 3) := by decide +kernel
theorem dX11_canSay_31 : decode cX11_canSay 31 = .ok (.iconst (-1), 1) := by decide +kernel
theorem dX11_canSay_32 : decode cX11_canSay 32 = .ok (.ixor, 1) := by decide +kernel
theorem dX11_canSay_33 : decode cX11_canSay 33 = .ok (.iand, 1) := by decide +kernel
theorem dX11_canSay_34 : decode cX11_canSay 34 = .ok (.ifCond .ne 7, 3) := by decide +kernel
theorem dX11_canSay_37 : decode cX11_canSay 37 = .ok (.iconst 1, 1) := by decide +kernel
theorem dX11_canSay_38 : decode cX11_canSay 38 = .ok (.goto 4, 3) := by decide +kernel
theorem dX11_canSay_41 : decode cX11_canSay 41 = .ok (.iconst 0, 1) := by decide +kernel
theorem dX11_canSay_42 : decode cX11_canSay 42 = .ok (.ireturn, 1) := by decide +kernel
theorem dX11_harmfulDays_0 : decode cX11_harmfulDays 0 = .ok (.aload_n 0, 1) := by decide +kernel
theorem dX11_harmfulDays_1 : decode cX11_harmfulDays 1 = .ok (.getfield 33, 3) := by decide +kernel
theorem dX11_harmfulDays_4 : decode cX11_harmfulDays 4 = .ok (.getfield 170, 3) := by decide +kernel
theorem dX11_harmfulDays_7 : decode cX11_harmfulDays 7 = .ok (.ifCond .eq 5, 3) := by decide +kernel
theorem dX11_harmfulDays_10 : decode cX11_harmfulDays 10 = .ok (.iconst 0, 1) := by decide +kernel
theorem dX11_harmfulDays_11 : decode cX11_harmfulDays 11 = .ok (.ireturn, 1) := by decide +kernel
theorem dX11_harmfulDays_12 : decode cX11_harmfulDays 12 = .ok (.iconst 0, 1) := by decide +kernel
theorem dX11_harmfulDays_13 : decode cX11_harmfulDays 13 = .ok (.istore_n 3, 1) := by decide +kernel
theorem dX11_harmfulDays_14 : decode cX11_harmfulDays 14 = .ok (.iload_n 1, 1) := by decide +kernel
theorem dX11_harmfulDays_15 : decode cX11_harmfulDays 15 = .ok (.istore 4, 2) := by decide +kernel
theorem dX11_harmfulDays_17 : decode cX11_harmfulDays 17 = .ok (.iconst 0, 1) := by decide +kernel
theorem dX11_harmfulDays_18 : decode cX11_harmfulDays 18 = .ok (.istore 5, 2) := by decide +kernel
theorem dX11_harmfulDays_20 : decode cX11_harmfulDays 20 = .ok (.iload 5, 2) := by decide +kernel
theorem dX11_harmfulDays_22 : decode cX11_harmfulDays 22 = .ok (.iload_n 2, 1) := by decide +kernel
theorem dX11_harmfulDays_23 : decode cX11_harmfulDays 23 = .ok (.if_icmp .ge 34, 3) := by decide +kernel
theorem dX11_harmfulDays_26 : decode cX11_harmfulDays 26 = .ok (.iload 4, 2) := by decide +kernel
theorem dX11_harmfulDays_28 : decode cX11_harmfulDays 28 = .ok (.invokestatic 323, 3) := by decide +kernel
theorem dX11_harmfulDays_31 : decode cX11_harmfulDays 31 = .ok (.istore 4, 2) := by decide +kernel
theorem dX11_harmfulDays_33 : decode cX11_harmfulDays 33 = .ok (.iload 4, 2) := by decide +kernel
theorem dX11_harmfulDays_35 : decode cX11_harmfulDays 35 = .ok (.bipush 100, 2) := by decide +kernel
theorem dX11_harmfulDays_37 : decode cX11_harmfulDays 37 = .ok (.irem, 1) := by decide +kernel
theorem dX11_harmfulDays_38 : decode cX11_harmfulDays 38 = .ok (.aload_n 0, 1) := by decide +kernel
theorem dX11_harmfulDays_39 : decode cX11_harmfulDays 39 = .ok (.getfield 16, 3) := by decide +kernel
theorem dX11_harmfulDays_42 : decode cX11_harmfulDays 42 = .ok (.getfield 326, 3) := by decide +kernel
theorem dX11_harmfulDays_45 : decode cX11_harmfulDays 45 = .ok (.if_icmp .ge 6, 3) := by decide +kernel
theorem dX11_harmfulDays_48 : decode cX11_harmfulDays 48 = .ok (.iinc 3 1, 3) := by decide +kernel
theorem dX11_harmfulDays_51 : decode cX11_harmfulDays 51 = .ok (.iinc 5 1, 3) := by decide +kernel
theorem dX11_harmfulDays_54 : decode cX11_harmfulDays 54 = .ok (.goto (-34), 3) := by decide +kernel
theorem dX11_harmfulDays_57 : decode cX11_harmfulDays 57 = .ok (.iload_n 3, 1) := by decide +kernel
theorem dX11_harmfulDays_58 : decode cX11_harmfulDays 58 = .ok (.ireturn, 1) := by decide +kernel
theorem dX11_isWinter_0 : decode cX11_isWinter 0 = .ok (.iload_n 0, 1) := by decide +kernel
theorem dX11_isWinter_1 : decode cX11_isWinter 1 = .ok (.ifCond .lt 24, 3) := by decide +kernel
theorem dX11_isWinter_4 : decode cX11_isWinter 4 = .ok (.iload_n 0, 1) := by decide +kernel
theorem dX11_isWinter_5 : decode cX11_isWinter 5 = .ok (.ldc_w 352, 3) := by decide +kernel
theorem dX11_isWinter_8 : decode cX11_isWinter 8 = .ok (.if_icmp .gt 17, 3) := by decide +kernel
theorem dX11_isWinter_11 : decode cX11_isWinter 11 = .ok (.iload_n 1, 1) := by decide +kernel
theorem dX11_isWinter_12 : decode cX11_isWinter 12 = .ok (.ifCond .lt 13, 3) := by decide +kernel
theorem dX11_isWinter_15 : decode cX11_isWinter 15 = .ok (.iload_n 1, 1) := by decide +kernel
theorem dX11_isWinter_16 : decode cX11_isWinter 16 = .ok (.bipush 90, 2) := by decide +kernel
theorem dX11_isWinter_18 : decode cX11_isWinter 18 = .ok (.if_icmp .gt 7, 3) := by decide +kernel
theorem dX11_isWinter_21 : decode cX11_isWinter 21 = .ok (.iconst 1, 1) := by decide +kernel
theorem dX11_isWinter_22 : decode cX11_isWinter 22 = .ok (.goto 4, 3) := by decide +kernel
theorem dX11_isWinter_25 : decode cX11_isWinter 25 = .ok (.iconst 0, 1) := by decide +kernel
theorem dX11_isWinter_26 : decode cX11_isWinter 26 = .ok (.ireturn, 1) := by decide +kernel
theorem dX11_isWorth_0 : decode cX11_isWorth 0 = .ok (.iload_n 0, 1) := by decide +kernel
theorem dX11_isWorth_1 : decode cX11_isWorth 1 = .ok (.ifCond .lt 13, 3) := by decide +kernel
theorem dX11_isWorth_4 : decode cX11_isWorth 4 = .ok (.iload_n 0, 1) := by decide +kernel
theorem dX11_isWorth_5 : decode cX11_isWorth 5 = .ok (.bipush 99, 2) := by decide +kernel
theorem dX11_isWorth_7 : decode cX11_isWorth 7 = .ok (.if_icmp .gt 7, 3) := by decide +kernel
theorem dX11_isWorth_10 : decode cX11_isWorth 10 = .ok (.iconst 1, 1) := by decide +kernel
theorem dX11_isWorth_11 : decode cX11_isWorth 11 = .ok (.goto 4, 3) := by decide +kernel
theorem dX11_isWorth_14 : decode cX11_isWorth 14 = .ok (.iconst 0, 1) := by decide +kernel
theorem dX11_isWorth_15 : decode cX11_isWorth 15 = .ok (.ireturn, 1) := by decide +kernel
theorem dX11_gain_0 : decode cX11_gain 0 = .ok (.iload_n 1, 1) := by decide +kernel
theorem dX11_gain_1 : decode cX11_gain 1 = .ok (.iload_n 2, 1) := by decide +kernel
theorem dX11_gain_2 : decode cX11_gain 2 = .ok (.iadd, 1) := by decide +kernel
theorem dX11_gain_3 : decode cX11_gain 3 = .ok (.istore_n 3, 1) := by decide +kernel
theorem dX11_gain_4 : decode cX11_gain 4 = .ok (.iload_n 3, 1) := by decide +kernel
theorem dX11_gain_5 : decode cX11_gain 5 = .ok (.ifCond .le 11, 3) := by decide +kernel
theorem dX11_gain_8 : decode cX11_gain 8 = .ok (.iload_n 0, 1) := by decide +kernel
theorem dX11_gain_9 : decode cX11_gain 9 = .ok (.iload_n 1, 1) := by decide +kernel
theorem dX11_gain_10 : decode cX11_gain 10 = .ok (.imul, 1) := by decide +kernel
theorem dX11_gain_11 : decode cX11_gain 11 = .ok (.iload_n 3, 1) := by decide +kernel
theorem dX11_gain_12 : decode cX11_gain 12 = .ok (.idiv, 1) := by decide +kernel
theorem dX11_gain_13 : decode cX11_gain 13 = .ok (.goto 4, 3) := by decide +kernel
theorem dX11_gain_16 : decode cX11_gain 16 = .ok (.iconst 0, 1) := by decide +kernel
theorem dX11_gain_17 : decode cX11_gain 17 = .ok (.istore 4, 2) := by decide +kernel
theorem dX11_gain_19 : decode cX11_gain 19 = .ok (.iload 4, 2) := by decide +kernel
theorem dX11_gain_21 : decode cX11_gain 21 = .ok (.iconst 3, 1) := by decide +kernel
theorem dX11_gain_22 : decode cX11_gain 22 = .ok (.iload_n 1, 1) := by decide +kernel
theorem dX11_gain_23 : decode cX11_gain 23 = .ok (.imul, 1) := by decide +kernel
theorem dX11_gain_24 : decode cX11_gain 24 = .ok (.isub, 1) := by decide +kernel
theorem dX11_gain_25 : decode cX11_gain 25 = .ok (.iload_n 1, 1) := by decide +kernel
theorem dX11_gain_26 : decode cX11_gain 26 = .ok (.iload_n 2, 1) := by decide +kernel
theorem dX11_gain_27 : decode cX11_gain 27 = .ok (.if_icmp .le 7, 3) := by decide +kernel
theorem dX11_gain_30 : decode cX11_gain 30 = .ok (.iconst 2, 1) := by decide +kernel
theorem dX11_gain_31 : decode cX11_gain 31 = .ok (.goto 4, 3) := by decide +kernel
theorem dX11_gain_34 : decode cX11_gain 34 = .ok (.iconst 0, 1) := by decide +kernel
theorem dX11_gain_35 : decode cX11_gain 35 = .ok (.iadd, 1) := by decide +kernel
theorem dX11_gain_36 : decode cX11_gain 36 = .ok (.ireturn, 1) := by decide +kernel
theorem dX11_isRest_0 : decode cX11_isRest 0 = .ok (.iload_n 0, 1) := by decide +kernel
theorem dX11_isRest_1 : decode cX11_isRest 1 = .ok (.iload_n 1, 1) := by decide +kernel
theorem dX11_isRest_2 : decode cX11_isRest 2 = .ok (.iload_n 2, 1) := by decide +kernel
theorem dX11_isRest_3 : decode cX11_isRest 3 = .ok (.invokestatic 308, 3) := by decide +kernel
theorem dX11_isRest_6 : decode cX11_isRest 6 = .ok (.istore_n 3, 1) := by decide +kernel
theorem dX11_isRest_7 : decode cX11_isRest 7 = .ok (.iload_n 0, 1) := by decide +kernel
theorem dX11_isRest_8 : decode cX11_isRest 8 = .ok (.iload_n 2, 1) := by decide +kernel
theorem dX11_isRest_9 : decode cX11_isRest 9 = .ok (.iload_n 1, 1) := by decide +kernel
theorem dX11_isRest_10 : decode cX11_isRest 10 = .ok (.invokestatic 308, 3) := by decide +kernel
theorem dX11_isRest_13 : decode cX11_isRest 13 = .ok (.istore 4, 2) := by decide +kernel
theorem dX11_isRest_15 : decode cX11_isRest 15 = .ok (.iconst 0, 1) := by decide +kernel
theorem dX11_isRest_16 : decode cX11_isRest 16 = .ok (.istore 5, 2) := by decide +kernel
theorem dX11_isRest_18 : decode cX11_isRest 18 = .ok (.iload 5, 2) := by decide +kernel
theorem dX11_isRest_20 : decode cX11_isRest 20 = .ok (.bipush 6, 2) := by decide +kernel
theorem dX11_isRest_22 : decode cX11_isRest 22 = .ok (.if_icmp .gt 34, 3) := by decide +kernel
theorem dX11_isRest_25 : decode cX11_isRest 25 = .ok (.iload_n 0, 1) := by decide +kernel
theorem dX11_isRest_26 : decode cX11_isRest 26 = .ok (.iload 5, 2) := by decide +kernel
theorem dX11_isRest_28 : decode cX11_isRest 28 = .ok (.iload_n 2, 1) := by decide +kernel
theorem dX11_isRest_29 : decode cX11_isRest 29 = .ok (.invokestatic 308, 3) := by decide +kernel
theorem dX11_isRest_32 : decode cX11_isRest 32 = .ok (.iload_n 3, 1) := by decide +kernel
theorem dX11_isRest_33 : decode cX11_isRest 33 = .ok (.if_icmp .gt 15, 3) := by decide +kernel
theorem dX11_isRest_36 : decode cX11_isRest 36 = .ok (.iload_n 0, 1) := by decide +kernel
theorem dX11_isRest_37 : decode cX11_isRest 37 = .ok (.iload 5, 2) := by decide +kernel
theorem dX11_isRest_39 : decode cX11_isRest 39 = .ok (.iload_n 1, 1) := by decide +kernel
theorem dX11_isRest_40 : decode cX11_isRest 40 = .ok (.invokestatic 308, 3) := by decide +kernel
theorem dX11_isRest_43 : decode cX11_isRest 43 = .ok (.iload 4, 2) := by decide +kernel
theorem dX11_isRest_45 : decode cX11_isRest 45 = .ok (.if_icmp .le 5, 3) := by decide +kernel
theorem dX11_isRest_48 : decode cX11_isRest 48 = .ok (.iconst 0, 1) := by decide +kernel
theorem dX11_isRest_49 : decode cX11_isRest 49 = .ok (.ireturn, 1) := by decide +kernel
theorem dX11_isRest_50 : decode cX11_isRest 50 = .ok (.iinc 5 1, 3) := by decide +kernel
theorem dX11_isRest_53 : decode cX11_isRest 53 = .ok (.goto (-35), 3) := by decide +kernel
theorem dX11_isRest_56 : decode cX11_isRest 56 = .ok (.iconst 1, 1) := by decide +kernel
theorem dX11_isRest_57 : decode cX11_isRest 57 = .ok (.ireturn, 1) := by decide +kernel
theorem dX11_drawAfter_0 : decode cX11_drawAfter 0 = .ok (.bipush 75, 2) := by decide +kernel
theorem dX11_drawAfter_2 : decode cX11_drawAfter 2 = .ok (.iload_n 0, 1) := by decide +kernel
theorem dX11_drawAfter_3 : decode cX11_drawAfter 3 = .ok (.imul, 1) := by decide +kernel
theorem dX11_drawAfter_4 : decode cX11_drawAfter 4 = .ok (.bipush 74, 2) := by decide +kernel
theorem dX11_drawAfter_6 : decode cX11_drawAfter 6 = .ok (.iadd, 1) := by decide +kernel
theorem dX11_drawAfter_7 : decode cX11_drawAfter 7 = .ok (.ldc_w 387, 3) := by decide +kernel
theorem dX11_drawAfter_10 : decode cX11_drawAfter 10 = .ok (.irem, 1) := by decide +kernel
theorem dX11_drawAfter_11 : decode cX11_drawAfter 11 = .ok (.ireturn, 1) := by decide +kernel
theorem dX11_commonDivisor_0 : decode cX11_commonDivisor 0 = .ok (.iload_n 0, 1) := by decide +kernel
theorem dX11_commonDivisor_1 : decode cX11_commonDivisor 1 = .ok (.istore_n 2, 1) := by decide +kernel
theorem dX11_commonDivisor_2 : decode cX11_commonDivisor 2 = .ok (.iload_n 1, 1) := by decide +kernel
theorem dX11_commonDivisor_3 : decode cX11_commonDivisor 3 = .ok (.istore_n 3, 1) := by decide +kernel
theorem dX11_commonDivisor_4 : decode cX11_commonDivisor 4 = .ok (.iconst 0, 1) := by decide +kernel
theorem dX11_commonDivisor_5 : decode cX11_commonDivisor 5 = .ok (.istore 4, 2) := by decide +kernel
theorem dX11_commonDivisor_7 : decode cX11_commonDivisor 7 = .ok (.iload 4, 2) := by decide +kernel
theorem dX11_commonDivisor_9 : decode cX11_commonDivisor 9 = .ok (.bipush 64, 2) := by decide +kernel
theorem dX11_commonDivisor_11 : decode cX11_commonDivisor 11 = .ok (.if_icmp .ge 23, 3) := by decide +kernel
theorem dX11_commonDivisor_14 : decode cX11_commonDivisor 14 = .ok (.iload_n 3, 1) := by decide +kernel
theorem dX11_commonDivisor_15 : decode cX11_commonDivisor 15 = .ok (.ifCond .le 19, 3) := by decide +kernel
theorem dX11_commonDivisor_18 : decode cX11_commonDivisor 18 = .ok (.iload_n 2, 1) := by decide +kernel
theorem dX11_commonDivisor_19 : decode cX11_commonDivisor 19 = .ok (.iload_n 3, 1) := by decide +kernel
theorem dX11_commonDivisor_20 : decode cX11_commonDivisor 20 = .ok (.irem, 1) := by decide +kernel
theorem dX11_commonDivisor_21 : decode cX11_commonDivisor 21 = .ok (.istore 5, 2) := by decide +kernel
theorem dX11_commonDivisor_23 : decode cX11_commonDivisor 23 = .ok (.iload_n 3, 1) := by decide +kernel
theorem dX11_commonDivisor_24 : decode cX11_commonDivisor 24 = .ok (.istore_n 2, 1) := by decide +kernel
theorem dX11_commonDivisor_25 : decode cX11_commonDivisor 25 = .ok (.iload 5, 2) := by decide +kernel
theorem dX11_commonDivisor_27 : decode cX11_commonDivisor 27 = .ok (.istore_n 3, 1) := by decide +kernel
theorem dX11_commonDivisor_28 : decode cX11_commonDivisor 28 = .ok (.iinc 4 1, 3) := by decide +kernel
theorem dX11_commonDivisor_31 : decode cX11_commonDivisor 31 = .ok (.goto (-24), 3) := by decide +kernel
theorem dX11_commonDivisor_34 : decode cX11_commonDivisor 34 = .ok (.iload_n 2, 1) := by decide +kernel
theorem dX11_commonDivisor_35 : decode cX11_commonDivisor 35 = .ok (.ireturn, 1) := by decide +kernel
theorem dX11_bit_0 : decode cX11_bit 0 = .ok (.iconst 1, 1) := by decide +kernel
theorem dX11_bit_1 : decode cX11_bit 1 = .ok (.iload_n 0, 1) := by decide +kernel
theorem dX11_bit_2 : decode cX11_bit 2 = .ok (.ishl, 1) := by decide +kernel
theorem dX11_bit_3 : decode cX11_bit 3 = .ok (.ireturn, 1) := by decide +kernel
theorem dX11_fullBits_0 : decode cX11_fullBits 0 = .ok (.iconst 1, 1) := by decide +kernel
theorem dX11_fullBits_1 : decode cX11_fullBits 1 = .ok (.iload_n 0, 1) := by decide +kernel
theorem dX11_fullBits_2 : decode cX11_fullBits 2 = .ok (.ishl, 1) := by decide +kernel
theorem dX11_fullBits_3 : decode cX11_fullBits 3 = .ok (.iconst 1, 1) := by decide +kernel
theorem dX11_fullBits_4 : decode cX11_fullBits 4 = .ok (.isub, 1) := by decide +kernel
theorem dX11_fullBits_5 : decode cX11_fullBits 5 = .ok (.ireturn, 1) := by decide +kernel
theorem dX11_handsAt_0 : decode cX11_handsAt 0 = .ok (.iload_n 1, 1) := by decide +kernel
theorem dX11_handsAt_1 : decode cX11_handsAt 1 = .ok (.iconst 3, 1) := by decide +kernel
theorem dX11_handsAt_2 : decode cX11_handsAt 2 = .ok (.iload_n 0, 1) := by decide +kernel
theorem dX11_handsAt_3 : decode cX11_handsAt 3 = .ok (.imul, 1) := by decide +kernel
theorem dX11_handsAt_4 : decode cX11_handsAt 4 = .ok (.ishl, 1) := by decide +kernel
theorem dX11_handsAt_5 : decode cX11_handsAt 5 = .ok (.ireturn, 1) := by decide +kernel
