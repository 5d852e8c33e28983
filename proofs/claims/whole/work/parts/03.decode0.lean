theorem dX0_init_0 : decode cX0_init 0 = .ok (.aload_n 0, 1) := by decide +kernel
theorem dX0_init_1 : decode cX0_init 1 = .ok (.invokespecial 3, 3) := by decide +kernel
theorem dX0_init_4 : decode cX0_init 4 = .ok (.aload_n 0, 1) := by decide +kernel
theorem dX0_init_5 : decode cX0_init 5 = .ok (.bipush 12, 2) := by decide +kernel
theorem dX0_init_7 : decode cX0_init 7 = .ok (.newarray .int, 2) := by decide +kernel
theorem dX0_init_9 : decode cX0_init 9 = .ok (.putfield 9, 3) := by decide +kernel
theorem dX0_init_12 : decode cX0_init 12 = .ok (.aload_n 0, 1) := by decide +kernel
theorem dX0_init_13 : decode cX0_init 13 = .ok (.bipush 64, 2) := by decide +kernel
theorem dX0_init_15 : decode cX0_init 15 = .ok (.newarray .int, 2) := by decide +kernel
theorem dX0_init_17 : decode cX0_init 17 = .ok (.putfield 15, 3) := by decide +kernel
theorem dX0_init_20 : decode cX0_init 20 = .ok (.return_, 1) := by decide +kernel
theorem dX0_divide_0 : decode cX0_divide 0 = .ok (.aload_n 1, 1) := by decide +kernel
theorem dX0_divide_1 : decode cX0_divide 1 = .ok (.getfield 18, 3) := by decide +kernel
theorem dX0_divide_4 : decode cX0_divide 4 = .ok (.aload_n 0, 1) := by decide +kernel
theorem dX0_divide_5 : decode cX0_divide 5 = .ok (.getfield 9, 3) := by decide +kernel
theorem dX0_divide_8 : decode cX0_divide 8 = .ok (.arraylength, 1) := by decide +kernel
theorem dX0_divide_9 : decode cX0_divide 9 = .ok (.invokestatic 24, 3) := by decide +kernel
theorem dX0_divide_12 : decode cX0_divide 12 = .ok (.istore_n 2, 1) := by decide +kernel
theorem dX0_divide_13 : decode cX0_divide 13 = .ok (.aload_n 0, 1) := by decide +kernel
theorem dX0_divide_14 : decode cX0_divide 14 = .ok (.aload_n 1, 1) := by decide +kernel
theorem dX0_divide_15 : decode cX0_divide 15 = .ok (.iload_n 2, 1) := by decide +kernel
theorem dX0_divide_16 : decode cX0_divide 16 = .ok (.invokevirtual 30, 3) := by decide +kernel
theorem dX0_divide_19 : decode cX0_divide 19 = .ok (.iconst 0, 1) := by decide +kernel
theorem dX0_divide_20 : decode cX0_divide 20 = .ok (.istore_n 3, 1) := by decide +kernel
theorem dX0_divide_21 : decode cX0_divide 21 = .ok (.aload_n 0, 1) := by decide +kernel
theorem dX0_divide_22 : decode cX0_divide 22 = .ok (.iconst (-1), 1) := by decide +kernel
theorem dX0_divide_23 : decode cX0_divide 23 = .ok (.putfield 34, 3) := by decide +kernel
theorem dX0_divide_26 : decode cX0_divide 26 = .ok (.iconst 1, 1) := by decide +kernel
theorem dX0_divide_27 : decode cX0_divide 27 = .ok (.istore 4, 2) := by decide +kernel
theorem dX0_divide_29 : decode cX0_divide 29 = .ok (.iload 4, 2) := by decide +kernel
theorem dX0_divide_31 : decode cX0_divide 31 = .ok (.iload_n 2, 1) := by decide +kernel
theorem dX0_divide_32 : decode cX0_divide 32 = .ok (.if_icmp .ge 75, 3) := by decide +kernel
theorem dX0_divide_35 : decode cX0_divide 35 = .ok (.aload_n 0, 1) := by decide +kernel
theorem dX0_divide_36 : decode cX0_divide 36 = .ok (.getfield 9, 3) := by decide +kernel
theorem dX0_divide_39 : decode cX0_divide 39 = .ok (.iload 4, 2) := by decide +kernel
theorem dX0_divide_41 : decode cX0_divide 41 = .ok (.iconst 1, 1) := by decide +kernel
theorem dX0_divide_42 : decode cX0_divide 42 = .ok (.isub, 1) := by decide +kernel
theorem dX0_divide_43 : decode cX0_divide 43 = .ok (.iaload, 1) := by decide +kernel
theorem dX0_divide_44 : decode cX0_divide 44 = .ok (.aload_n 0, 1) := by decide +kernel
theorem dX0_divide_45 : decode cX0_divide 45 = .ok (.getfield 9, 3) := by decide +kernel
theorem dX0_divide_48 : decode cX0_divide 48 = .ok (.iload 4, 2) := by decide +kernel
theorem dX0_divide_50 : decode cX0_divide 50 = .ok (.iaload, 1) := by decide +kernel
theorem dX0_divide_51 : decode cX0_divide 51 = .ok (.if_icmp .eq 50, 3) := by decide +kernel
theorem dX0_divide_54 : decode cX0_divide 54 = .ok (.aload_n 0, 1) := by decide +kernel
theorem dX0_divide_55 : decode cX0_divide 55 = .ok (.iconst 0, 1) := by decide +kernel
theorem dX0_divide_56 : decode cX0_divide 56 = .ok (.iload 4, 2) := by decide +kernel
theorem dX0_divide_58 : decode cX0_divide 58 = .ok (.invokevirtual 37, 3) := by decide +kernel
theorem dX0_divide_61 : decode cX0_divide 61 = .ok (.aload_n 0, 1) := by decide +kernel
theorem dX0_divide_62 : decode cX0_divide 62 = .ok (.iload 4, 2) := by decide +kernel
theorem dX0_divide_64 : decode cX0_divide 64 = .ok (.iload_n 2, 1) := by decide +kernel
theorem dX0_divide_65 : decode cX0_divide 65 = .ok (.invokevirtual 37, 3) := by decide +kernel
theorem dX0_divide_68 : decode cX0_divide 68 = .ok (.iadd, 1) := by decide +kernel
theorem dX0_divide_69 : decode cX0_divide 69 = .ok (.istore 5, 2) := by decide +kernel
theorem dX0_divide_71 : decode cX0_divide 71 = .ok (.aload_n 0, 1) := by decide +kernel
theorem dX0_divide_72 : decode cX0_divide 72 = .ok (.getfield 34, 3) := by decide +kernel
theorem dX0_divide_75 : decode cX0_divide 75 = .ok (.iconst (-1), 1) := by decide +kernel
theorem dX0_divide_76 : decode cX0_divide 76 = .ok (.if_icmp .eq 9, 3) := by decide +kernel
theorem dX0_divide_79 : decode cX0_divide 79 = .ok (.iload 5, 2) := by decide +kernel
theorem dX0_divide_81 : decode cX0_divide 81 = .ok (.iload_n 3, 1) := by decide +kernel
theorem dX0_divide_82 : decode cX0_divide 82 = .ok (.if_icmp .ge 19, 3) := by decide +kernel
theorem dX0_divide_85 : decode cX0_divide 85 = .ok (.iload 5, 2) := by decide +kernel
theorem dX0_divide_87 : decode cX0_divide 87 = .ok (.istore_n 3, 1) := by decide +kernel
theorem dX0_divide_88 : decode cX0_divide 88 = .ok (.aload_n 0, 1) := by decide +kernel
theorem dX0_divide_89 : decode cX0_divide 89 = .ok (.aload_n 0, 1) := by decide +kernel
theorem dX0_divide_90 : decode cX0_divide 90 = .ok (.getfield 9, 3) := by decide +kernel
theorem dX0_divide_93 : decode cX0_divide 93 = .ok (.iload 4, 2) := by decide +kernel
theorem dX0_divide_95 : decode cX0_divide 95 = .ok (.iconst 1, 1) := by decide +kernel
theorem dX0_divide_96 : decode cX0_divide 96 = .ok (.isub, 1) := by decide +kernel
theorem dX0_divide_97 : decode cX0_divide 97 = .ok (.iaload, 1) := by decide +kernel
theorem dX0_divide_98 : decode cX0_divide 98 = .ok (.putfield 34, 3) := by decide +kernel
theorem dX0_divide_101 : decode cX0_divide 101 = .ok (.iinc 4 1, 3) := by decide +kernel
theorem dX0_divide_104 : decode cX0_divide 104 = .ok (.goto (-75), 3) := by decide +kernel
theorem dX0_divide_107 : decode cX0_divide 107 = .ok (.aload_n 0, 1) := by decide +kernel
theorem dX0_divide_108 : decode cX0_divide 108 = .ok (.aload_n 0, 1) := by decide +kernel
theorem dX0_divide_109 : decode cX0_divide 109 = .ok (.getfield 34, 3) := by decide +kernel
theorem dX0_divide_112 : decode cX0_divide 112 = .ok (.iconst (-1), 1) := by decide +kernel
theorem dX0_divide_113 : decode cX0_divide 113 = .ok (.if_icmp .eq 19, 3) := by decide +kernel
theorem dX0_divide_116 : decode cX0_divide 116 = .ok (.iconst 2, 1) := by decide +kernel
theorem dX0_divide_117 : decode cX0_divide 117 = .ok (.iload_n 3, 1) := by decide +kernel
theorem dX0_divide_118 : decode cX0_divide 118 = .ok (.imul, 1) := by decide +kernel
theorem dX0_divide_119 : decode cX0_divide 119 = .ok (.aload_n 0, 1) := by decide +kernel
theorem dX0_divide_120 : decode cX0_divide 120 = .ok (.iconst 0, 1) := by decide +kernel
theorem dX0_divide_121 : decode cX0_divide 121 = .ok (.iload_n 2, 1) := by decide +kernel
theorem dX0_divide_122 : decode cX0_divide 122 = .ok (.invokevirtual 37, 3) := by decide +kernel
theorem dX0_divide_125 : decode cX0_divide 125 = .ok (.if_icmp .ge 7, 3) := by decide +kernel
theorem dX0_divide_128 : decode cX0_divide 128 = .ok (.iconst 1, 1) := by decide +kernel
theorem dX0_divide_129 : decode cX0_divide 129 = .ok (.goto 4, 3) := by decide +kernel
theorem dX0_divide_132 : decode cX0_divide 132 = .ok (.iconst 0, 1) := by decide +kernel
theorem dX0_divide_133 : decode cX0_divide 133 = .ok (.putfield 40, 3) := by decide +kernel
theorem dX0_divide_136 : decode cX0_divide 136 = .ok (.return_, 1) := by decide +kernel
theorem dX0_sort_0 : decode cX0_sort 0 = .ok (.iconst 0, 1) := by decide +kernel
theorem dX0_sort_1 : decode cX0_sort 1 = .ok (.istore_n 3, 1) := by decide +kernel
theorem dX0_sort_2 : decode cX0_sort 2 = .ok (.iload_n 3, 1) := by decide +kernel
theorem dX0_sort_3 : decode cX0_sort 3 = .ok (.iload_n 2, 1) := by decide +kernel
theorem dX0_sort_4 : decode cX0_sort 4 = .ok (.if_icmp .ge 70, 3) := by decide +kernel
theorem dX0_sort_7 : decode cX0_sort 7 = .ok (.aload_n 1, 1) := by decide +kernel
theorem dX0_sort_8 : decode cX0_sort 8 = .ok (.iload_n 3, 1) := by decide +kernel
theorem dX0_sort_9 : decode cX0_sort 9 = .ok (.iconst 0, 1) := by decide +kernel
theorem dX0_sort_10 : decode cX0_sort 10 = .ok (.invokevirtual 44, 3) := by decide +kernel
theorem dX0_sort_13 : decode cX0_sort 13 = .ok (.istore 4, 2) := by decide +kernel
theorem dX0_sort_15 : decode cX0_sort 15 = .ok (.iload_n 3, 1) := by decide +kernel
theorem dX0_sort_16 : decode cX0_sort 16 = .ok (.istore 5, 2) := by decide +kernel
theorem dX0_sort_18 : decode cX0_sort 18 = .ok (.iload 5, 2) := by decide +kernel
theorem dX0_sort_20 : decode cX0_sort 20 = .ok (.ifCond .le 39, 3) := by decide +kernel
theorem dX0_sort_23 : decode cX0_sort 23 = .ok (.aload_n 0, 1) := by decide +kernel
theorem dX0_sort_24 : decode cX0_sort 24 = .ok (.getfield 9, 3) := by decide +kernel
theorem dX0_sort_27 : decode cX0_sort 27 = .ok (.iload 5, 2) := by decide +kernel
theorem dX0_sort_29 : decode cX0_sort 29 = .ok (.iconst 1, 1) := by decide +kernel
theorem dX0_sort_30 : decode cX0_sort 30 = .ok (.isub, 1) := by decide +kernel
theorem dX0_sort_31 : decode cX0_sort 31 = .ok (.iaload, 1) := by decide +kernel
theorem dX0_sort_32 : decode cX0_sort 32 = .ok (.iload 4, 2) := by decide +kernel
theorem dX0_sort_34 : decode cX0_sort 34 = .ok (.if_icmp .le 25, 3) := by decide +kernel
theorem dX0_sort_37 : decode cX0_sort 37 = .ok (.aload_n 0, 1) := by decide +kernel
theorem dX0_sort_38 : decode cX0_sort 38 = .ok (.getfield 9, 3) := by decide +kernel
theorem dX0_sort_41 : decode cX0_sort 41 = .ok (.iload 5, 2) := by decide +kernel
theorem dX0_sort_43 : decode cX0_sort 43 = .ok (.aload_n 0, 1) := by decide +kernel
theorem dX0_sort_44 : decode cX0_sort 44 = .ok (.getfield 9, 3) := by decide +kernel
theorem dX0_sort_47 : decode cX0_sort 47 = .ok (.iload 5, 2) := by decide +kernel
theorem dX0_sort_49 : decode cX0_sort 49 = .ok (.iconst 1, 1) := by decide +kernel
theorem dX0_sort_50 : decode cX0_sort 50 = .ok (.isub, 1) := by decide +kernel
theorem dX0_sort_51 : decode cX0_sort 51 = .ok (.iaload, 1) := by decide +kernel
theorem dX0_sort_52 : decode cX0_sort 52 = .ok (.iastore, 1) := by decide +kernel
theorem dX0_sort_53 : decode cX0_sort 53 = .ok (.iinc 5 (-1), 3) := by decide +kernel
theorem dX0_sort_56 : decode cX0_sort 56 = .ok (.goto (-38), 3) := by decide +kernel
theorem dX0_sort_59 : decode cX0_sort 59 = .ok (.aload_n 0, 1) := by decide +kernel
theorem dX0_sort_60 : decode cX0_sort 60 = .ok (.getfield 9, 3) := by decide +kernel
theorem dX0_sort_63 : decode cX0_sort 63 = .ok (.iload 5, 2) := by decide +kernel
theorem dX0_sort_65 : decode cX0_sort 65 = .ok (.iload 4, 2) := by decide +kernel
theorem dX0_sort_67 : decode cX0_sort 67 = .ok (.iastore, 1) := by decide +kernel
theorem dX0_sort_68 : decode cX0_sort 68 = .ok (.iinc 3 1, 3) := by decide +kernel
theorem dX0_sort_71 : decode cX0_sort 71 = .ok (.goto (-69), 3) := by decide +kernel
theorem dX0_sort_74 : decode cX0_sort 74 = .ok (.return_, 1) := by decide +kernel
theorem dX0_spread_0 : decode cX0_spread 0 = .ok (.iload_n 1, 1) := by decide +kernel
theorem dX0_spread_1 : decode cX0_spread 1 = .ok (.iload_n 2, 1) := by decide +kernel
theorem dX0_spread_2 : decode cX0_spread 2 = .ok (.iload_n 1, 1) := by decide +kernel
theorem dX0_spread_3 : decode cX0_spread 3 = .ok (.isub, 1) := by decide +kernel
theorem dX0_spread_4 : decode cX0_spread 4 = .ok (.iconst 1, 1) := by decide +kernel
theorem dX0_spread_5 : decode cX0_spread 5 = .ok (.isub, 1) := by decide +kernel
theorem dX0_spread_6 : decode cX0_spread 6 = .ok (.iconst 2, 1) := by decide +kernel
theorem dX0_spread_7 : decode cX0_spread 7 = .ok (.idiv, 1) := by decide +kernel
theorem dX0_spread_8 : decode cX0_spread 8 = .ok (.iadd, 1) := by decide +kernel
theorem dX0_spread_9 : decode cX0_spread 9 = .ok (.istore_n 3, 1) := by decide +kernel
theorem dX0_spread_10 : decode cX0_spread 10 = .ok (.iconst 0, 1) := by decide +kernel
theorem dX0_spread_11 : decode cX0_spread 11 = .ok (.istore 4, 2) := by decide +kernel
theorem dX0_spread_13 : decode cX0_spread 13 = .ok (.iload_n 1, 1) := by decide +kernel
theorem dX0_spread_14 : decode cX0_spread 14 = .ok (.istore 5, 2) := by decide +kernel
theorem dX0_spread_16 : decode cX0_spread 16 = .ok (.iload 5, 2) := by decide +kernel
theorem dX0_spread_18 : decode cX0_spread 18 = .ok (.iload_n 2, 1) := by decide +kernel
theorem dX0_spread_19 : decode cX0_spread 19 = .ok (.if_icmp .ge 36, 3) := by decide +kernel
theorem dX0_spread_22 : decode cX0_spread 22 = .ok (.iload_n 3, 1) := by decide +kernel
theorem dX0_spread_23 : decode cX0_spread 23 = .ok (.iload_n 2, 1) := by decide +kernel
theorem dX0_spread_24 : decode cX0_spread 24 = .ok (.if_icmp .ge 31, 3) := by decide +kernel
theorem dX0_spread_27 : decode cX0_spread 27 = .ok (.iload 4, 2) := by decide +kernel
theorem dX0_spread_29 : decode cX0_spread 29 = .ok (.aload_n 0, 1) := by decide +kernel
theorem dX0_spread_30 : decode cX0_spread 30 = .ok (.getfield 9, 3) := by decide +kernel
theorem dX0_spread_33 : decode cX0_spread 33 = .ok (.iload 5, 2) := by decide +kernel
theorem dX0_spread_35 : decode cX0_spread 35 = .ok (.iaload, 1) := by decide +kernel
theorem dX0_spread_36 : decode cX0_spread 36 = .ok (.aload_n 0, 1) := by decide +kernel
theorem dX0_spread_37 : decode cX0_spread 37 = .ok (.getfield 9, 3) := by decide +kernel
theorem dX0_spread_40 : decode cX0_spread 40 = .ok (.iload_n 3, 1) := by decide +kernel
theorem dX0_spread_41 : decode cX0_spread 41 = .ok (.iaload, 1) := by decide +kernel
theorem dX0_spread_42 : decode cX0_spread 42 = .ok (.isub, 1) := by decide +kernel
theorem dX0_spread_43 : decode cX0_spread 43 = .ok (.invokestatic 47, 3) := by decide +kernel
theorem dX0_spread_46 : decode cX0_spread 46 = .ok (.iadd, 1) := by decide +kernel
theorem dX0_spread_47 : decode cX0_spread 47 = .ok (.istore 4, 2) := by decide +kernel
theorem dX0_spread_49 : decode cX0_spread 49 = .ok (.iinc 5 1, 3) := by decide +kernel
theorem dX0_spread_52 : decode cX0_spread 52 = .ok (.goto (-36), 3) := by decide +kernel
theorem dX0_spread_55 : decode cX0_spread 55 = .ok (.iload 4, 2) := by decide +kernel
theorem dX0_spread_57 : decode cX0_spread 57 = .ok (.ireturn, 1) := by decide +kernel
theorem dX0_matches_0 : decode cX0_matches 0 = .ok (.iconst 0, 1) := by decide +kernel
theorem dX0_matches_1 : decode cX0_matches 1 = .ok (.istore 4, 2) := by decide +kernel
theorem dX0_matches_3 : decode cX0_matches 3 = .ok (.iconst 0, 1) := by decide +kernel
theorem dX0_matches_4 : decode cX0_matches 4 = .ok (.istore 5, 2) := by decide +kernel
theorem dX0_matches_6 : decode cX0_matches 6 = .ok (.iload 5, 2) := by decide +kernel
theorem dX0_matches_8 : decode cX0_matches 8 = .ok (.bipush 64, 2) := by decide +kernel
theorem dX0_matches_10 : decode cX0_matches 10 = .ok (.if_icmp .ge 17, 3) := by decide +kernel
theorem dX0_matches_13 : decode cX0_matches 13 = .ok (.aload_n 0, 1) := by decide +kernel
theorem dX0_matches_14 : decode cX0_matches 14 = .ok (.getfield 15, 3) := by decide +kernel
theorem dX0_matches_17 : decode cX0_matches 17 = .ok (.iload 5, 2) := by decide +kernel
theorem dX0_matches_19 : decode cX0_matches 19 = .ok (.iconst 0, 1) := by decide +kernel
theorem dX0_matches_20 : decode cX0_matches 20 = .ok (.iastore, 1) := by decide +kernel
theorem dX0_matches_21 : decode cX0_matches 21 = .ok (.iinc 5 1, 3) := by decide +kernel
theorem dX0_matches_24 : decode cX0_matches 24 = .ok (.goto (-18), 3) := by decide +kernel
theorem dX0_matches_27 : decode cX0_matches 27 = .ok (.aload_n 0, 1) := by decide +kernel
theorem dX0_matches_28 : decode cX0_matches 28 = .ok (.getfield 15, 3) := by decide +kernel
theorem dX0_matches_31 : decode cX0_matches 31 = .ok (.iconst 0, 1) := by decide +kernel
theorem dX0_matches_32 : decode cX0_matches 32 = .ok (.iconst 1, 1) := by decide +kernel
theorem dX0_matches_33 : decode cX0_matches 33 = .ok (.iastore, 1) := by decide +kernel
theorem dX0_matches_34 : decode cX0_matches 34 = .ok (.iconst 0, 1) := by decide +kernel
theorem dX0_matches_35 : decode cX0_matches 35 = .ok (.istore 5, 2) := by decide +kernel
theorem dX0_matches_37 : decode cX0_matches 37 = .ok (.iload 5, 2) := by decide +kernel
theorem dX0_matches_39 : decode cX0_matches 39 = .ok (.bipush 64, 2) := by decide +kernel
theorem dX0_matches_41 : decode cX0_matches 41 = .ok (.if_icmp .ge 73, 3) := by decide +kernel
theorem dX0_matches_44 : decode cX0_matches 44 = .ok (.iload 5, 2) := by decide +kernel
theorem dX0_matches_46 : decode cX0_matches 46 = .ok (.invokestatic 51, 3) := by decide +kernel
theorem dX0_matches_49 : decode cX0_matches 49 = .ok (.istore 6, 2) := by decide +kernel
theorem dX0_matches_51 : decode cX0_matches 51 = .ok (.iload 6, 2) := by decide +kernel
theorem dX0_matches_53 : decode cX0_matches 53 = .ok (.aload_n 1, 1) := by decide +kernel
theorem dX0_matches_54 : decode cX0_matches 54 = .ok (.getfield 56, 3) := by decide +kernel
theorem dX0_matches_57 : decode cX0_matches 57 = .ok (.getfield 18, 3) := by decide +kernel
theorem dX0_matches_60 : decode cX0_matches 60 = .ok (.if_icmp .ne 18, 3) := by decide +kernel
theorem dX0_matches_63 : decode cX0_matches 63 = .ok (.iload 4, 2) := by decide +kernel
theorem dX0_matches_65 : decode cX0_matches 65 = .ok (.aload_n 0, 1) := by decide +kernel
theorem dX0_matches_66 : decode cX0_matches 66 = .ok (.getfield 15, 3) := by decide +kernel
theorem dX0_matches_69 : decode cX0_matches 69 = .ok (.iload 5, 2) := by decide +kernel
theorem dX0_matches_71 : decode cX0_matches 71 = .ok (.iaload, 1) := by decide +kernel
theorem dX0_matches_72 : decode cX0_matches 72 = .ok (.iadd, 1) := by decide +kernel
theorem dX0_matches_73 : decode cX0_matches 73 = .ok (.istore 4, 2) := by decide +kernel
theorem dX0_matches_75 : decode cX0_matches 75 = .ok (.goto 33, 3) := by decide +kernel
theorem dX0_matches_78 : decode cX0_matches 78 = .ok (.aload_n 0, 1) := by decide +kernel
theorem dX0_matches_79 : decode cX0_matches 79 = .ok (.getfield 15, 3) := by decide +kernel
theorem dX0_matches_82 : decode cX0_matches 82 = .ok (.iload 5, 2) := by decide +kernel
theorem dX0_matches_84 : decode cX0_matches 84 = .ok (.iaload, 1) := by decide +kernel
theorem dX0_matches_85 : decode cX0_matches 85 = .ok (.ifCond .le 23, 3) := by decide +kernel
theorem dX0_matches_88 : decode cX0_matches 88 = .ok (.aload_n 0, 1) := by decide +kernel
theorem dX0_matches_89 : decode cX0_matches 89 = .ok (.aload_n 1, 1) := by decide +kernel
theorem dX0_matches_90 : decode cX0_matches 90 = .ok (.iload 5, 2) := by decide +kernel
theorem dX0_matches_92 : decode cX0_matches 92 = .ok (.iload 6, 2) := by decide +kernel
theorem dX0_matches_94 : decode cX0_matches 94 = .ok (.iload 6, 2) := by decide +kernel
theorem dX0_matches_96 : decode cX0_matches 96 = .ok (.iload_n 2, 1) := by decide +kernel
theorem dX0_matches_97 : decode cX0_matches 97 = .ok (.if_icmp .ne 7, 3) := by decide +kernel
theorem dX0_matches_100 : decode cX0_matches 100 = .ok (.iload_n 3, 1) := by decide +kernel
theorem dX0_matches_101 : decode cX0_matches 101 = .ok (.goto 4, 3) := by decide +kernel
theorem dX0_matches_104 : decode cX0_matches 104 = .ok (.iconst (-1), 1) := by decide +kernel
theorem dX0_matches_105 : decode cX0_matches 105 = .ok (.invokevirtual 62, 3) := by decide +kernel
theorem dX0_matches_108 : decode cX0_matches 108 = .ok (.iinc 5 1, 3) := by decide +kernel
theorem dX0_matches_111 : decode cX0_matches 111 = .ok (.goto (-74), 3) := by decide +kernel
theorem dX0_matches_114 : decode cX0_matches 114 = .ok (.iload 4, 2) := by decide +kernel
theorem dX0_matches_116 : decode cX0_matches 116 = .ok (.ireturn, 1) := by decide +kernel
theorem dX0_grow_0 : decode cX0_grow 0 = .ok (.iconst 0, 1) := by decide +kernel
theorem dX0_grow_1 : decode cX0_grow 1 = .ok (.istore 5, 2) := by decide +kernel
theorem dX0_grow_3 : decode cX0_grow 3 = .ok (.iload 5, 2) := by decide +kernel
theorem dX0_grow_5 : decode cX0_grow 5 = .ok (.bipush 6, 2) := by decide +kernel
theorem dX0_grow_7 : decode cX0_grow 7 = .ok (.if_icmp .ge 81, 3) := by decide +kernel
theorem dX0_grow_10 : decode cX0_grow 10 = .ok (.iload_n 2, 1) := by decide +kernel
theorem dX0_grow_11 : decode cX0_grow 11 = .ok (.iconst 1, 1) := by decide +kernel
theorem dX0_grow_12 : decode cX0_grow 12 = .ok (.iload 5, 2) := by decide +kernel
theorem dX0_grow_14 : decode cX0_grow 14 = .ok (.ishl, 1) := by decide +kernel
theorem dX0_grow_15 : decode cX0_grow 15 = .ok (.ior, 1) := by decide +kernel
theorem dX0_grow_16 : decode cX0_grow 16 = .ok (.istore 6, 2) := by decide +kernel
theorem dX0_grow_18 : decode cX0_grow 18 = .ok (.iload 4, 2) := by decide +kernel
theorem dX0_grow_20 : decode cX0_grow 20 = .ok (.iconst (-1), 1) := by decide +kernel
theorem dX0_grow_21 : decode cX0_grow 21 = .ok (.if_icmp .eq 10, 3) := by decide +kernel
theorem dX0_grow_24 : decode cX0_grow 24 = .ok (.iload 4, 2) := by decide +kernel
theorem dX0_grow_26 : decode cX0_grow 26 = .ok (.iload 5, 2) := by decide +kernel
theorem dX0_grow_28 : decode cX0_grow 28 = .ok (.if_icmp .ne 7, 3) := by decide +kernel
theorem dX0_grow_31 : decode cX0_grow 31 = .ok (.iconst 1, 1) := by decide +kernel
theorem dX0_grow_32 : decode cX0_grow 32 = .ok (.goto 4, 3) := by decide +kernel
theorem dX0_grow_35 : decode cX0_grow 35 = .ok (.iconst 0, 1) := by decide +kernel
theorem dX0_grow_36 : decode cX0_grow 36 = .ok (.istore 7, 2) := by decide +kernel
theorem dX0_grow_38 : decode cX0_grow 38 = .ok (.iload 6, 2) := by decide +kernel
theorem dX0_grow_40 : decode cX0_grow 40 = .ok (.iload_n 2, 1) := by decide +kernel
theorem dX0_grow_41 : decode cX0_grow 41 = .ok (.if_icmp .eq 41, 3) := by decide +kernel
theorem dX0_grow_44 : decode cX0_grow 44 = .ok (.iload 6, 2) := by decide +kernel
theorem dX0_grow_46 : decode cX0_grow 46 = .ok (.bipush 64, 2) := by decide +kernel
theorem dX0_grow_48 : decode cX0_grow 48 = .ok (.if_icmp .ge 34, 3) := by decide +kernel
theorem dX0_grow_51 : decode cX0_grow 51 = .ok (.iload 7, 2) := by decide +kernel
theorem dX0_grow_53 : decode cX0_grow 53 = .ok (.ifCond .eq 29, 3) := by decide +kernel
theorem dX0_grow_56 : decode cX0_grow 56 = .ok (.aload_n 1, 1) := by decide +kernel
theorem dX0_grow_57 : decode cX0_grow 57 = .ok (.iload_n 3, 1) := by decide +kernel
theorem dX0_grow_58 : decode cX0_grow 58 = .ok (.iload 5, 2) := by decide +kernel
theorem dX0_grow_60 : decode cX0_grow 60 = .ok (.invokestatic 66, 3) := by decide +kernel
theorem dX0_grow_63 : decode cX0_grow 63 = .ok (.ifCond .eq 19, 3) := by decide +kernel
theorem dX0_grow_66 : decode cX0_grow 66 = .ok (.aload_n 0, 1) := by decide +kernel
theorem dX0_grow_67 : decode cX0_grow 67 = .ok (.getfield 15, 3) := by decide +kernel
theorem dX0_grow_70 : decode cX0_grow 70 = .ok (.iload 6, 2) := by decide +kernel
theorem dX0_grow_72 : decode cX0_grow 72 = .ok (.dup2, 1) := by decide +kernel
theorem dX0_grow_73 : decode cX0_grow 73 = .ok (.iaload, 1) := by decide +kernel
theorem dX0_grow_74 : decode cX0_grow 74 = .ok (.aload_n 0, 1) := by decide +kernel
theorem dX0_grow_75 : decode cX0_grow 75 = .ok (.getfield 15, 3) := by decide +kernel
theorem dX0_grow_78 : decode cX0_grow 78 = .ok (.iload_n 2, 1) := by decide +kernel
theorem dX0_grow_79 : decode cX0_grow 79 = .ok (.iaload, 1) := by decide +kernel
theorem dX0_grow_80 : decode cX0_grow 80 = .ok (.iadd, 1) := by decide +kernel
theorem dX0_grow_81 : decode cX0_grow 81 = .ok (.iastore, 1) := by decide +kernel
theorem dX0_grow_82 : decode cX0_grow 82 = .ok (.iinc 5 1, 3) := by decide +kernel
theorem dX0_grow_85 : decode cX0_grow 85 = .ok (.goto (-82), 3) := by decide +kernel
theorem dX0_grow_88 : decode cX0_grow 88 = .ok (.return_, 1) := by decide +kernel
theorem dX0_goTogether_0 : decode cX0_goTogether 0 = .ok (.aload_n 0, 1) := by decide +kernel
theorem dX0_goTogether_1 : decode cX0_goTogether 1 = .ok (.getfield 56, 3) := by decide +kernel
theorem dX0_goTogether_4 : decode cX0_goTogether 4 = .ok (.iload_n 1, 1) := by decide +kernel
theorem dX0_goTogether_5 : decode cX0_goTogether 5 = .ok (.invokevirtual 70, 3) := by decide +kernel
theorem dX0_goTogether_8 : decode cX0_goTogether 8 = .ok (.ifCond .eq 14, 3) := by decide +kernel
theorem dX0_goTogether_11 : decode cX0_goTogether 11 = .ok (.aload_n 0, 1) := by decide +kernel
theorem dX0_goTogether_12 : decode cX0_goTogether 12 = .ok (.getfield 74, 3) := by decide +kernel
theorem dX0_goTogether_15 : decode cX0_goTogether 15 = .ok (.iload_n 2, 1) := by decide +kernel
theorem dX0_goTogether_16 : decode cX0_goTogether 16 = .ok (.invokevirtual 70, 3) := by decide +kernel
theorem dX0_goTogether_19 : decode cX0_goTogether 19 = .ok (.ifCond .ne 5, 3) := by decide +kernel
theorem dX0_goTogether_22 : decode cX0_goTogether 22 = .ok (.iconst 0, 1) := by decide +kernel
theorem dX0_goTogether_23 : decode cX0_goTogether 23 = .ok (.ireturn, 1) := by decide +kernel
theorem dX0_goTogether_24 : decode cX0_goTogether 24 = .ok (.aload_n 0, 1) := by decide +kernel
theorem dX0_goTogether_25 : decode cX0_goTogether 25 = .ok (.getfield 56, 3) := by decide +kernel
theorem dX0_goTogether_28 : decode cX0_goTogether 28 = .ok (.iload_n 1, 1) := by decide +kernel
theorem dX0_goTogether_29 : decode cX0_goTogether 29 = .ok (.iconst 0, 1) := by decide +kernel
theorem dX0_goTogether_30 : decode cX0_goTogether 30 = .ok (.invokevirtual 44, 3) := by decide +kernel
theorem dX0_goTogether_33 : decode cX0_goTogether 33 = .ok (.aload_n 0, 1) := by decide +kernel
theorem dX0_goTogether_34 : decode cX0_goTogether 34 = .ok (.getfield 74, 3) := by decide +kernel
theorem dX0_goTogether_37 : decode cX0_goTogether 37 = .ok (.iload_n 2, 1) := by decide +kernel
theorem dX0_goTogether_38 : decode cX0_goTogether 38 = .ok (.iconst 2, 1) := by decide +kernel
theorem dX0_goTogether_39 : decode cX0_goTogether 39 = .ok (.invokevirtual 44, 3) := by decide +kernel
theorem dX0_goTogether_42 : decode cX0_goTogether 42 = .ok (.isub, 1) := by decide +kernel
theorem dX0_goTogether_43 : decode cX0_goTogether 43 = .ok (.invokestatic 47, 3) := by decide +kernel
theorem dX0_goTogether_46 : decode cX0_goTogether 46 = .ok (.istore_n 3, 1) := by decide +kernel
theorem dX0_goTogether_47 : decode cX0_goTogether 47 = .ok (.iload_n 3, 1) := by decide +kernel
theorem dX0_goTogether_48 : decode cX0_goTogether 48 = .ok (.aload_n 0, 1) := by decide +kernel
theorem dX0_goTogether_49 : decode cX0_goTogether 49 = .ok (.getfield 77, 3) := by decide +kernel
theorem dX0_goTogether_52 : decode cX0_goTogether 52 = .ok (.iconst 0, 1) := by decide +kernel
theorem dX0_goTogether_53 : decode cX0_goTogether 53 = .ok (.iconst 0, 1) := by decide +kernel
theorem dX0_goTogether_54 : decode cX0_goTogether 54 = .ok (.invokevirtual 44, 3) := by decide +kernel
theorem dX0_goTogether_57 : decode cX0_goTogether 57 = .ok (.if_icmp .gt 7, 3) := by decide +kernel
theorem dX0_goTogether_60 : decode cX0_goTogether 60 = .ok (.iconst 1, 1) := by decide +kernel
theorem dX0_goTogether_61 : decode cX0_goTogether 61 = .ok (.goto 4, 3) := by decide +kernel
theorem dX0_goTogether_64 : decode cX0_goTogether 64 = .ok (.iconst 0, 1) := by decide +kernel
theorem dX0_goTogether_65 : decode cX0_goTogether 65 = .ok (.ireturn, 1) := by decide +kernel
theorem dX1_init_0 : decode cX1_init 0 = .ok (.aload_n 0, 1) := by decide +kernel
theorem dX1_init_1 : decode cX1_init 1 = .ok (.invokespecial 1, 3) := by decide +kernel
theorem dX1_init_4 : decode cX1_init 4 = .ok (.aload_n 0, 1) := by decide +kernel
theorem dX1_init_5 : decode cX1_init 5 = .ok (.new 7, 3) := by decide +kernel
theorem dX1_init_8 : decode cX1_init 8 = .ok (.dup, 1) := by decide +kernel
theorem dX1_init_9 : decode cX1_init 9 = .ok (.invokespecial 9, 3) := by decide +kernel
theorem dX1_init_12 : decode cX1_init 12 = .ok (.putfield 10, 3) := by decide +kernel
theorem dX1_init_15 : decode cX1_init 15 = .ok (.aload_n 0, 1) := by decide +kernel
theorem dX1_init_16 : decode cX1_init 16 = .ok (.new 7, 3) := by decide +kernel
theorem dX1_init_19 : decode cX1_init 19 = .ok (.dup, 1) := by decide +kernel
theorem dX1_init_20 : decode cX1_init 20 = .ok (.invokespecial 9, 3) := by decide +kernel
theorem dX1_init_23 : decode cX1_init 23 = .ok (.putfield 16, 3) := by decide +kernel
theorem dX1_init_26 : decode cX1_init 26 = .ok (.aload_n 0, 1) := by decide +kernel
theorem dX1_init_27 : decode cX1_init 27 = .ok (.getfield 16, 3) := by decide +kernel
theorem dX1_init_30 : decode cX1_init 30 = .ok (.lconst 1, 1) := by decide +kernel
theorem dX1_init_31 : decode cX1_init 31 = .ok (.invokevirtual 19, 3) := by decide +kernel
theorem dX1_init_34 : decode cX1_init 34 = .ok (.return_, 1) := by decide +kernel
theorem dX1_set_0 : decode cX1_set 0 = .ok (.lload_n 1, 1) := by decide +kernel
theorem dX1_set_1 : decode cX1_set 1 = .ok (.invokestatic 23, 3) := by decide +kernel
theorem dX1_set_4 : decode cX1_set 4 = .ok (.lload_n 3, 1) := by decide +kernel
theorem dX1_set_5 : decode cX1_set 5 = .ok (.invokestatic 29, 3) := by decide +kernel
theorem dX1_set_8 : decode cX1_set 8 = .ok (.lstore 5, 2) := by decide +kernel
theorem dX1_set_10 : decode cX1_set 10 = .ok (.aload_n 0, 1) := by decide +kernel
theorem dX1_set_11 : decode cX1_set 11 = .ok (.lload_n 1, 1) := by decide +kernel
theorem dX1_set_12 : decode cX1_set 12 = .ok (.lconst 0, 1) := by decide +kernel
theorem dX1_set_13 : decode cX1_set 13 = .ok (.invokestatic 33, 3) := by decide +kernel
theorem dX1_set_16 : decode cX1_set 16 = .ok (.putfield 39, 3) := by decide +kernel
theorem dX1_set_19 : decode cX1_set 19 = .ok (.aload_n 0, 1) := by decide +kernel
theorem dX1_set_20 : decode cX1_set 20 = .ok (.getfield 10, 3) := by decide +kernel
theorem dX1_set_23 : decode cX1_set 23 = .ok (.lload 5, 2) := by decide +kernel
theorem dX1_set_25 : decode cX1_set 25 = .ok (.lconst 0, 1) := by decide +kernel
theorem dX1_set_26 : decode cX1_set 26 = .ok (.lcmp, 1) := by decide +kernel
theorem dX1_set_27 : decode cX1_set 27 = .ok (.ifCond .ne 7, 3) := by decide +kernel
theorem dX1_set_30 : decode cX1_set 30 = .ok (.lconst 0, 1) := by decide +kernel
theorem dX1_set_31 : decode cX1_set 31 = .ok (.goto 10, 3) := by decide +kernel
theorem dX1_set_34 : decode cX1_set 34 = .ok (.lload_n 1, 1) := by decide +kernel
theorem dX1_set_35 : decode cX1_set 35 = .ok (.invokestatic 23, 3) := by decide +kernel
theorem dX1_set_38 : decode cX1_set 38 = .ok (.lload 5, 2) := by decide +kernel
theorem dX1_set_40 : decode cX1_set 40 = .ok (.ldiv, 1) := by decide +kernel
theorem dX1_set_41 : decode cX1_set 41 = .ok (.invokevirtual 19, 3) := by decide +kernel
theorem dX1_set_44 : decode cX1_set 44 = .ok (.aload_n 0, 1) := by decide +kernel
theorem dX1_set_45 : decode cX1_set 45 = .ok (.getfield 16, 3) := by decide +kernel
theorem dX1_set_48 : decode cX1_set 48 = .ok (.lload 5, 2) := by decide +kernel
theorem dX1_set_50 : decode cX1_set 50 = .ok (.lconst 0, 1) := by decide +kernel
theorem dX1_set_51 : decode cX1_set 51 = .ok (.lcmp, 1) := by decide +kernel
theorem dX1_set_52 : decode cX1_set 52 = .ok (.ifCond .ne 7, 3) := by decide +kernel
theorem dX1_set_55 : decode cX1_set 55 = .ok (.lconst 1, 1) := by decide +kernel
theorem dX1_set_56 : decode cX1_set 56 = .ok (.goto 7, 3) := by decide +kernel
theorem dX1_set_59 : decode cX1_set 59 = .ok (.lload_n 3, 1) := by decide +kernel
theorem dX1_set_60 : decode cX1_set 60 = .ok (.lload 5, 2) := by decide +kernel
theorem dX1_set_62 : decode cX1_set 62 = .ok (.ldiv, 1) := by decide +kernel
theorem dX1_set_63 : decode cX1_set 63 = .ok (.invokevirtual 19, 3) := by decide +kernel
theorem dX1_set_66 : decode cX1_set 66 = .ok (.return_, 1) := by decide +kernel
theorem dX1_commonDivisor_0 : decode cX1_commonDivisor 0 = .ok (.lload_n 0, 1) := by decide +kernel
theorem dX1_commonDivisor_1 : decode cX1_commonDivisor 1 = .ok (.lstore 4, 2) := by decide +kernel
theorem dX1_commonDivisor_3 : decode cX1_commonDivisor 3 = .ok (.lload_n 2, 1) := by decide +kernel
theorem dX1_commonDivisor_4 : decode cX1_commonDivisor 4 = .ok (.lstore 6, 2) := by decide +kernel
theorem dX1_commonDivisor_6 : decode cX1_commonDivisor 6 = .ok (.iconst 0, 1) := by decide +kernel
theorem dX1_commonDivisor_7 : decode cX1_commonDivisor 7 = .ok (.istore 8, 2) := by decide +kernel
theorem dX1_commonDivisor_9 : decode cX1_commonDivisor 9 = .ok (.iload 8, 2) := by decide +kernel
theorem dX1_commonDivisor_11 : decode cX1_commonDivisor 11 = .ok (.sipush 1000, 3) := by decide +kernel
theorem dX1_commonDivisor_14 : decode cX1_commonDivisor 14 = .ok (.if_icmp .ge 31, 3) := by decide +kernel
theorem dX1_commonDivisor_17 : decode cX1_commonDivisor 17 = .ok (.lload 6, 2) := by decide +kernel
theorem dX1_commonDivisor_19 : decode cX1_commonDivisor 19 = .ok (.lconst 0, 1) := by decide +kernel
theorem dX1_commonDivisor_20 : decode cX1_commonDivisor 20 = .ok (.lcmp, 1) := by decide +kernel
theorem dX1_commonDivisor_21 : decode cX1_commonDivisor 21 = .ok (.ifCond .eq 24, 3) := by decide +kernel
theorem dX1_commonDivisor_24 : decode cX1_commonDivisor 24 = .ok (.lload 4, 2) := by decide +kernel
theorem dX1_commonDivisor_26 : decode cX1_commonDivisor 26 = .ok (.lload 6, 2) := by decide +kernel
theorem dX1_commonDivisor_28 : decode cX1_commonDivisor 28 = .ok (.lrem, 1) := by decide +kernel
theorem dX1_commonDivisor_29 : decode cX1_commonDivisor 29 = .ok (.lstore 9, 2) := by decide +kernel
theorem dX1_commonDivisor_31 : decode cX1_commonDivisor 31 = .ok (.lload 6, 2) := by decide +kernel
theorem dX1_commonDivisor_33 : decode cX1_commonDivisor 33 = .ok (.lstore 4, 2) := by decide +kernel
theorem dX1_commonDivisor_35 : decode cX1_commonDivisor 35 = .ok (.lload 9, 2) := by decide +kernel
theorem dX1_commonDivisor_37 : decode cX1_commonDivisor 37 = .ok (.lstore 6, 2) := by decide +kernel
theorem dX1_commonDivisor_39 : decode cX1_commonDivisor 39 = .ok (.iinc 8 1, 3) := by decide +kernel
theorem dX1_commonDivisor_42 : decode cX1_commonDivisor 42 = .ok (.goto (-33), 3) := by decide +kernel
theorem dX1_commonDivisor_45 : decode cX1_commonDivisor 45 = .ok (.lload 4, 2) := by decide +kernel
theorem dX1_commonDivisor_47 : decode cX1_commonDivisor 47 = .ok (.lreturn, 1) := by decide +kernel
theorem dX1_share_0 : decode cX1_share 0 = .ok (.aload_n 1, 1) := by decide +kernel
theorem dX1_share_1 : decode cX1_share 1 = .ok (.getfield 43, 3) := by decide +kernel
theorem dX1_share_4 : decode cX1_share 4 = .ok (.ifCond .ne 10, 3) := by decide +kernel
theorem dX1_share_7 : decode cX1_share 7 = .ok (.aload_n 0, 1) := by decide +kernel
theorem dX1_share_8 : decode cX1_share 8 = .ok (.lconst 0, 1) := by decide +kernel
theorem dX1_share_9 : decode cX1_share 9 = .ok (.lconst 1, 1) := by decide +kernel
theorem dX1_share_10 : decode cX1_share 10 = .ok (.invokevirtual 46, 3) := by decide +kernel
theorem dX1_share_13 : decode cX1_share 13 = .ok (.return_, 1) := by decide +kernel
theorem dX1_share_14 : decode cX1_share 14 = .ok (.aload_n 0, 1) := by decide +kernel
theorem dX1_share_15 : decode cX1_share 15 = .ok (.iconst 1, 1) := by decide +kernel
theorem dX1_share_16 : decode cX1_share 16 = .ok (.putfield 39, 3) := by decide +kernel
theorem dX1_share_19 : decode cX1_share 19 = .ok (.aload_n 0, 1) := by decide +kernel
theorem dX1_share_20 : decode cX1_share 20 = .ok (.getfield 10, 3) := by decide +kernel
theorem dX1_share_23 : decode cX1_share 23 = .ok (.aload_n 1, 1) := by decide +kernel
theorem dX1_share_24 : decode cX1_share 24 = .ok (.invokevirtual 49, 3) := by decide +kernel
theorem dX1_share_27 : decode cX1_share 27 = .ok (.aload_n 0, 1) := by decide +kernel
theorem dX1_share_28 : decode cX1_share 28 = .ok (.getfield 16, 3) := by decide +kernel
theorem dX1_share_31 : decode cX1_share 31 = .ok (.aload_n 2, 1) := by decide +kernel
theorem dX1_share_32 : decode cX1_share 32 = .ok (.invokevirtual 49, 3) := by decide +kernel
theorem dX1_share_35 : decode cX1_share 35 = .ok (.getstatic 53, 3) := by decide +kernel
theorem dX1_share_38 : decode cX1_share 38 = .ok (.astore_n 3, 1) := by decide +kernel
theorem dX1_share_39 : decode cX1_share 39 = .ok (.aload_n 3, 1) := by decide +kernel
theorem dX1_share_40 : decode cX1_share 40 = .ok (.arraylength, 1) := by decide +kernel
theorem dX1_share_41 : decode cX1_share 41 = .ok (.istore 4, 2) := by decide +kernel
theorem dX1_share_43 : decode cX1_share 43 = .ok (.iconst 0, 1) := by decide +kernel
theorem dX1_share_44 : decode cX1_share 44 = .ok (.istore 5, 2) := by decide +kernel
theorem dX1_share_46 : decode cX1_share 46 = .ok (.iload 5, 2) := by decide +kernel
theorem dX1_share_48 : decode cX1_share 48 = .ok (.iload 4, 2) := by decide +kernel
theorem dX1_share_50 : decode cX1_share 50 = .ok (.if_icmp .ge 59, 3) := by decide +kernel
theorem dX1_share_53 : decode cX1_share 53 = .ok (.aload_n 3, 1) := by decide +kernel
theorem dX1_share_54 : decode cX1_share 54 = .ok (.iload 5, 2) := by decide +kernel
theorem dX1_share_56 : decode cX1_share 56 = .ok (.iaload, 1) := by decide +kernel
theorem dX1_share_57 : decode cX1_share 57 = .ok (.istore 6, 2) := by decide +kernel
theorem dX1_share_59 : decode cX1_share 59 = .ok (.iconst 0, 1) := by decide +kernel
theorem dX1_share_60 : decode cX1_share 60 = .ok (.istore 7, 2) := by decide +kernel
theorem dX1_share_62 : decode cX1_share 62 = .ok (.iload 7, 2) := by decide +kernel
theorem dX1_share_64 : decode cX1_share 64 = .ok (.sipush 1000, 3) := by decide +kernel
theorem dX1_share_67 : decode cX1_share 67 = .ok (.if_icmp .ge 36, 3) := by decide +kernel
theorem dX1_share_70 : decode cX1_share 70 = .ok (.aload_n 0, 1) := by decide +kernel
theorem dX1_share_71 : decode cX1_share 71 = .ok (.iload 6, 2) := by decide +kernel
theorem dX1_share_73 : decode cX1_share 73 = .ok (.invokevirtual 57, 3) := by decide +kernel
theorem dX1_share_76 : decode cX1_share 76 = .ok (.ifCond .eq 27, 3) := by decide +kernel
theorem dX1_share_79 : decode cX1_share 79 = .ok (.aload_n 0, 1) := by decide +kernel
theorem dX1_share_80 : decode cX1_share 80 = .ok (.getfield 10, 3) := by decide +kernel
theorem dX1_share_83 : decode cX1_share 83 = .ok (.iload 6, 2) := by decide +kernel
theorem dX1_share_85 : decode cX1_share 85 = .ok (.invokevirtual 61, 3) := by decide +kernel
theorem dX1_share_88 : decode cX1_share 88 = .ok (.aload_n 0, 1) := by decide +kernel
theorem dX1_share_89 : decode cX1_share 89 = .ok (.getfield 16, 3) := by decide +kernel
theorem dX1_share_92 : decode cX1_share 92 = .ok (.iload 6, 2) := by decide +kernel
theorem dX1_share_94 : decode cX1_share 94 = .ok (.invokevirtual 61, 3) := by decide +kernel
theorem dX1_share_97 : decode cX1_share 97 = .ok (.iinc 7 1, 3) := by decide +kernel
theorem dX1_share_100 : decode cX1_share 100 = .ok (.goto (-38), 3) := by decide +kernel
theorem dX1_share_103 : decode cX1_share 103 = .ok (.iinc 5 1, 3) := by decide +kernel
theorem dX1_share_106 : decode cX1_share 106 = .ok (.goto (-60), 3) := by decide +kernel
theorem dX1_share_109 : decode cX1_share 109 = .ok (.return_, 1) := by decide +kernel
theorem dX1_areDividedBy_0 : decode cX1_areDividedBy 0 = .ok (.aload_n 0, 1) := by decide +kernel
theorem dX1_areDividedBy_1 : decode cX1_areDividedBy 1 = .ok (.getfield 10, 3) := by decide +kernel
theorem dX1_areDividedBy_4 : decode cX1_areDividedBy 4 = .ok (.iload_n 1, 1) := by decide +kernel
theorem dX1_areDividedBy_5 : decode cX1_areDividedBy 5 = .ok (.invokevirtual 65, 3) := by decide +kernel
theorem dX1_areDividedBy_8 : decode cX1_areDividedBy 8 = .ok (.ifCond .ne 18, 3) := by decide +kernel
theorem dX1_areDividedBy_11 : decode cX1_areDividedBy 11 = .ok (.aload_n 0, 1) := by decide +kernel
theorem dX1_areDividedBy_12 : decode cX1_areDividedBy 12 = .ok (.getfield 16, 3) := by decide +kernel
theorem dX1_areDividedBy_15 : decode cX1_areDividedBy 15 = .ok (.iload_n 1, 1) := by decide +kernel
theorem dX1_areDividedBy_16 : decode cX1_areDividedBy 16 = .ok (.invokevirtual 65, 3) := by decide +kernel
theorem dX1_areDividedBy_19 : decode cX1_areDividedBy 19 = .ok (.ifCond .ne 7, 3) := by decide +kernel
theorem dX1_areDividedBy_22 : decode cX1_areDividedBy 22 = .ok (.iconst 1, 1) := by decide +kernel
theorem dX1_areDividedBy_23 : decode cX1_areDividedBy 23 = .ok (.goto 4, 3) := by decide +kernel
theorem dX1_areDividedBy_26 : decode cX1_areDividedBy 26 = .ok (.iconst 0, 1) := by decide +kernel
theorem dX1_areDividedBy_27 : decode cX1_areDividedBy 27 = .ok (.ireturn, 1) := by decide +kernel
theorem dX1_mixedInto_0 : decode cX1_mixedInto 0 = .ok (.lload_n 1, 1) := by decide +kernel
theorem dX1_mixedInto_1 : decode cX1_mixedInto 1 = .ok (.aload_n 0, 1) := by decide +kernel
theorem dX1_mixedInto_2 : decode cX1_mixedInto 2 = .ok (.getfield 39, 3) := by decide +kernel
theorem dX1_mixedInto_5 : decode cX1_mixedInto 5 = .ok (.i2l, 1) := by decide +kernel
theorem dX1_mixedInto_6 : decode cX1_mixedInto 6 = .ok (.invokestatic 69, 3) := by decide +kernel
theorem dX1_mixedInto_9 : decode cX1_mixedInto 9 = .ok (.aload_n 0, 1) := by decide +kernel
theorem dX1_mixedInto_10 : decode cX1_mixedInto 10 = .ok (.getfield 10, 3) := by decide +kernel
theorem dX1_mixedInto_13 : decode cX1_mixedInto 13 = .ok (.getfield 43, 3) := by decide +kernel
theorem dX1_mixedInto_16 : decode cX1_mixedInto 16 = .ok (.i2l, 1) := by decide +kernel
theorem dX1_mixedInto_17 : decode cX1_mixedInto 17 = .ok (.invokestatic 69, 3) := by decide +kernel
theorem dX1_mixedInto_20 : decode cX1_mixedInto 20 = .ok (.aload_n 0, 1) := by decide +kernel
theorem dX1_mixedInto_21 : decode cX1_mixedInto 21 = .ok (.getfield 16, 3) := by decide +kernel
theorem dX1_mixedInto_24 : decode cX1_mixedInto 24 = .ok (.getfield 43, 3) := by decide +kernel
theorem dX1_mixedInto_27 : decode cX1_mixedInto 27 = .ok (.i2l, 1) := by decide +kernel
theorem dX1_mixedInto_28 : decode cX1_mixedInto 28 = .ok (.invokestatic 69, 3) := by decide +kernel
theorem dX1_mixedInto_31 : decode cX1_mixedInto 31 = .ok (.lstore_n 3, 1) := by decide +kernel
theorem dX1_mixedInto_32 : decode cX1_mixedInto 32 = .ok (.iconst 0, 1) := by decide +kernel
theorem dX1_mixedInto_33 : decode cX1_mixedInto 33 = .ok (.istore 5, 2) := by decide +kernel
theorem dX1_mixedInto_35 : decode cX1_mixedInto 35 = .ok (.iload 5, 2) := by decide +kernel
theorem dX1_mixedInto_37 : decode cX1_mixedInto 37 = .ok (.aload_n 0, 1) := by decide +kernel
theorem dX1_mixedInto_38 : decode cX1_mixedInto 38 = .ok (.getfield 10, 3) := by decide +kernel
theorem dX1_mixedInto_41 : decode cX1_mixedInto 41 = .ok (.getfield 43, 3) := by decide +kernel
theorem dX1_mixedInto_44 : decode cX1_mixedInto 44 = .ok (.if_icmp .ge 24, 3) := by decide +kernel
theorem dX1_mixedInto_47 : decode cX1_mixedInto 47 = .ok (.lload_n 3, 1) := by decide +kernel
theorem dX1_mixedInto_48 : decode cX1_mixedInto 48 = .ok (.aload_n 0, 1) := by decide +kernel
theorem dX1_mixedInto_49 : decode cX1_mixedInto 49 = .ok (.getfield 10, 3) := by decide +kernel
theorem dX1_mixedInto_52 : decode cX1_mixedInto 52 = .ok (.iload 5, 2) := by decide +kernel
theorem dX1_mixedInto_54 : decode cX1_mixedInto 54 = .ok (.invokevirtual 74, 3) := by decide +kernel
theorem dX1_mixedInto_57 : decode cX1_mixedInto 57 = .ok (.i2l, 1) := by decide +kernel
theorem dX1_mixedInto_58 : decode cX1_mixedInto 58 = .ok (.invokestatic 69, 3) := by decide +kernel
theorem dX1_mixedInto_61 : decode cX1_mixedInto 61 = .ok (.lstore_n 3, 1) := by decide +kernel
theorem dX1_mixedInto_62 : decode cX1_mixedInto 62 = .ok (.iinc 5 1, 3) := by decide +kernel
theorem dX1_mixedInto_65 : decode cX1_mixedInto 65 = .ok (.goto (-30), 3) := by decide +kernel
theorem dX1_mixedInto_68 : decode cX1_mixedInto 68 = .ok (.iconst 0, 1) := by decide +kernel
theorem dX1_mixedInto_69 : decode cX1_mixedInto 69 = .ok (.istore 5, 2) := by decide +kernel
theorem dX1_mixedInto_71 : decode cX1_mixedInto 71 = .ok (.iload 5, 2) := by decide +kernel
theorem dX1_mixedInto_73 : decode cX1_mixedInto 73 = .ok (.aload_n 0, 1) := by decide +kernel
theorem dX1_mixedInto_74 : decode cX1_mixedInto 74 = .ok (.getfield 16, 3) := by decide +kernel
theorem dX1_mixedInto_77 : decode cX1_mixedInto 77 = .ok (.getfield 43, 3) := by decide +kernel
theorem dX1_mixedInto_80 : decode cX1_mixedInto 80 = .ok (.if_icmp .ge 24, 3) := by decide +kernel
theorem dX1_mixedInto_83 : decode cX1_mixedInto 83 = .ok (.lload_n 3, 1) := by decide +kernel
theorem dX1_mixedInto_84 : decode cX1_mixedInto 84 = .ok (.aload_n 0, 1) := by decide +kernel
theorem dX1_mixedInto_85 : decode cX1_mixedInto 85 = .ok (.getfield 16, 3) := by decide +kernel
theorem dX1_mixedInto_88 : decode cX1_mixedInto 88 = .ok (.iload 5, 2) := by decide +kernel
theorem dX1_mixedInto_90 : decode cX1_mixedInto 90 = .ok (.invokevirtual 74, 3) := by decide +kernel
theorem dX1_mixedInto_93 : decode cX1_mixedInto 93 = .ok (.i2l, 1) := by decide +kernel
theorem dX1_mixedInto_94 : decode cX1_mixedInto 94 = .ok (.invokestatic 69, 3) := by decide +kernel
theorem dX1_mixedInto_97 : decode cX1_mixedInto 97 = .ok (.lstore_n 3, 1) := by decide +kernel
theorem dX1_mixedInto_98 : decode cX1_mixedInto 98 = .ok (.iinc 5 1, 3) := by decide +kernel
theorem dX1_mixedInto_101 : decode cX1_mixedInto 101 = .ok (.goto (-30), 3) := by decide +kernel
theorem dX1_mixedInto_104 : decode cX1_mixedInto 104 = .ok (.lload_n 3, 1) := by decide +kernel
theorem dX1_mixedInto_105 : decode cX1_mixedInto 105 = .ok (.lreturn, 1) := by decide +kernel
theorem dX2_init_0 : decode cX2_init 0 = .ok (.aload_n 0, 1) := by decide +kernel
theorem dX2_init_1 : decode cX2_init 1 = .ok (.invokespecial 3, 3) := by decide +kernel
theorem dX2_init_4 : decode cX2_init 4 = .ok (.aload_n 0, 1) := by decide +kernel
theorem dX2_init_5 : decode cX2_init 5 = .ok (.bipush 13, 2) := by decide +kernel
theorem dX2_init_7 : decode cX2_init 7 = .ok (.newarray .int, 2) := by decide +kernel
theorem dX2_init_9 : decode cX2_init 9 = .ok (.putfield 9, 3) := by decide +kernel
theorem dX2_init_12 : decode cX2_init 12 = .ok (.return_, 1) := by decide +kernel
theorem dX2_shape_0 : decode cX2_shape 0 = .ok (.aload_n 0, 1) := by decide +kernel
theorem dX2_shape_1 : decode cX2_shape 1 = .ok (.getfield 9, 3) := by decide +kernel
theorem dX2_shape_4 : decode cX2_shape 4 = .ok (.bipush 11, 2) := by decide +kernel
theorem dX2_shape_6 : decode cX2_shape 6 = .ok (.iaload, 1) := by decide +kernel
theorem dX2_shape_7 : decode cX2_shape 7 = .ok (.istore_n 1, 1) := by decide +kernel
theorem dX2_shape_8 : decode cX2_shape 8 = .ok (.aload_n 0, 1) := by decide +kernel
theorem dX2_shape_9 : decode cX2_shape 9 = .ok (.aload_n 0, 1) := by decide +kernel
theorem dX2_shape_10 : decode cX2_shape 10 = .ok (.getfield 9, 3) := by decide +kernel
theorem dX2_shape_13 : decode cX2_shape 13 = .ok (.iconst 3, 1) := by decide +kernel
theorem dX2_shape_14 : decode cX2_shape 14 = .ok (.iaload, 1) := by decide +kernel
theorem dX2_shape_15 : decode cX2_shape 15 = .ok (.putfield 15, 3) := by decide +kernel
theorem dX2_shape_18 : decode cX2_shape 18 = .ok (.aload_n 0, 1) := by decide +kernel
theorem dX2_shape_19 : decode cX2_shape 19 = .ok (.aload_n 0, 1) := by decide +kernel
theorem dX2_shape_20 : decode cX2_shape 20 = .ok (.getfield 9, 3) := by decide +kernel
theorem dX2_shape_23 : decode cX2_shape 23 = .ok (.iconst 4, 1) := by decide +kernel
theorem dX2_shape_24 : decode cX2_shape 24 = .ok (.iaload, 1) := by decide +kernel
theorem dX2_shape_25 : decode cX2_shape 25 = .ok (.putfield 19, 3) := by decide +kernel
theorem dX2_shape_28 : decode cX2_shape 28 = .ok (.aload_n 0, 1) := by decide +kernel
theorem dX2_shape_29 : decode cX2_shape 29 = .ok (.aload_n 0, 1) := by decide +kernel
theorem dX2_shape_30 : decode cX2_shape 30 = .ok (.getfield 9, 3) := by decide +kernel
theorem dX2_shape_33 : decode cX2_shape 33 = .ok (.iconst 5, 1) := by decide +kernel
theorem dX2_shape_34 : decode cX2_shape 34 = .ok (.iaload, 1) := by decide +kernel
theorem dX2_shape_35 : decode cX2_shape 35 = .ok (.putfield 22, 3) := by decide +kernel
theorem dX2_shape_38 : decode cX2_shape 38 = .ok (.aload_n 0, 1) := by decide +kernel
theorem dX2_shape_39 : decode cX2_shape 39 = .ok (.aload_n 0, 1) := by decide +kernel
theorem dX2_shape_40 : decode cX2_shape 40 = .ok (.getfield 9, 3) := by decide +kernel
theorem dX2_shape_43 : decode cX2_shape 43 = .ok (.bipush 7, 2) := by decide +kernel
theorem dX2_shape_45 : decode cX2_shape 45 = .ok (.iaload, 1) := by decide +kernel
theorem dX2_shape_46 : decode cX2_shape 46 = .ok (.putfield 25, 3) := by decide +kernel
theorem dX2_shape_49 : decode cX2_shape 49 = .ok (.aload_n 0, 1) := by decide +kernel
theorem dX2_shape_50 : decode cX2_shape 50 = .ok (.aload_n 0, 1) := by decide +kernel
theorem dX2_shape_51 : decode cX2_shape 51 = .ok (.getfield 9, 3) := by decide +kernel
theorem dX2_shape_54 : decode cX2_shape 54 = .ok (.bipush 12, 2) := by decide +kernel
theorem dX2_shape_56 : decode cX2_shape 56 = .ok (.iaload, 1) := by decide +kernel
theorem dX2_shape_57 : decode cX2_shape 57 = .ok (.putfield 28, 3) := by decide +kernel
theorem dX2_shape_60 : decode cX2_shape 60 = .ok (.aload_n 0, 1) := by decide +kernel
theorem dX2_shape_61 : decode cX2_shape 61 = .ok (.bipush 10, 2) := by decide +kernel
theorem dX2_shape_63 : decode cX2_shape 63 = .ok (.aload_n 0, 1) := by decide +kernel
theorem dX2_shape_64 : decode cX2_shape 64 = .ok (.getfield 9, 3) := by decide +kernel
theorem dX2_shape_67 : decode cX2_shape 67 = .ok (.iconst 2, 1) := by decide +kernel
theorem dX2_shape_68 : decode cX2_shape 68 = .ok (.iaload, 1) := by decide +kernel
theorem dX2_shape_69 : decode cX2_shape 69 = .ok (.iadd, 1) := by decide +kernel
theorem dX2_shape_70 : decode cX2_shape 70 = .ok (.putfield 31, 3) := by decide +kernel
theorem dX2_shape_73 : decode cX2_shape 73 = .ok (.aload_n 0, 1) := by decide +kernel
theorem dX2_shape_74 : decode cX2_shape 74 = .ok (.getfield 9, 3) := by decide +kernel
theorem dX2_shape_77 : decode cX2_shape 77 = .ok (.bipush 10, 2) := by decide +kernel
theorem dX2_shape_79 : decode cX2_shape 79 = .ok (.iaload, 1) := by decide +kernel
theorem dX2_shape_80 : decode cX2_shape 80 = .ok (.tableswitch 155 1 6 #[40, 57, 74, 92, 110, 142], 40) := by decide +kernel
theorem dX2_shape_120 : decode cX2_shape 120 = .ok (.aload_n 0, 1) := by decide +kernel
theorem dX2_shape_121 : decode cX2_shape 121 = .ok (.iconst 1, 1) := by decide +kernel
theorem dX2_shape_122 : decode cX2_shape 122 = .ok (.aload_n 0, 1) := by decide +kernel
theorem dX2_shape_123 : decode cX2_shape 123 = .ok (.getfield 31, 3) := by decide +kernel
theorem dX2_shape_126 : decode cX2_shape 126 = .ok (.iload_n 1, 1) := by decide +kernel
theorem dX2_shape_127 : decode cX2_shape 127 = .ok (.isub, 1) := by decide +kernel
theorem dX2_shape_128 : decode cX2_shape 128 = .ok (.invokestatic 34, 3) := by decide +kernel
theorem dX2_shape_131 : decode cX2_shape 131 = .ok (.putfield 31, 3) := by decide +kernel
theorem dX2_shape_134 : decode cX2_shape 134 = .ok (.goto 101, 3) := by decide +kernel
theorem dX2_shape_137 : decode cX2_shape 137 = .ok (.aload_n 0, 1) := by decide +kernel
theorem dX2_shape_138 : decode cX2_shape 138 = .ok (.iconst 1, 1) := by decide +kernel
theorem dX2_shape_139 : decode cX2_shape 139 = .ok (.aload_n 0, 1) := by decide +kernel
theorem dX2_shape_140 : decode cX2_shape 140 = .ok (.getfield 25, 3) := by decide +kernel
theorem dX2_shape_143 : decode cX2_shape 143 = .ok (.iconst 2, 1) := by decide +kernel
theorem dX2_shape_144 : decode cX2_shape 144 = .ok (.idiv, 1) := by decide +kernel
theorem dX2_shape_145 : decode cX2_shape 145 = .ok (.invokestatic 34, 3) := by decide +kernel
theorem dX2_shape_148 : decode cX2_shape 148 = .ok (.putfield 25, 3) := by decide +kernel
theorem dX2_shape_151 : decode cX2_shape 151 = .ok (.goto 84, 3) := by decide +kernel
theorem dX2_shape_154 : decode cX2_shape 154 = .ok (.aload_n 0, 1) := by decide +kernel
theorem dX2_shape_155 : decode cX2_shape 155 = .ok (.bipush 99, 2) := by decide +kernel
theorem dX2_shape_157 : decode cX2_shape 157 = .ok (.iconst 2, 1) := by decide +kernel
theorem dX2_shape_158 : decode cX2_shape 158 = .ok (.aload_n 0, 1) := by decide +kernel
theorem dX2_shape_159 : decode cX2_shape 159 = .ok (.getfield 25, 3) := by decide +kernel
theorem dX2_shape_162 : decode cX2_shape 162 = .ok (.imul, 1) := by decide +kernel
theorem dX2_shape_163 : decode cX2_shape 163 = .ok (.invokestatic 40, 3) := by decide +kernel
theorem dX2_shape_166 : decode cX2_shape 166 = .ok (.putfield 25, 3) := by decide +kernel
theorem dX2_shape_169 : decode cX2_shape 169 = .ok (.goto 66, 3) := by decide +kernel
theorem dX2_shape_172 : decode cX2_shape 172 = .ok (.aload_n 0, 1) := by decide +kernel
theorem dX2_shape_173 : decode cX2_shape 173 = .ok (.bipush 6, 2) := by decide +kernel
theorem dX2_shape_175 : decode cX2_shape 175 = .ok (.aload_n 0, 1) := by decide +kernel
theorem dX2_shape_176 : decode cX2_shape 176 = .ok (.getfield 28, 3) := by decide +kernel
theorem dX2_shape_179 : decode cX2_shape 179 = .ok (.iconst 1, 1) := by decide +kernel
theorem dX2_shape_180 : decode cX2_shape 180 = .ok (.iadd, 1) := by decide +kernel
theorem dX2_shape_181 : decode cX2_shape 181 = .ok (.invokestatic 40, 3) := by decide +kernel
theorem dX2_shape_184 : decode cX2_shape 184 = .ok (.putfield 28, 3) := by decide +kernel
theorem dX2_shape_187 : decode cX2_shape 187 = .ok (.goto 48, 3) := by decide +kernel
theorem dX2_shape_190 : decode cX2_shape 190 = .ok (.aload_n 0, 1) := by decide +kernel
theorem dX2_shape_191 : decode cX2_shape 191 = .ok (.iconst 1, 1) := by decide +kernel
theorem dX2_shape_192 : decode cX2_shape 192 = .ok (.aload_n 0, 1) := by decide +kernel
theorem dX2_shape_193 : decode cX2_shape 193 = .ok (.getfield 31, 3) := by decide +kernel
theorem dX2_shape_196 : decode cX2_shape 196 = .ok (.iload_n 1, 1) := by decide +kernel
theorem dX2_shape_197 : decode cX2_shape 197 = .ok (.isub, 1) := by decide +kernel
theorem dX2_shape_198 : decode cX2_shape 198 = .ok (.invokestatic 34, 3) := by decide +kernel
theorem dX2_shape_201 : decode cX2_shape 201 = .ok (.putfield 31, 3) := by decide +kernel
theorem dX2_shape_204 : decode cX2_shape 204 = .ok (.aload_n 0, 1) := by decide +kernel
theorem dX2_shape_205 : decode cX2_shape 205 = .ok (.iconst 0, 1) := by decide +kernel
theorem dX2_shape_206 : decode cX2_shape 206 = .ok (.putfield 15, 3) := by decide +kernel
theorem dX2_shape_209 : decode cX2_shape 209 = .ok (.aload_n 0, 1) := by decide +kernel
theorem dX2_shape_210 : decode cX2_shape 210 = .ok (.iconst 0, 1) := by decide +kernel
theorem dX2_shape_211 : decode cX2_shape 211 = .ok (.putfield 19, 3) := by decide +kernel
theorem dX2_shape_214 : decode cX2_shape 214 = .ok (.aload_n 0, 1) := by decide +kernel
theorem dX2_shape_215 : decode cX2_shape 215 = .ok (.iconst 0, 1) := by decide +kernel
theorem dX2_shape_216 : decode cX2_shape 216 = .ok (.putfield 22, 3) := by decide +kernel
theorem dX2_shape_219 : decode cX2_shape 219 = .ok (.goto 16, 3) := by decide +kernel
theorem dX2_shape_222 : decode cX2_shape 222 = .ok (.aload_n 0, 1) := by decide +kernel
theorem dX2_shape_223 : decode cX2_shape 223 = .ok (.dup, 1) := by decide +kernel
theorem dX2_shape_224 : decode cX2_shape 224 = .ok (.getfield 19, 3) := by decide +kernel
theorem dX2_shape_227 : decode cX2_shape 227 = .ok (.iload_n 1, 1) := by decide +kernel
theorem dX2_shape_228 : decode cX2_shape 228 = .ok (.iadd, 1) := by decide +kernel
theorem dX2_shape_229 : decode cX2_shape 229 = .ok (.putfield 19, 3) := by decide +kernel
theorem dX2_shape_232 : decode cX2_shape 232 = .ok (.goto 3, 3) := by decide +kernel
theorem dX2_shape_235 : decode cX2_shape 235 = .ok (.return_, 1) := by decide +kernel
theorem dX2_leave_0 : decode cX2_leave 0 = .ok (.aload_n 0, 1) := by decide +kernel
theorem dX2_leave_1 : decode cX2_leave 1 = .ok (.invokevirtual 43, 3) := by decide +kernel
theorem dX2_leave_4 : decode cX2_leave 4 = .ok (.aload_n 0, 1) := by decide +kernel
theorem dX2_leave_5 : decode cX2_leave 5 = .ok (.getfield 9, 3) := by decide +kernel
theorem dX2_leave_8 : decode cX2_leave 8 = .ok (.bipush 6, 2) := by decide +kernel
theorem dX2_leave_10 : decode cX2_leave 10 = .ok (.iaload, 1) := by decide +kernel
theorem dX2_leave_11 : decode cX2_leave 11 = .ok (.aload_n 0, 1) := by decide +kernel
theorem dX2_leave_12 : decode cX2_leave 12 = .ok (.getfield 9, 3) := by decide +kernel
theorem dX2_leave_15 : decode cX2_leave 15 = .ok (.bipush 8, 2) := by decide +kernel
theorem dX2_leave_17 : decode cX2_leave 17 = .ok (.iaload, 1) := by decide +kernel
theorem dX2_leave_18 : decode cX2_leave 18 = .ok (.iadd, 1) := by decide +kernel
theorem dX2_leave_19 : decode cX2_leave 19 = .ok (.aload_n 0, 1) := by decide +kernel
theorem dX2_leave_20 : decode cX2_leave 20 = .ok (.getfield 15, 3) := by decide +kernel
theorem dX2_leave_23 : decode cX2_leave 23 = .ok (.iadd, 1) := by decide +kernel
theorem dX2_leave_24 : decode cX2_leave 24 = .ok (.aload_n 0, 1) := by decide +kernel
theorem dX2_leave_25 : decode cX2_leave 25 = .ok (.getfield 19, 3) := by decide +kernel
theorem dX2_leave_28 : decode cX2_leave 28 = .ok (.aload_n 0, 1) := by decide +kernel
theorem dX2_leave_29 : decode cX2_leave 29 = .ok (.getfield 22, 3) := by decide +kernel
theorem dX2_leave_32 : decode cX2_leave 32 = .ok (.imul, 1) := by decide +kernel
theorem dX2_leave_33 : decode cX2_leave 33 = .ok (.aload_n 0, 1) := by decide +kernel
theorem dX2_leave_34 : decode cX2_leave 34 = .ok (.getfield 15, 3) := by decide +kernel
theorem dX2_leave_37 : decode cX2_leave 37 = .ok (.iconst 1, 1) := by decide +kernel
theorem dX2_leave_38 : decode cX2_leave 38 = .ok (.iadd, 1) := by decide +kernel
theorem dX2_leave_39 : decode cX2_leave 39 = .ok (.invokestatic 46, 3) := by decide +kernel
theorem dX2_leave_42 : decode cX2_leave 42 = .ok (.iadd, 1) := by decide +kernel
theorem dX2_leave_43 : decode cX2_leave 43 = .ok (.istore_n 1, 1) := by decide +kernel
theorem dX2_leave_44 : decode cX2_leave 44 = .ok (.bipush 60, 2) := by decide +kernel
theorem dX2_leave_46 : decode cX2_leave 46 = .ok (.aload_n 0, 1) := by decide +kernel
theorem dX2_leave_47 : decode cX2_leave 47 = .ok (.getfield 9, 3) := by decide +kernel
theorem dX2_leave_50 : decode cX2_leave 50 = .ok (.iconst 1, 1) := by decide +kernel
theorem dX2_leave_51 : decode cX2_leave 51 = .ok (.iaload, 1) := by decide +kernel
theorem dX2_leave_52 : decode cX2_leave 52 = .ok (.imul, 1) := by decide +kernel
theorem dX2_leave_53 : decode cX2_leave 53 = .ok (.iload_n 1, 1) := by decide +kernel
theorem dX2_leave_54 : decode cX2_leave 54 = .ok (.invokestatic 46, 3) := by decide +kernel
theorem dX2_leave_57 : decode cX2_leave 57 = .ok (.istore_n 2, 1) := by decide +kernel
theorem dX2_leave_58 : decode cX2_leave 58 = .ok (.iconst 0, 1) := by decide +kernel
theorem dX2_leave_59 : decode cX2_leave 59 = .ok (.istore_n 3, 1) := by decide +kernel
theorem dX2_leave_60 : decode cX2_leave 60 = .ok (.iconst 0, 1) := by decide +kernel
theorem dX2_leave_61 : decode cX2_leave 61 = .ok (.istore 4, 2) := by decide +kernel
theorem dX2_leave_63 : decode cX2_leave 63 = .ok (.aload_n 0, 1) := by decide +kernel
theorem dX2_leave_64 : decode cX2_leave 64 = .ok (.iconst 0, 1) := by decide +kernel
theorem dX2_leave_65 : decode cX2_leave 65 = .ok (.putfield 49, 3) := by decide +kernel
theorem dX2_leave_68 : decode cX2_leave 68 = .ok (.iconst 0, 1) := by decide +kernel
theorem dX2_leave_69 : decode cX2_leave 69 = .ok (.istore 5, 2) := by decide +kernel
theorem dX2_leave_71 : decode cX2_leave 71 = .ok (.iload 5, 2) := by decide +kernel
theorem dX2_leave_73 : decode cX2_leave 73 = .ok (.aload_n 0, 1) := by decide +kernel
theorem dX2_leave_74 : decode cX2_leave 74 = .ok (.getfield 31, 3) := by decide +kernel
theorem dX2_leave_77 : decode cX2_leave 77 = .ok (.if_icmp .ge 76, 3) := by decide +kernel
theorem dX2_leave_80 : decode cX2_leave 80 = .ok (.iload_n 3, 1) := by decide +kernel
theorem dX2_leave_81 : decode cX2_leave 81 = .ok (.iload_n 2, 1) := by decide +kernel
theorem dX2_leave_82 : decode cX2_leave 82 = .ok (.iadd, 1) := by decide +kernel
theorem dX2_leave_83 : decode cX2_leave 83 = .ok (.istore_n 3, 1) := by decide +kernel
theorem dX2_leave_84 : decode cX2_leave 84 = .ok (.iload_n 3, 1) := by decide +kernel
theorem dX2_leave_85 : decode cX2_leave 85 = .ok (.aload_n 0, 1) := by decide +kernel
theorem dX2_leave_86 : decode cX2_leave 86 = .ok (.getfield 9, 3) := by decide +kernel
theorem dX2_leave_89 : decode cX2_leave 89 = .ok (.iconst 0, 1) := by decide +kernel
theorem dX2_leave_90 : decode cX2_leave 90 = .ok (.iaload, 1) := by decide +kernel
theorem dX2_leave_91 : decode cX2_leave 91 = .ok (.aload_n 0, 1) := by decide +kernel
theorem dX2_leave_92 : decode cX2_leave 92 = .ok (.getfield 15, 3) := by decide +kernel
theorem dX2_leave_95 : decode cX2_leave 95 = .ok (.iadd, 1) := by decide +kernel
theorem dX2_leave_96 : decode cX2_leave 96 = .ok (.imul, 1) := by decide +kernel
theorem dX2_leave_97 : decode cX2_leave 97 = .ok (.aload_n 0, 1) := by decide +kernel
theorem dX2_leave_98 : decode cX2_leave 98 = .ok (.getfield 9, 3) := by decide +kernel
theorem dX2_leave_101 : decode cX2_leave 101 = .ok (.iconst 0, 1) := by decide +kernel
theorem dX2_leave_102 : decode cX2_leave 102 = .ok (.iaload, 1) := by decide +kernel
theorem dX2_leave_103 : decode cX2_leave 103 = .ok (.invokestatic 46, 3) := by decide +kernel
theorem dX2_leave_106 : decode cX2_leave 106 = .ok (.istore 4, 2) := by decide +kernel
theorem dX2_leave_108 : decode cX2_leave 108 = .ok (.aload_n 0, 1) := by decide +kernel
theorem dX2_leave_109 : decode cX2_leave 109 = .ok (.dup, 1) := by decide +kernel
theorem dX2_leave_110 : decode cX2_leave 110 = .ok (.getfield 49, 3) := by decide +kernel
theorem dX2_leave_113 : decode cX2_leave 113 = .ok (.iload 4, 2) := by decide +kernel
theorem dX2_leave_115 : decode cX2_leave 115 = .ok (.bipush 10, 2) := by decide +kernel
theorem dX2_leave_117 : decode cX2_leave 117 = .ok (.aload_n 0, 1) := by decide +kernel
theorem dX2_leave_118 : decode cX2_leave 118 = .ok (.getfield 9, 3) := by decide +kernel
theorem dX2_leave_121 : decode cX2_leave 121 = .ok (.bipush 8, 2) := by decide +kernel
theorem dX2_leave_123 : decode cX2_leave 123 = .ok (.iaload, 1) := by decide +kernel
theorem dX2_leave_124 : decode cX2_leave 124 = .ok (.iadd, 1) := by decide +kernel
theorem dX2_leave_125 : decode cX2_leave 125 = .ok (.imul, 1) := by decide +kernel
theorem dX2_leave_126 : decode cX2_leave 126 = .ok (.bipush 10, 2) := by decide +kernel
theorem dX2_leave_128 : decode cX2_leave 128 = .ok (.aload_n 0, 1) := by decide +kernel
theorem dX2_leave_129 : decode cX2_leave 129 = .ok (.getfield 25, 3) := by decide +kernel
theorem dX2_leave_132 : decode cX2_leave 132 = .ok (.imul, 1) := by decide +kernel
theorem dX2_leave_133 : decode cX2_leave 133 = .ok (.invokestatic 46, 3) := by decide +kernel
theorem dX2_leave_136 : decode cX2_leave 136 = .ok (.aload_n 0, 1) := by decide +kernel
theorem dX2_leave_137 : decode cX2_leave 137 = .ok (.getfield 49, 3) := by decide +kernel
theorem dX2_leave_140 : decode cX2_leave 140 = .ok (.isub, 1) := by decide +kernel
theorem dX2_leave_141 : decode cX2_leave 141 = .ok (.iconst 3, 1) := by decide +kernel
theorem dX2_leave_142 : decode cX2_leave 142 = .ok (.idiv, 1) := by decide +kernel
theorem dX2_leave_143 : decode cX2_leave 143 = .ok (.iadd, 1) := by decide +kernel
theorem dX2_leave_144 : decode cX2_leave 144 = .ok (.putfield 49, 3) := by decide +kernel
theorem dX2_leave_147 : decode cX2_leave 147 = .ok (.iinc 5 1, 3) := by decide +kernel
theorem dX2_leave_150 : decode cX2_leave 150 = .ok (.goto (-79), 3) := by decide +kernel
theorem dX2_leave_153 : decode cX2_leave 153 = .ok (.aload_n 0, 1) := by decide +kernel
theorem dX2_leave_154 : decode cX2_leave 154 = .ok (.iload 4, 2) := by decide +kernel
theorem dX2_leave_156 : decode cX2_leave 156 = .ok (.aload_n 0, 1) := by decide +kernel
theorem dX2_leave_157 : decode cX2_leave 157 = .ok (.getfield 49, 3) := by decide +kernel
theorem dX2_leave_160 : decode cX2_leave 160 = .ok (.aload_n 0, 1) := by decide +kernel
theorem dX2_leave_161 : decode cX2_leave 161 = .ok (.getfield 25, 3) := by decide +kernel
theorem dX2_leave_164 : decode cX2_leave 164 = .ok (.imul, 1) := by decide +kernel
theorem dX2_leave_165 : decode cX2_leave 165 = .ok (.bipush 50, 2) := by decide +kernel
theorem dX2_leave_167 : decode cX2_leave 167 = .ok (.idiv, 1) := by decide +kernel
theorem dX2_leave_168 : decode cX2_leave 168 = .ok (.iadd, 1) := by decide +kernel
theorem dX2_leave_169 : decode cX2_leave 169 = .ok (.putfield 52, 3) := by decide +kernel
theorem dX2_leave_172 : decode cX2_leave 172 = .ok (.aload_n 0, 1) := by decide +kernel
theorem dX2_leave_173 : decode cX2_leave 173 = .ok (.aload_n 0, 1) := by decide +kernel
theorem dX2_leave_174 : decode cX2_leave 174 = .ok (.getfield 49, 3) := by decide +kernel
theorem dX2_leave_177 : decode cX2_leave 177 = .ok (.bipush 10, 2) := by decide +kernel
theorem dX2_leave_179 : decode cX2_leave 179 = .ok (.if_icmp .ge 13, 3) := by decide +kernel
theorem dX2_leave_182 : decode cX2_leave 182 = .ok (.bipush 10, 2) := by decide +kernel
theorem dX2_leave_184 : decode cX2_leave 184 = .ok (.aload_n 0, 1) := by decide +kernel
theorem dX2_leave_185 : decode cX2_leave 185 = .ok (.getfield 49, 3) := by decide +kernel
theorem dX2_leave_188 : decode cX2_leave 188 = .ok (.isub, 1) := by decide +kernel
theorem dX2_leave_189 : decode cX2_leave 189 = .ok (.goto 14, 3) := by decide +kernel
theorem dX2_leave_192 : decode cX2_leave 192 = .ok (.iconst 0, 1) := by decide +kernel
theorem dX2_leave_193 : decode cX2_leave 193 = .ok (.aload_n 0, 1) := by decide +kernel
theorem dX2_leave_194 : decode cX2_leave 194 = .ok (.getfield 49, 3) := by decide +kernel
theorem dX2_leave_197 : decode cX2_leave 197 = .ok (.bipush 30, 2) := by decide +kernel
theorem dX2_leave_199 : decode cX2_leave 199 = .ok (.isub, 1) := by decide +kernel
theorem dX2_leave_200 : decode cX2_leave 200 = .ok (.invokestatic 34, 3) := by decide +kernel
theorem dX2_leave_203 : decode cX2_leave 203 = .ok (.putfield 55, 3) := by decide +kernel
theorem dX2_leave_206 : decode cX2_leave 206 = .ok (.return_, 1) := by decide +kernel
theorem dX2_fly_0 : decode cX2_fly 0 = .ok (.aload_n 0, 1) := by decide +kernel
theorem dX2_fly_1 : decode cX2_fly 1 = .ok (.invokevirtual 58, 3) := by decide +kernel
theorem dX2_fly_4 : decode cX2_fly 4 = .ok (.iconst 0, 1) := by decide +kernel
theorem dX2_fly_5 : decode cX2_fly 5 = .ok (.istore_n 2, 1) := by decide +kernel
theorem dX2_fly_6 : decode cX2_fly 6 = .ok (.aload_n 0, 1) := by decide +kernel
theorem dX2_fly_7 : decode cX2_fly 7 = .ok (.getfield 28, 3) := by decide +kernel
theorem dX2_fly_10 : decode cX2_fly 10 = .ok (.ifCond .lt 33, 3) := by decide +kernel
theorem dX2_fly_13 : decode cX2_fly 13 = .ok (.aload_n 0, 1) := by decide +kernel
theorem dX2_fly_14 : decode cX2_fly 14 = .ok (.getfield 28, 3) := by decide +kernel
theorem dX2_fly_17 : decode cX2_fly 17 = .ok (.getstatic 61, 3) := by decide +kernel
theorem dX2_fly_20 : decode cX2_fly 20 = .ok (.arraylength, 1) := by decide +kernel
theorem dX2_fly_21 : decode cX2_fly 21 = .ok (.if_icmp .ge 22, 3) := by decide +kernel
theorem dX2_fly_24 : decode cX2_fly 24 = .ok (.aload_n 0, 1) := by decide +kernel
theorem dX2_fly_25 : decode cX2_fly 25 = .ok (.getfield 52, 3) := by decide +kernel
theorem dX2_fly_28 : decode cX2_fly 28 = .ok (.getstatic 61, 3) := by decide +kernel
theorem dX2_fly_31 : decode cX2_fly 31 = .ok (.aload_n 0, 1) := by decide +kernel
theorem dX2_fly_32 : decode cX2_fly 32 = .ok (.getfield 28, 3) := by decide +kernel
theorem dX2_fly_35 : decode cX2_fly 35 = .ok (.iaload, 1) := by decide +kernel
theorem dX2_fly_36 : decode cX2_fly 36 = .ok (.imul, 1) := by decide +kernel
theorem dX2_fly_37 : decode cX2_fly 37 = .ok (.bipush 100, 2) := by decide +kernel
theorem dX2_fly_39 : decode cX2_fly 39 = .ok (.idiv, 1) := by decide +kernel
theorem dX2_fly_40 : decode cX2_fly 40 = .ok (.goto 4, 3) := by decide +kernel
theorem dX2_fly_43 : decode cX2_fly 43 = .ok (.iconst 0, 1) := by decide +kernel
theorem dX2_fly_44 : decode cX2_fly 44 = .ok (.istore_n 3, 1) := by decide +kernel
theorem dX2_fly_45 : decode cX2_fly 45 = .ok (.aload_n 0, 1) := by decide +kernel
theorem dX2_fly_46 : decode cX2_fly 46 = .ok (.getfield 28, 3) := by decide +kernel
theorem dX2_fly_49 : decode cX2_fly 49 = .ok (.ifCond .lt 33, 3) := by decide +kernel
theorem dX2_fly_52 : decode cX2_fly 52 = .ok (.aload_n 0, 1) := by decide +kernel
theorem dX2_fly_53 : decode cX2_fly 53 = .ok (.getfield 28, 3) := by decide +kernel
theorem dX2_fly_56 : decode cX2_fly 56 = .ok (.getstatic 64, 3) := by decide +kernel
theorem dX2_fly_59 : decode cX2_fly 59 = .ok (.arraylength, 1) := by decide +kernel
theorem dX2_fly_60 : decode cX2_fly 60 = .ok (.if_icmp .ge 22, 3) := by decide +kernel
theorem dX2_fly_63 : decode cX2_fly 63 = .ok (.aload_n 0, 1) := by decide +kernel
theorem dX2_fly_64 : decode cX2_fly 64 = .ok (.getfield 52, 3) := by decide +kernel
theorem dX2_fly_67 : decode cX2_fly 67 = .ok (.getstatic 64, 3) := by decide +kernel
theorem dX2_fly_70 : decode cX2_fly 70 = .ok (.aload_n 0, 1) := by decide +kernel
theorem dX2_fly_71 : decode cX2_fly 71 = .ok (.getfield 28, 3) := by decide +kernel
theorem dX2_fly_74 : decode cX2_fly 74 = .ok (.iaload, 1) := by decide +kernel
theorem dX2_fly_75 : decode cX2_fly 75 = .ok (.imul, 1) := by decide +kernel
theorem dX2_fly_76 : decode cX2_fly 76 = .ok (.bipush 100, 2) := by decide +kernel
theorem dX2_fly_78 : decode cX2_fly 78 = .ok (.idiv, 1) := by decide +kernel
theorem dX2_fly_79 : decode cX2_fly 79 = .ok (.goto 4, 3) := by decide +kernel
theorem dX2_fly_82 : decode cX2_fly 82 = .ok (.iconst 0, 1) := by decide +kernel
theorem dX2_fly_83 : decode cX2_fly 83 = .ok (.istore 4, 2) := by decide +kernel
theorem dX2_fly_85 : decode cX2_fly 85 = .ok (.aload_n 0, 1) := by decide +kernel
theorem dX2_fly_86 : decode cX2_fly 86 = .ok (.getfield 9, 3) := by decide +kernel
theorem dX2_fly_89 : decode cX2_fly 89 = .ok (.bipush 9, 2) := by decide +kernel
theorem dX2_fly_91 : decode cX2_fly 91 = .ok (.iaload, 1) := by decide +kernel
theorem dX2_fly_92 : decode cX2_fly 92 = .ok (.ifCond .ne 14, 3) := by decide +kernel
theorem dX2_fly_95 : decode cX2_fly 95 = .ok (.iconst 4, 1) := by decide +kernel
theorem dX2_fly_96 : decode cX2_fly 96 = .ok (.iconst 3, 1) := by decide +kernel
theorem dX2_fly_97 : decode cX2_fly 97 = .ok (.aload_n 0, 1) := by decide +kernel
theorem dX2_fly_98 : decode cX2_fly 98 = .ok (.getfield 55, 3) := by decide +kernel
theorem dX2_fly_101 : decode cX2_fly 101 = .ok (.imul, 1) := by decide +kernel
theorem dX2_fly_102 : decode cX2_fly 102 = .ok (.iadd, 1) := by decide +kernel
theorem dX2_fly_103 : decode cX2_fly 103 = .ok (.goto 19, 3) := by decide +kernel
theorem dX2_fly_106 : decode cX2_fly 106 = .ok (.iconst 4, 1) := by decide +kernel
theorem dX2_fly_107 : decode cX2_fly 107 = .ok (.iconst 2, 1) := by decide +kernel
theorem dX2_fly_108 : decode cX2_fly 108 = .ok (.aload_n 0, 1) := by decide +kernel
theorem dX2_fly_109 : decode cX2_fly 109 = .ok (.getfield 9, 3) := by decide +kernel
theorem dX2_fly_112 : decode cX2_fly 112 = .ok (.bipush 9, 2) := by decide +kernel
theorem dX2_fly_114 : decode cX2_fly 114 = .ok (.iaload, 1) := by decide +kernel
theorem dX2_fly_115 : decode cX2_fly 115 = .ok (.imul, 1) := by decide +kernel
theorem dX2_fly_116 : decode cX2_fly 116 = .ok (.iadd, 1) := by decide +kernel
theorem dX2_fly_117 : decode cX2_fly 117 = .ok (.aload_n 0, 1) := by decide +kernel
theorem dX2_fly_118 : decode cX2_fly 118 = .ok (.getfield 55, 3) := by decide +kernel
theorem dX2_fly_121 : decode cX2_fly 121 = .ok (.iadd, 1) := by decide +kernel
theorem dX2_fly_122 : decode cX2_fly 122 = .ok (.istore 5, 2) := by decide +kernel
theorem dX2_fly_124 : decode cX2_fly 124 = .ok (.iconst 0, 1) := by decide +kernel
theorem dX2_fly_125 : decode cX2_fly 125 = .ok (.istore 6, 2) := by decide +kernel
theorem dX2_fly_127 : decode cX2_fly 127 = .ok (.sipush 150, 3) := by decide +kernel
theorem dX2_fly_130 : decode cX2_fly 130 = .ok (.istore 7, 2) := by decide +kernel
theorem dX2_fly_132 : decode cX2_fly 132 = .ok (.aload_n 0, 1) := by decide +kernel
theorem dX2_fly_133 : decode cX2_fly 133 = .ok (.iload 7, 2) := by decide +kernel
theorem dX2_fly_135 : decode cX2_fly 135 = .ok (.putfield 67, 3) := by decide +kernel
theorem dX2_fly_138 : decode cX2_fly 138 = .ok (.aload_n 0, 1) := by decide +kernel
theorem dX2_fly_139 : decode cX2_fly 139 = .ok (.iconst 0, 1) := by decide +kernel
theorem dX2_fly_140 : decode cX2_fly 140 = .ok (.putfield 70, 3) := by decide +kernel
theorem dX2_fly_143 : decode cX2_fly 143 = .ok (.aload_n 0, 1) := by decide +kernel
theorem dX2_fly_144 : decode cX2_fly 144 = .ok (.iconst 0, 1) := by decide +kernel
theorem dX2_fly_145 : decode cX2_fly 145 = .ok (.putfield 73, 3) := by decide +kernel
theorem dX2_fly_148 : decode cX2_fly 148 = .ok (.iload 7, 2) := by decide +kernel
theorem dX2_fly_150 : decode cX2_fly 150 = .ok (.ifCond .le 87, 3) := by decide +kernel
theorem dX2_fly_153 : decode cX2_fly 153 = .ok (.aload_n 0, 1) := by decide +kernel
theorem dX2_fly_154 : decode cX2_fly 154 = .ok (.getfield 70, 3) := by decide +kernel
theorem dX2_fly_157 : decode cX2_fly 157 = .ok (.ldc 76, 2) := by decide +kernel
theorem dX2_fly_159 : decode cX2_fly 159 = .ok (.if_icmp .ge 78, 3) := by decide +kernel
theorem dX2_fly_162 : decode cX2_fly 162 = .ok (.aload_n 0, 1) := by decide +kernel
theorem dX2_fly_163 : decode cX2_fly 163 = .ok (.dup, 1) := by decide +kernel
theorem dX2_fly_164 : decode cX2_fly 164 = .ok (.getfield 70, 3) := by decide +kernel
theorem dX2_fly_167 : decode cX2_fly 167 = .ok (.iconst 1, 1) := by decide +kernel
theorem dX2_fly_168 : decode cX2_fly 168 = .ok (.iadd, 1) := by decide +kernel
theorem dX2_fly_169 : decode cX2_fly 169 = .ok (.putfield 70, 3) := by decide +kernel
theorem dX2_fly_172 : decode cX2_fly 172 = .ok (.iconst 0, 1) := by decide +kernel
theorem dX2_fly_173 : decode cX2_fly 173 = .ok (.iload_n 3, 1) := by decide +kernel
theorem dX2_fly_174 : decode cX2_fly 174 = .ok (.iload_n 3, 1) := by decide +kernel
theorem dX2_fly_175 : decode cX2_fly 175 = .ok (.iload 5, 2) := by decide +kernel
theorem dX2_fly_177 : decode cX2_fly 177 = .ok (.imul, 1) := by decide +kernel
theorem dX2_fly_178 : decode cX2_fly 178 = .ok (.sipush 1000, 3) := by decide +kernel
theorem dX2_fly_181 : decode cX2_fly 181 = .ok (.idiv, 1) := by decide +kernel
theorem dX2_fly_182 : decode cX2_fly 182 = .ok (.isub, 1) := by decide +kernel
theorem dX2_fly_183 : decode cX2_fly 183 = .ok (.invokestatic 34, 3) := by decide +kernel
theorem dX2_fly_186 : decode cX2_fly 186 = .ok (.istore_n 3, 1) := by decide +kernel
theorem dX2_fly_187 : decode cX2_fly 187 = .ok (.iinc 4 (-10), 3) := by decide +kernel
theorem dX2_fly_190 : decode cX2_fly 190 = .ok (.iload 6, 2) := by decide +kernel
theorem dX2_fly_192 : decode cX2_fly 192 = .ok (.iload_n 3, 1) := by decide +kernel
theorem dX2_fly_193 : decode cX2_fly 193 = .ok (.iadd, 1) := by decide +kernel
theorem dX2_fly_194 : decode cX2_fly 194 = .ok (.istore 6, 2) := by decide +kernel
theorem dX2_fly_196 : decode cX2_fly 196 = .ok (.iload 7, 2) := by decide +kernel
theorem dX2_fly_198 : decode cX2_fly 198 = .ok (.iload 4, 2) := by decide +kernel
theorem dX2_fly_200 : decode cX2_fly 200 = .ok (.iadd, 1) := by decide +kernel
theorem dX2_fly_201 : decode cX2_fly 201 = .ok (.istore 7, 2) := by decide +kernel
theorem dX2_fly_203 : decode cX2_fly 203 = .ok (.aload_n 0, 1) := by decide +kernel
theorem dX2_fly_204 : decode cX2_fly 204 = .ok (.aload_n 0, 1) := by decide +kernel
theorem dX2_fly_205 : decode cX2_fly 205 = .ok (.getfield 67, 3) := by decide +kernel
theorem dX2_fly_208 : decode cX2_fly 208 = .ok (.iload 7, 2) := by decide +kernel
theorem dX2_fly_210 : decode cX2_fly 210 = .ok (.invokestatic 34, 3) := by decide +kernel
theorem dX2_fly_213 : decode cX2_fly 213 = .ok (.putfield 67, 3) := by decide +kernel
theorem dX2_fly_216 : decode cX2_fly 216 = .ok (.iload 6, 2) := by decide +kernel
theorem dX2_fly_218 : decode cX2_fly 218 = .ok (.iload_n 1, 1) := by decide +kernel
theorem dX2_fly_219 : decode cX2_fly 219 = .ok (.if_icmp .lt (-71), 3) := by decide +kernel
theorem dX2_fly_222 : decode cX2_fly 222 = .ok (.iload_n 2, 1) := by decide +kernel
theorem dX2_fly_223 : decode cX2_fly 223 = .ok (.ifCond .ne (-75), 3) := by decide +kernel
theorem dX2_fly_226 : decode cX2_fly 226 = .ok (.iconst 1, 1) := by decide +kernel
theorem dX2_fly_227 : decode cX2_fly 227 = .ok (.istore_n 2, 1) := by decide +kernel
theorem dX2_fly_228 : decode cX2_fly 228 = .ok (.aload_n 0, 1) := by decide +kernel
theorem dX2_fly_229 : decode cX2_fly 229 = .ok (.iload 7, 2) := by decide +kernel
theorem dX2_fly_231 : decode cX2_fly 231 = .ok (.putfield 73, 3) := by decide +kernel
theorem dX2_fly_234 : decode cX2_fly 234 = .ok (.goto (-86), 3) := by decide +kernel
theorem dX2_fly_237 : decode cX2_fly 237 = .ok (.aload_n 0, 1) := by decide +kernel
theorem dX2_fly_238 : decode cX2_fly 238 = .ok (.iload 6, 2) := by decide +kernel
theorem dX2_fly_240 : decode cX2_fly 240 = .ok (.putfield 77, 3) := by decide +kernel
theorem dX2_fly_243 : decode cX2_fly 243 = .ok (.return_, 1) := by decide +kernel
theorem dX2_outcome_0 : decode cX2_outcome 0 = .ok (.iload_n 1, 1) := by decide +kernel
theorem dX2_outcome_1 : decode cX2_outcome 1 = .ok (.tableswitch 60 0 4 #[35, 40, 45, 50, 55], 35) := by decide +kernel
theorem dX2_outcome_36 : decode cX2_outcome 36 = .ok (.aload_n 0, 1) := by decide +kernel
theorem dX2_outcome_37 : decode cX2_outcome 37 = .ok (.getfield 77, 3) := by decide +kernel
theorem dX2_outcome_40 : decode cX2_outcome 40 = .ok (.ireturn, 1) := by decide +kernel
theorem dX2_outcome_41 : decode cX2_outcome 41 = .ok (.aload_n 0, 1) := by decide +kernel
theorem dX2_outcome_42 : decode cX2_outcome 42 = .ok (.getfield 52, 3) := by decide +kernel
theorem dX2_outcome_45 : decode cX2_outcome 45 = .ok (.ireturn, 1) := by decide +kernel
theorem dX2_outcome_46 : decode cX2_outcome 46 = .ok (.aload_n 0, 1) := by decide +kernel
theorem dX2_outcome_47 : decode cX2_outcome 47 = .ok (.getfield 49, 3) := by decide +kernel
theorem dX2_outcome_50 : decode cX2_outcome 50 = .ok (.ireturn, 1) := by decide +kernel
theorem dX2_outcome_51 : decode cX2_outcome 51 = .ok (.aload_n 0, 1) := by decide +kernel
theorem dX2_outcome_52 : decode cX2_outcome 52 = .ok (.getfield 55, 3) := by decide +kernel
theorem dX2_outcome_55 : decode cX2_outcome 55 = .ok (.ireturn, 1) := by decide +kernel
theorem dX2_outcome_56 : decode cX2_outcome 56 = .ok (.aload_n 0, 1) := by decide +kernel
theorem dX2_outcome_57 : decode cX2_outcome 57 = .ok (.getfield 67, 3) := by decide +kernel
theorem dX2_outcome_60 : decode cX2_outcome 60 = .ok (.ireturn, 1) := by decide +kernel
theorem dX2_outcome_61 : decode cX2_outcome 61 = .ok (.aload_n 0, 1) := by decide +kernel
theorem dX2_outcome_62 : decode cX2_outcome 62 = .ok (.getfield 70, 3) := by decide +kernel
theorem dX2_outcome_65 : decode cX2_outcome 65 = .ok (.ireturn, 1) := by decide +kernel
theorem dX3_init_0 : decode cX3_init 0 = .ok (.aload_n 0, 1) := by decide +kernel
theorem dX3_init_1 : decode cX3_init 1 = .ok (.invokespecial 1, 3) := by decide +kernel
theorem dX3_init_4 : decode cX3_init 4 = .ok (.aload_n 0, 1) := by decide +kernel
theorem dX3_init_5 : decode cX3_init 5 = .ok (.bipush 6, 2) := by decide +kernel
theorem dX3_init_7 : decode cX3_init 7 = .ok (.newarray .int, 2) := by decide +kernel
theorem dX3_init_9 : decode cX3_init 9 = .ok (.putfield 7, 3) := by decide +kernel
theorem dX3_init_12 : decode cX3_init 12 = .ok (.return_, 1) := by decide +kernel
theorem dX3_digit_0 : decode cX3_digit 0 = .ok (.iload_n 1, 1) := by decide +kernel
theorem dX3_digit_1 : decode cX3_digit 1 = .ok (.ifCond .lt 29, 3) := by decide +kernel
theorem dX3_digit_4 : decode cX3_digit 4 = .ok (.iload_n 1, 1) := by decide +kernel
theorem dX3_digit_5 : decode cX3_digit 5 = .ok (.aload_n 0, 1) := by decide +kernel
theorem dX3_digit_6 : decode cX3_digit 6 = .ok (.getfield 13, 3) := by decide +kernel
theorem dX3_digit_9 : decode cX3_digit 9 = .ok (.if_icmp .ge 21, 3) := by decide +kernel
theorem dX3_digit_12 : decode cX3_digit 12 = .ok (.iload_n 1, 1) := by decide +kernel
theorem dX3_digit_13 : decode cX3_digit 13 = .ok (.aload_n 0, 1) := by decide +kernel
theorem dX3_digit_14 : decode cX3_digit 14 = .ok (.getfield 7, 3) := by decide +kernel
theorem dX3_digit_17 : decode cX3_digit 17 = .ok (.arraylength, 1) := by decide +kernel
theorem dX3_digit_18 : decode cX3_digit 18 = .ok (.if_icmp .ge 12, 3) := by decide +kernel
theorem dX3_digit_21 : decode cX3_digit 21 = .ok (.aload_n 0, 1) := by decide +kernel
theorem dX3_digit_22 : decode cX3_digit 22 = .ok (.getfield 7, 3) := by decide +kernel
theorem dX3_digit_25 : decode cX3_digit 25 = .ok (.iload_n 1, 1) := by decide +kernel
theorem dX3_digit_26 : decode cX3_digit 26 = .ok (.iaload, 1) := by decide +kernel
theorem dX3_digit_27 : decode cX3_digit 27 = .ok (.goto 4, 3) := by decide +kernel
theorem dX3_digit_30 : decode cX3_digit 30 = .ok (.iconst 0, 1) := by decide +kernel
theorem dX3_digit_31 : decode cX3_digit 31 = .ok (.ireturn, 1) := by decide +kernel
theorem dX3_set_0 : decode cX3_set 0 = .ok (.aload_n 0, 1) := by decide +kernel
theorem dX3_set_1 : decode cX3_set 1 = .ok (.iconst 0, 1) := by decide +kernel
theorem dX3_set_2 : decode cX3_set 2 = .ok (.putfield 13, 3) := by decide +kernel
theorem dX3_set_5 : decode cX3_set 5 = .ok (.aload_n 0, 1) := by decide +kernel
theorem dX3_set_6 : decode cX3_set 6 = .ok (.lload_n 1, 1) := by decide +kernel
theorem dX3_set_7 : decode cX3_set 7 = .ok (.invokevirtual 17, 3) := by decide +kernel
theorem dX3_set_10 : decode cX3_set 10 = .ok (.return_, 1) := by decide +kernel
theorem dX3_pushUp_0 : decode cX3_pushUp 0 = .ok (.lload_n 1, 1) := by decide +kernel
theorem dX3_pushUp_1 : decode cX3_pushUp 1 = .ok (.lstore_n 3, 1) := by decide +kernel
theorem dX3_pushUp_2 : decode cX3_pushUp 2 = .ok (.lload_n 3, 1) := by decide +kernel
theorem dX3_pushUp_3 : decode cX3_pushUp 3 = .ok (.lconst 0, 1) := by decide +kernel
theorem dX3_pushUp_4 : decode cX3_pushUp 4 = .ok (.lcmp, 1) := by decide +kernel
theorem dX3_pushUp_5 : decode cX3_pushUp 5 = .ok (.ifCond .le 48, 3) := by decide +kernel
theorem dX3_pushUp_8 : decode cX3_pushUp 8 = .ok (.aload_n 0, 1) := by decide +kernel
theorem dX3_pushUp_9 : decode cX3_pushUp 9 = .ok (.getfield 13, 3) := by decide +kernel
theorem dX3_pushUp_12 : decode cX3_pushUp 12 = .ok (.aload_n 0, 1) := by decide +kernel
theorem dX3_pushUp_13 : decode cX3_pushUp 13 = .ok (.getfield 7, 3) := by decide +kernel
theorem dX3_pushUp_16 : decode cX3_pushUp 16 = .ok (.arraylength, 1) := by decide +kernel
theorem dX3_pushUp_17 : decode cX3_pushUp 17 = .ok (.if_icmp .ge 36, 3) := by decide +kernel
theorem dX3_pushUp_20 : decode cX3_pushUp 20 = .ok (.aload_n 0, 1) := by decide +kernel
theorem dX3_pushUp_21 : decode cX3_pushUp 21 = .ok (.getfield 7, 3) := by decide +kernel
theorem dX3_pushUp_24 : decode cX3_pushUp 24 = .ok (.aload_n 0, 1) := by decide +kernel
theorem dX3_pushUp_25 : decode cX3_pushUp 25 = .ok (.getfield 13, 3) := by decide +kernel
theorem dX3_pushUp_28 : decode cX3_pushUp 28 = .ok (.lload_n 3, 1) := by decide +kernel
theorem dX3_pushUp_29 : decode cX3_pushUp 29 = .ok (.ldc2_w 21, 3) := by decide +kernel
theorem dX3_pushUp_32 : decode cX3_pushUp 32 = .ok (.land, 1) := by decide +kernel
theorem dX3_pushUp_33 : decode cX3_pushUp 33 = .ok (.l2i, 1) := by decide +kernel
theorem dX3_pushUp_34 : decode cX3_pushUp 34 = .ok (.iastore, 1) := by decide +kernel
theorem dX3_pushUp_35 : decode cX3_pushUp 35 = .ok (.lload_n 3, 1) := by decide +kernel
theorem dX3_pushUp_36 : decode cX3_pushUp 36 = .ok (.bipush 30, 2) := by decide +kernel
theorem dX3_pushUp_38 : decode cX3_pushUp 38 = .ok (.lshr, 1) := by decide +kernel
theorem dX3_pushUp_39 : decode cX3_pushUp 39 = .ok (.lstore_n 3, 1) := by decide +kernel
theorem dX3_pushUp_40 : decode cX3_pushUp 40 = .ok (.aload_n 0, 1) := by decide +kernel
theorem dX3_pushUp_41 : decode cX3_pushUp 41 = .ok (.dup, 1) := by decide +kernel
theorem dX3_pushUp_42 : decode cX3_pushUp 42 = .ok (.getfield 13, 3) := by decide +kernel
theorem dX3_pushUp_45 : decode cX3_pushUp 45 = .ok (.iconst 1, 1) := by decide +kernel
theorem dX3_pushUp_46 : decode cX3_pushUp 46 = .ok (.iadd, 1) := by decide +kernel
theorem dX3_pushUp_47 : decode cX3_pushUp 47 = .ok (.putfield 13, 3) := by decide +kernel
theorem dX3_pushUp_50 : decode cX3_pushUp 50 = .ok (.goto (-48), 3) := by decide +kernel
theorem dX3_pushUp_53 : decode cX3_pushUp 53 = .ok (.return_, 1) := by decide +kernel
theorem dX3_copyFrom_0 : decode cX3_copyFrom 0 = .ok (.aload_n 1, 1) := by decide +kernel
theorem dX3_copyFrom_1 : decode cX3_copyFrom 1 = .ok (.getfield 7, 3) := by decide +kernel
theorem dX3_copyFrom_4 : decode cX3_copyFrom 4 = .ok (.iconst 0, 1) := by decide +kernel
theorem dX3_copyFrom_5 : decode cX3_copyFrom 5 = .ok (.aload_n 0, 1) := by decide +kernel
theorem dX3_copyFrom_6 : decode cX3_copyFrom 6 = .ok (.getfield 7, 3) := by decide +kernel
theorem dX3_copyFrom_9 : decode cX3_copyFrom 9 = .ok (.iconst 0, 1) := by decide +kernel
theorem dX3_copyFrom_10 : decode cX3_copyFrom 10 = .ok (.aload_n 0, 1) := by decide +kernel
theorem dX3_copyFrom_11 : decode cX3_copyFrom 11 = .ok (.getfield 7, 3) := by decide +kernel
theorem dX3_copyFrom_14 : decode cX3_copyFrom 14 = .ok (.arraylength, 1) := by decide +kernel
theorem dX3_copyFrom_15 : decode cX3_copyFrom 15 = .ok (.invokestatic 23, 3) := by decide +kernel
theorem dX3_copyFrom_18 : decode cX3_copyFrom 18 = .ok (.aload_n 0, 1) := by decide +kernel
theorem dX3_copyFrom_19 : decode cX3_copyFrom 19 = .ok (.aload_n 1, 1) := by decide +kernel
theorem dX3_copyFrom_20 : decode cX3_copyFrom 20 = .ok (.getfield 13, 3) := by decide +kernel
theorem dX3_copyFrom_23 : decode cX3_copyFrom 23 = .ok (.putfield 13, 3) := by decide +kernel
theorem dX3_copyFrom_26 : decode cX3_copyFrom 26 = .ok (.return_, 1) := by decide +kernel
theorem dX3_multiply_0 : decode cX3_multiply 0 = .ok (.lconst 0, 1) := by decide +kernel
theorem dX3_multiply_1 : decode cX3_multiply 1 = .ok (.lstore_n 2, 1) := by decide +kernel
theorem dX3_multiply_2 : decode cX3_multiply 2 = .ok (.iconst 0, 1) := by decide +kernel
theorem dX3_multiply_3 : decode cX3_multiply 3 = .ok (.istore 4, 2) := by decide +kernel
theorem dX3_multiply_5 : decode cX3_multiply 5 = .ok (.iload 4, 2) := by decide +kernel
theorem dX3_multiply_7 : decode cX3_multiply 7 = .ok (.aload_n 0, 1) := by decide +kernel
theorem dX3_multiply_8 : decode cX3_multiply 8 = .ok (.getfield 13, 3) := by decide +kernel
theorem dX3_multiply_11 : decode cX3_multiply 11 = .ok (.if_icmp .ge 51, 3) := by decide +kernel
theorem dX3_multiply_14 : decode cX3_multiply 14 = .ok (.iload 4, 2) := by decide +kernel
theorem dX3_multiply_16 : decode cX3_multiply 16 = .ok (.aload_n 0, 1) := by decide +kernel
theorem dX3_multiply_17 : decode cX3_multiply 17 = .ok (.getfield 7, 3) := by decide +kernel
theorem dX3_multiply_20 : decode cX3_multiply 20 = .ok (.arraylength, 1) := by decide +kernel
theorem dX3_multiply_21 : decode cX3_multiply 21 = .ok (.if_icmp .ge 41, 3) := by decide +kernel
theorem dX3_multiply_24 : decode cX3_multiply 24 = .ok (.lload_n 2, 1) := by decide +kernel
theorem dX3_multiply_25 : decode cX3_multiply 25 = .ok (.aload_n 0, 1) := by decide +kernel
theorem dX3_multiply_26 : decode cX3_multiply 26 = .ok (.getfield 7, 3) := by decide +kernel
theorem dX3_multiply_29 : decode cX3_multiply 29 = .ok (.iload 4, 2) := by decide +kernel
theorem dX3_multiply_31 : decode cX3_multiply 31 = .ok (.iaload, 1) := by decide +kernel
theorem dX3_multiply_32 : decode cX3_multiply 32 = .ok (.i2l, 1) := by decide +kernel
theorem dX3_multiply_33 : decode cX3_multiply 33 = .ok (.iload_n 1, 1) := by decide +kernel
theorem dX3_multiply_34 : decode cX3_multiply 34 = .ok (.i2l, 1) := by decide +kernel
theorem dX3_multiply_35 : decode cX3_multiply 35 = .ok (.lmul, 1) := by decide +kernel
theorem dX3_multiply_36 : decode cX3_multiply 36 = .ok (.ladd, 1) := by decide +kernel
theorem dX3_multiply_37 : decode cX3_multiply 37 = .ok (.lstore_n 2, 1) := by decide +kernel
theorem dX3_multiply_38 : decode cX3_multiply 38 = .ok (.aload_n 0, 1) := by decide +kernel
theorem dX3_multiply_39 : decode cX3_multiply 39 = .ok (.getfield 7, 3) := by decide +kernel
theorem dX3_multiply_42 : decode cX3_multiply 42 = .ok (.iload 4, 2) := by decide +kernel
theorem dX3_multiply_44 : decode cX3_multiply 44 = .ok (.lload_n 2, 1) := by decide +kernel
theorem dX3_multiply_45 : decode cX3_multiply 45 = .ok (.ldc2_w 21, 3) := by decide +kernel
theorem dX3_multiply_48 : decode cX3_multiply 48 = .ok (.land, 1) := by decide +kernel
theorem dX3_multiply_49 : decode cX3_multiply 49 = .ok (.l2i, 1) := by decide +kernel
theorem dX3_multiply_50 : decode cX3_multiply 50 = .ok (.iastore, 1) := by decide +kernel
theorem dX3_multiply_51 : decode cX3_multiply 51 = .ok (.lload_n 2, 1) := by decide +kernel
theorem dX3_multiply_52 : decode cX3_multiply 52 = .ok (.bipush 30, 2) := by decide +kernel
theorem dX3_multiply_54 : decode cX3_multiply 54 = .ok (.lshr, 1) := by decide +kernel
theorem dX3_multiply_55 : decode cX3_multiply 55 = .ok (.lstore_n 2, 1) := by decide +kernel
theorem dX3_multiply_56 : decode cX3_multiply 56 = .ok (.iinc 4 1, 3) := by decide +kernel
theorem dX3_multiply_59 : decode cX3_multiply 59 = .ok (.goto (-54), 3) := by decide +kernel
theorem dX3_multiply_62 : decode cX3_multiply 62 = .ok (.aload_n 0, 1) := by decide +kernel
theorem dX3_multiply_63 : decode cX3_multiply 63 = .ok (.lload_n 2, 1) := by decide +kernel
theorem dX3_multiply_64 : decode cX3_multiply 64 = .ok (.invokevirtual 17, 3) := by decide +kernel
theorem dX3_multiply_67 : decode cX3_multiply 67 = .ok (.aload_n 0, 1) := by decide +kernel
theorem dX3_multiply_68 : decode cX3_multiply 68 = .ok (.invokevirtual 29, 3) := by decide +kernel
theorem dX3_multiply_71 : decode cX3_multiply 71 = .ok (.return_, 1) := by decide +kernel
theorem dX3_add_0 : decode cX3_add 0 = .ok (.lconst 0, 1) := by decide +kernel
theorem dX3_add_1 : decode cX3_add 1 = .ok (.lstore_n 2, 1) := by decide +kernel
theorem dX3_add_2 : decode cX3_add 2 = .ok (.aload_n 0, 1) := by decide +kernel
theorem dX3_add_3 : decode cX3_add 3 = .ok (.getfield 13, 3) := by decide +kernel
theorem dX3_add_6 : decode cX3_add 6 = .ok (.aload_n 1, 1) := by decide +kernel
theorem dX3_add_7 : decode cX3_add 7 = .ok (.getfield 13, 3) := by decide +kernel
theorem dX3_add_10 : decode cX3_add 10 = .ok (.invokestatic 32, 3) := by decide +kernel
theorem dX3_add_13 : decode cX3_add 13 = .ok (.istore 4, 2) := by decide +kernel
theorem dX3_add_15 : decode cX3_add 15 = .ok (.iconst 0, 1) := by decide +kernel
theorem dX3_add_16 : decode cX3_add 16 = .ok (.istore 5, 2) := by decide +kernel
theorem dX3_add_18 : decode cX3_add 18 = .ok (.iload 5, 2) := by decide +kernel
theorem dX3_add_20 : decode cX3_add 20 = .ok (.iload 4, 2) := by decide +kernel
theorem dX3_add_22 : decode cX3_add 22 = .ok (.if_icmp .ge 55, 3) := by decide +kernel
theorem dX3_add_25 : decode cX3_add 25 = .ok (.iload 5, 2) := by decide +kernel
theorem dX3_add_27 : decode cX3_add 27 = .ok (.aload_n 0, 1) := by decide +kernel
theorem dX3_add_28 : decode cX3_add 28 = .ok (.getfield 7, 3) := by decide +kernel
theorem dX3_add_31 : decode cX3_add 31 = .ok (.arraylength, 1) := by decide +kernel
theorem dX3_add_32 : decode cX3_add 32 = .ok (.if_icmp .ge 45, 3) := by decide +kernel
theorem dX3_add_35 : decode cX3_add 35 = .ok (.lload_n 2, 1) := by decide +kernel
theorem dX3_add_36 : decode cX3_add 36 = .ok (.aload_n 0, 1) := by decide +kernel
theorem dX3_add_37 : decode cX3_add 37 = .ok (.iload 5, 2) := by decide +kernel
theorem dX3_add_39 : decode cX3_add 39 = .ok (.invokevirtual 38, 3) := by decide +kernel
theorem dX3_add_42 : decode cX3_add 42 = .ok (.i2l, 1) := by decide +kernel
theorem dX3_add_43 : decode cX3_add 43 = .ok (.aload_n 1, 1) := by decide +kernel
theorem dX3_add_44 : decode cX3_add 44 = .ok (.iload 5, 2) := by decide +kernel
theorem dX3_add_46 : decode cX3_add 46 = .ok (.invokevirtual 38, 3) := by decide +kernel
theorem dX3_add_49 : decode cX3_add 49 = .ok (.i2l, 1) := by decide +kernel
theorem dX3_add_50 : decode cX3_add 50 = .ok (.ladd, 1) := by decide +kernel
theorem dX3_add_51 : decode cX3_add 51 = .ok (.ladd, 1) := by decide +kernel
theorem dX3_add_52 : decode cX3_add 52 = .ok (.lstore_n 2, 1) := by decide +kernel
theorem dX3_add_53 : decode cX3_add 53 = .ok (.aload_n 0, 1) := by decide +kernel
theorem dX3_add_54 : decode cX3_add 54 = .ok (.getfield 7, 3) := by decide +kernel
theorem dX3_add_57 : decode cX3_add 57 = .ok (.iload 5, 2) := by decide +kernel
theorem dX3_add_59 : decode cX3_add 59 = .ok (.lload_n 2, 1) := by decide +kernel
theorem dX3_add_60 : decode cX3_add 60 = .ok (.ldc2_w 21, 3) := by decide +kernel
theorem dX3_add_63 : decode cX3_add 63 = .ok (.land, 1) := by decide +kernel
theorem dX3_add_64 : decode cX3_add 64 = .ok (.l2i, 1) := by decide +kernel
theorem dX3_add_65 : decode cX3_add 65 = .ok (.iastore, 1) := by decide +kernel
theorem dX3_add_66 : decode cX3_add 66 = .ok (.lload_n 2, 1) := by decide +kernel
theorem dX3_add_67 : decode cX3_add 67 = .ok (.bipush 30, 2) := by decide +kernel
theorem dX3_add_69 : decode cX3_add 69 = .ok (.lshr, 1) := by decide +kernel
theorem dX3_add_70 : decode cX3_add 70 = .ok (.lstore_n 2, 1) := by decide +kernel
theorem dX3_add_71 : decode cX3_add 71 = .ok (.iinc 5 1, 3) := by decide +kernel
theorem dX3_add_74 : decode cX3_add 74 = .ok (.goto (-56), 3) := by decide +kernel
theorem dX3_add_77 : decode cX3_add 77 = .ok (.aload_n 0, 1) := by decide +kernel
theorem dX3_add_78 : decode cX3_add 78 = .ok (.iload 4, 2) := by decide +kernel
theorem dX3_add_80 : decode cX3_add 80 = .ok (.putfield 13, 3) := by decide +kernel
theorem dX3_add_83 : decode cX3_add 83 = .ok (.aload_n 0, 1) := by decide +kernel
theorem dX3_add_84 : decode cX3_add 84 = .ok (.lload_n 2, 1) := by decide +kernel
theorem dX3_add_85 : decode cX3_add 85 = .ok (.invokevirtual 17, 3) := by decide +kernel
theorem dX3_add_88 : decode cX3_add 88 = .ok (.return_, 1) := by decide +kernel
theorem dX3_remainder_0 : decode cX3_remainder 0 = .ok (.lconst 0, 1) := by decide +kernel
theorem dX3_remainder_1 : decode cX3_remainder 1 = .ok (.lstore_n 2, 1) := by decide +kernel
theorem dX3_remainder_2 : decode cX3_remainder 2 = .ok (.aload_n 0, 1) := by decide +kernel
theorem dX3_remainder_3 : decode cX3_remainder 3 = .ok (.getfield 13, 3) := by decide +kernel
theorem dX3_remainder_6 : decode cX3_remainder 6 = .ok (.iconst 1, 1) := by decide +kernel
theorem dX3_remainder_7 : decode cX3_remainder 7 = .ok (.isub, 1) := by decide +kernel
theorem dX3_remainder_8 : decode cX3_remainder 8 = .ok (.istore 4, 2) := by decide +kernel
theorem dX3_remainder_10 : decode cX3_remainder 10 = .ok (.iload 4, 2) := by decide +kernel
theorem dX3_remainder_12 : decode cX3_remainder 12 = .ok (.ifCond .lt 29, 3) := by decide +kernel
theorem dX3_remainder_15 : decode cX3_remainder 15 = .ok (.iload_n 1, 1) := by decide +kernel
theorem dX3_remainder_16 : decode cX3_remainder 16 = .ok (.ifCond .le 25, 3) := by decide +kernel
theorem dX3_remainder_19 : decode cX3_remainder 19 = .ok (.lload_n 2, 1) := by decide +kernel
theorem dX3_remainder_20 : decode cX3_remainder 20 = .ok (.bipush 30, 2) := by decide +kernel
theorem dX3_remainder_22 : decode cX3_remainder 22 = .ok (.lshl, 1) := by decide +kernel
theorem dX3_remainder_23 : decode cX3_remainder 23 = .ok (.aload_n 0, 1) := by decide +kernel
theorem dX3_remainder_24 : decode cX3_remainder 24 = .ok (.iload 4, 2) := by decide +kernel
theorem dX3_remainder_26 : decode cX3_remainder 26 = .ok (.invokevirtual 38, 3) := by decide +kernel
theorem dX3_remainder_29 : decode cX3_remainder 29 = .ok (.i2l, 1) := by decide +kernel
theorem dX3_remainder_30 : decode cX3_remainder 30 = .ok (.ladd, 1) := by decide +kernel
theorem dX3_remainder_31 : decode cX3_remainder 31 = .ok (.iload_n 1, 1) := by decide +kernel
theorem dX3_remainder_32 : decode cX3_remainder 32 = .ok (.i2l, 1) := by decide +kernel
theorem dX3_remainder_33 : decode cX3_remainder 33 = .ok (.lrem, 1) := by decide +kernel
theorem dX3_remainder_34 : decode cX3_remainder 34 = .ok (.lstore_n 2, 1) := by decide +kernel
theorem dX3_remainder_35 : decode cX3_remainder 35 = .ok (.iinc 4 (-1), 3) := by decide +kernel
theorem dX3_remainder_38 : decode cX3_remainder 38 = .ok (.goto (-28), 3) := by decide +kernel
theorem dX3_remainder_41 : decode cX3_remainder 41 = .ok (.lload_n 2, 1) := by decide +kernel
theorem dX3_remainder_42 : decode cX3_remainder 42 = .ok (.l2i, 1) := by decide +kernel
theorem dX3_remainder_43 : decode cX3_remainder 43 = .ok (.ireturn, 1) := by decide +kernel
theorem dX3_divide_0 : decode cX3_divide 0 = .ok (.lconst 0, 1) := by decide +kernel
theorem dX3_divide_1 : decode cX3_divide 1 = .ok (.lstore_n 2, 1) := by decide +kernel
theorem dX3_divide_2 : decode cX3_divide 2 = .ok (.aload_n 0, 1) := by decide +kernel
theorem dX3_divide_3 : decode cX3_divide 3 = .ok (.getfield 13, 3) := by decide +kernel
theorem dX3_divide_6 : decode cX3_divide 6 = .ok (.aload_n 0, 1) := by decide +kernel
theorem dX3_divide_7 : decode cX3_divide 7 = .ok (.getfield 7, 3) := by decide +kernel
theorem dX3_divide_10 : decode cX3_divide 10 = .ok (.arraylength, 1) := by decide +kernel
theorem dX3_divide_11 : decode cX3_divide 11 = .ok (.invokestatic 42, 3) := by decide +kernel
theorem dX3_divide_14 : decode cX3_divide 14 = .ok (.iconst 1, 1) := by decide +kernel
theorem dX3_divide_15 : decode cX3_divide 15 = .ok (.isub, 1) := by decide +kernel
theorem dX3_divide_16 : decode cX3_divide 16 = .ok (.istore 4, 2) := by decide +kernel
theorem dX3_divide_18 : decode cX3_divide 18 = .ok (.iload 4, 2) := by decide +kernel
theorem dX3_divide_20 : decode cX3_divide 20 = .ok (.ifCond .lt 44, 3) := by decide +kernel
theorem dX3_divide_23 : decode cX3_divide 23 = .ok (.iload_n 1, 1) := by decide +kernel
theorem dX3_divide_24 : decode cX3_divide 24 = .ok (.ifCond .le 40, 3) := by decide +kernel
theorem dX3_divide_27 : decode cX3_divide 27 = .ok (.lload_n 2, 1) := by decide +kernel
theorem dX3_divide_28 : decode cX3_divide 28 = .ok (.bipush 30, 2) := by decide +kernel
theorem dX3_divide_30 : decode cX3_divide 30 = .ok (.lshl, 1) := by decide +kernel
theorem dX3_divide_31 : decode cX3_divide 31 = .ok (.aload_n 0, 1) := by decide +kernel
theorem dX3_divide_32 : decode cX3_divide 32 = .ok (.getfield 7, 3) := by decide +kernel
theorem dX3_divide_35 : decode cX3_divide 35 = .ok (.iload 4, 2) := by decide +kernel
theorem dX3_divide_37 : decode cX3_divide 37 = .ok (.iaload, 1) := by decide +kernel
theorem dX3_divide_38 : decode cX3_divide 38 = .ok (.i2l, 1) := by decide +kernel
theorem dX3_divide_39 : decode cX3_divide 39 = .ok (.ladd, 1) := by decide +kernel
theorem dX3_divide_40 : decode cX3_divide 40 = .ok (.lstore_n 2, 1) := by decide +kernel
theorem dX3_divide_41 : decode cX3_divide 41 = .ok (.aload_n 0, 1) := by decide +kernel
theorem dX3_divide_42 : decode cX3_divide 42 = .ok (.getfield 7, 3) := by decide +kernel
theorem dX3_divide_45 : decode cX3_divide 45 = .ok (.iload 4, 2) := by decide +kernel
theorem dX3_divide_47 : decode cX3_divide 47 = .ok (.lload_n 2, 1) := by decide +kernel
theorem dX3_divide_48 : decode cX3_divide 48 = .ok (.iload_n 1, 1) := by decide +kernel
theorem dX3_divide_49 : decode cX3_divide 49 = .ok (.i2l, 1) := by decide +kernel
theorem dX3_divide_50 : decode cX3_divide 50 = .ok (.ldiv, 1) := by decide +kernel
theorem dX3_divide_51 : decode cX3_divide 51 = .ok (.l2i, 1) := by decide +kernel
theorem dX3_divide_52 : decode cX3_divide 52 = .ok (.iastore, 1) := by decide +kernel
theorem dX3_divide_53 : decode cX3_divide 53 = .ok (.lload_n 2, 1) := by decide +kernel
theorem dX3_divide_54 : decode cX3_divide 54 = .ok (.iload_n 1, 1) := by decide +kernel
theorem dX3_divide_55 : decode cX3_divide 55 = .ok (.i2l, 1) := by decide +kernel
theorem dX3_divide_56 : decode cX3_divide 56 = .ok (.lrem, 1) := by decide +kernel
theorem dX3_divide_57 : decode cX3_divide 57 = .ok (.lstore_n 2, 1) := by decide +kernel
theorem dX3_divide_58 : decode cX3_divide 58 = .ok (.iinc 4 (-1), 3) := by decide +kernel
theorem dX3_divide_61 : decode cX3_divide 61 = .ok (.goto (-43), 3) := by decide +kernel
theorem dX3_divide_64 : decode cX3_divide 64 = .ok (.aload_n 0, 1) := by decide +kernel
theorem dX3_divide_65 : decode cX3_divide 65 = .ok (.invokevirtual 29, 3) := by decide +kernel
theorem dX3_divide_68 : decode cX3_divide 68 = .ok (.return_, 1) := by decide +kernel
theorem dX3_dropZeros_0 : decode cX3_dropZeros 0 = .ok (.aload_n 0, 1) := by decide +kernel
theorem dX3_dropZeros_1 : decode cX3_dropZeros 1 = .ok (.getfield 13, 3) := by decide +kernel
theorem dX3_dropZeros_4 : decode cX3_dropZeros 4 = .ok (.ifCond .le 29, 3) := by decide +kernel
theorem dX3_dropZeros_7 : decode cX3_dropZeros 7 = .ok (.aload_n 0, 1) := by decide +kernel
theorem dX3_dropZeros_8 : decode cX3_dropZeros 8 = .ok (.aload_n 0, 1) := by decide +kernel
theorem dX3_dropZeros_9 : decode cX3_dropZeros 9 = .ok (.getfield 13, 3) := by decide +kernel
theorem dX3_dropZeros_12 : decode cX3_dropZeros 12 = .ok (.iconst 1, 1) := by decide +kernel
theorem dX3_dropZeros_13 : decode cX3_dropZeros 13 = .ok (.isub, 1) := by decide +kernel
theorem dX3_dropZeros_14 : decode cX3_dropZeros 14 = .ok (.invokevirtual 38, 3) := by decide +kernel
theorem dX3_dropZeros_17 : decode cX3_dropZeros 17 = .ok (.ifCond .ne 16, 3) := by decide +kernel
theorem dX3_dropZeros_20 : decode cX3_dropZeros 20 = .ok (.aload_n 0, 1) := by decide +kernel
theorem dX3_dropZeros_21 : decode cX3_dropZeros 21 = .ok (.dup, 1) := by decide +kernel
theorem dX3_dropZeros_22 : decode cX3_dropZeros 22 = .ok (.getfield 13, 3) := by decide +kernel
theorem dX3_dropZeros_25 : decode cX3_dropZeros 25 = .ok (.iconst 1, 1) := by decide +kernel
theorem dX3_dropZeros_26 : decode cX3_dropZeros 26 = .ok (.isub, 1) := by decide +kernel
theorem dX3_dropZeros_27 : decode cX3_dropZeros 27 = .ok (.putfield 13, 3) := by decide +kernel
theorem dX3_dropZeros_30 : decode cX3_dropZeros 30 = .ok (.goto (-30), 3) := by decide +kernel
theorem dX3_dropZeros_33 : decode cX3_dropZeros 33 = .ok (.return_, 1) := by decide +kernel
theorem dX3_isAbove_0 : decode cX3_isAbove 0 = .ok (.aload_n 0, 1) := by decide +kernel
theorem dX3_isAbove_1 : decode cX3_isAbove 1 = .ok (.getfield 13, 3) := by decide +kernel
theorem dX3_isAbove_4 : decode cX3_isAbove 4 = .ok (.aload_n 1, 1) := by decide +kernel
theorem dX3_isAbove_5 : decode cX3_isAbove 5 = .ok (.getfield 13, 3) := by decide +kernel
theorem dX3_isAbove_8 : decode cX3_isAbove 8 = .ok (.invokestatic 32, 3) := by decide +kernel
theorem dX3_isAbove_11 : decode cX3_isAbove 11 = .ok (.iconst 1, 1) := by decide +kernel
theorem dX3_isAbove_12 : decode cX3_isAbove 12 = .ok (.isub, 1) := by decide +kernel
theorem dX3_isAbove_13 : decode cX3_isAbove 13 = .ok (.istore_n 2, 1) := by decide +kernel
theorem dX3_isAbove_14 : decode cX3_isAbove 14 = .ok (.iload_n 2, 1) := by decide +kernel
theorem dX3_isAbove_15 : decode cX3_isAbove 15 = .ok (.ifCond .lt 41, 3) := by decide +kernel
theorem dX3_isAbove_18 : decode cX3_isAbove 18 = .ok (.aload_n 0, 1) := by decide +kernel
theorem dX3_isAbove_19 : decode cX3_isAbove 19 = .ok (.iload_n 2, 1) := by decide +kernel
theorem dX3_isAbove_20 : decode cX3_isAbove 20 = .ok (.invokevirtual 38, 3) := by decide +kernel
theorem dX3_isAbove_23 : decode cX3_isAbove 23 = .ok (.aload_n 1, 1) := by decide +kernel
theorem dX3_isAbove_24 : decode cX3_isAbove 24 = .ok (.iload_n 2, 1) := by decide +kernel
theorem dX3_isAbove_25 : decode cX3_isAbove 25 = .ok (.invokevirtual 38, 3) := by decide +kernel
theorem dX3_isAbove_28 : decode cX3_isAbove 28 = .ok (.if_icmp .eq 22, 3) := by decide +kernel
theorem dX3_isAbove_31 : decode cX3_isAbove 31 = .ok (.aload_n 0, 1) := by decide +kernel
theorem dX3_isAbove_32 : decode cX3_isAbove 32 = .ok (.iload_n 2, 1) := by decide +kernel
theorem dX3_isAbove_33 : decode cX3_isAbove 33 = .ok (.invokevirtual 38, 3) := by decide +kernel
theorem dX3_isAbove_36 : decode cX3_isAbove 36 = .ok (.aload_n 1, 1) := by decide +kernel
theorem dX3_isAbove_37 : decode cX3_isAbove 37 = .ok (.iload_n 2, 1) := by decide +kernel
theorem dX3_isAbove_38 : decode cX3_isAbove 38 = .ok (.invokevirtual 38, 3) := by decide +kernel
theorem dX3_isAbove_41 : decode cX3_isAbove 41 = .ok (.if_icmp .le 7, 3) := by decide +kernel
theorem dX3_isAbove_44 : decode cX3_isAbove 44 = .ok (.iconst 1, 1) := by decide +kernel
theorem dX3_isAbove_45 : decode cX3_isAbove 45 = .ok (.goto 4, 3) := by decide +kernel
theorem dX3_isAbove_48 : decode cX3_isAbove 48 = .ok (.iconst 0, 1) := by decide +kernel
theorem dX3_isAbove_49 : decode cX3_isAbove 49 = .ok (.ireturn, 1) := by decide +kernel
theorem dX3_isAbove_50 : decode cX3_isAbove 50 = .ok (.iinc 2 (-1), 3) := by decide +kernel
theorem dX3_isAbove_53 : decode cX3_isAbove 53 = .ok (.goto (-39), 3) := by decide +kernel
theorem dX3_isAbove_56 : decode cX3_isAbove 56 = .ok (.iconst 0, 1) := by decide +kernel
theorem dX3_isAbove_57 : decode cX3_isAbove 57 = .ok (.ireturn, 1) := by decide +kernel
theorem dX4_init_0 : decode cX4_init 0 = .ok (.aload_n 0, 1) := by decide +kernel
theorem dX4_init_1 : decode cX4_init 1 = .ok (.invokespecial 3, 3) := by decide +kernel
theorem dX4_init_4 : decode cX4_init 4 = .ok (.aload_n 0, 1) := by decide +kernel
theorem dX4_init_5 : decode cX4_init 5 = .ok (.new 9, 3) := by decide +kernel
theorem dX4_init_8 : decode cX4_init 8 = .ok (.dup, 1) := by decide +kernel
theorem dX4_init_9 : decode cX4_init 9 = .ok (.invokespecial 11, 3) := by decide +kernel
theorem dX4_init_12 : decode cX4_init 12 = .ok (.putfield 12, 3) := by decide +kernel
theorem dX4_init_15 : decode cX4_init 15 = .ok (.aload_n 0, 1) := by decide +kernel
theorem dX4_init_16 : decode cX4_init 16 = .ok (.new 9, 3) := by decide +kernel
theorem dX4_init_19 : decode cX4_init 19 = .ok (.dup, 1) := by decide +kernel
theorem dX4_init_20 : decode cX4_init 20 = .ok (.invokespecial 11, 3) := by decide +kernel
theorem dX4_init_23 : decode cX4_init 23 = .ok (.putfield 18, 3) := by decide +kernel
theorem dX4_init_26 : decode cX4_init 26 = .ok (.aload_n 0, 1) := by decide +kernel
theorem dX4_init_27 : decode cX4_init 27 = .ok (.new 9, 3) := by decide +kernel
theorem dX4_init_30 : decode cX4_init 30 = .ok (.dup, 1) := by decide +kernel
theorem dX4_init_31 : decode cX4_init 31 = .ok (.invokespecial 11, 3) := by decide +kernel
theorem dX4_init_34 : decode cX4_init 34 = .ok (.putfield 21, 3) := by decide +kernel
theorem dX4_init_37 : decode cX4_init 37 = .ok (.return_, 1) := by decide +kernel
theorem dX4_weigh_0 : decode cX4_weigh 0 = .ok (.aload_n 1, 1) := by decide +kernel
theorem dX4_weigh_1 : decode cX4_weigh 1 = .ok (.getfield 24, 3) := by decide +kernel
theorem dX4_weigh_4 : decode cX4_weigh 4 = .ok (.iload_n 2, 1) := by decide +kernel
theorem dX4_weigh_5 : decode cX4_weigh 5 = .ok (.iconst 0, 1) := by decide +kernel
theorem dX4_weigh_6 : decode cX4_weigh 6 = .ok (.invokevirtual 30, 3) := by decide +kernel
theorem dX4_weigh_9 : decode cX4_weigh 9 = .ok (.istore_n 3, 1) := by decide +kernel
theorem dX4_weigh_10 : decode cX4_weigh 10 = .ok (.aload_n 1, 1) := by decide +kernel
theorem dX4_weigh_11 : decode cX4_weigh 11 = .ok (.getfield 36, 3) := by decide +kernel
theorem dX4_weigh_14 : decode cX4_weigh 14 = .ok (.iconst 0, 1) := by decide +kernel
theorem dX4_weigh_15 : decode cX4_weigh 15 = .ok (.iconst 0, 1) := by decide +kernel
theorem dX4_weigh_16 : decode cX4_weigh 16 = .ok (.invokevirtual 30, 3) := by decide +kernel
theorem dX4_weigh_19 : decode cX4_weigh 19 = .ok (.istore 4, 2) := by decide +kernel
theorem dX4_weigh_21 : decode cX4_weigh 21 = .ok (.aload_n 1, 1) := by decide +kernel
theorem dX4_weigh_22 : decode cX4_weigh 22 = .ok (.getfield 36, 3) := by decide +kernel
theorem dX4_weigh_25 : decode cX4_weigh 25 = .ok (.iconst 0, 1) := by decide +kernel
theorem dX4_weigh_26 : decode cX4_weigh 26 = .ok (.iconst 1, 1) := by decide +kernel
theorem dX4_weigh_27 : decode cX4_weigh 27 = .ok (.invokevirtual 30, 3) := by decide +kernel
theorem dX4_weigh_30 : decode cX4_weigh 30 = .ok (.istore 5, 2) := by decide +kernel
theorem dX4_weigh_32 : decode cX4_weigh 32 = .ok (.aload_n 0, 1) := by decide +kernel
theorem dX4_weigh_33 : decode cX4_weigh 33 = .ok (.getfield 12, 3) := by decide +kernel
theorem dX4_weigh_36 : decode cX4_weigh 36 = .ok (.aload_n 1, 1) := by decide +kernel
theorem dX4_weigh_37 : decode cX4_weigh 37 = .ok (.getfield 24, 3) := by decide +kernel
theorem dX4_weigh_40 : decode cX4_weigh 40 = .ok (.iload_n 2, 1) := by decide +kernel
theorem dX4_weigh_41 : decode cX4_weigh 41 = .ok (.iconst 1, 1) := by decide +kernel
theorem dX4_weigh_42 : decode cX4_weigh 42 = .ok (.invokevirtual 30, 3) := by decide +kernel
theorem dX4_weigh_45 : decode cX4_weigh 45 = .ok (.i2l, 1) := by decide +kernel
theorem dX4_weigh_46 : decode cX4_weigh 46 = .ok (.invokevirtual 39, 3) := by decide +kernel
theorem dX4_weigh_49 : decode cX4_weigh 49 = .ok (.iconst 0, 1) := by decide +kernel
theorem dX4_weigh_50 : decode cX4_weigh 50 = .ok (.istore 6, 2) := by decide +kernel
theorem dX4_weigh_52 : decode cX4_weigh 52 = .ok (.iload 6, 2) := by decide +kernel
theorem dX4_weigh_54 : decode cX4_weigh 54 = .ok (.iload 4, 2) := by decide +kernel
theorem dX4_weigh_56 : decode cX4_weigh 56 = .ok (.if_icmp .ge 31, 3) := by decide +kernel
theorem dX4_weigh_59 : decode cX4_weigh 59 = .ok (.aload_n 0, 1) := by decide +kernel
theorem dX4_weigh_60 : decode cX4_weigh 60 = .ok (.getfield 12, 3) := by decide +kernel
theorem dX4_weigh_63 : decode cX4_weigh 63 = .ok (.iload 6, 2) := by decide +kernel
theorem dX4_weigh_65 : decode cX4_weigh 65 = .ok (.iload 5, 2) := by decide +kernel
theorem dX4_weigh_67 : decode cX4_weigh 67 = .ok (.if_icmp .ge 7, 3) := by decide +kernel
theorem dX4_weigh_70 : decode cX4_weigh 70 = .ok (.iload_n 3, 1) := by decide +kernel
theorem dX4_weigh_71 : decode cX4_weigh 71 = .ok (.goto 7, 3) := by decide +kernel
theorem dX4_weigh_74 : decode cX4_weigh 74 = .ok (.bipush 20, 2) := by decide +kernel
theorem dX4_weigh_76 : decode cX4_weigh 76 = .ok (.iload_n 3, 1) := by decide +kernel
theorem dX4_weigh_77 : decode cX4_weigh 77 = .ok (.isub, 1) := by decide +kernel
theorem dX4_weigh_78 : decode cX4_weigh 78 = .ok (.invokevirtual 43, 3) := by decide +kernel
theorem dX4_weigh_81 : decode cX4_weigh 81 = .ok (.iinc 6 1, 3) := by decide +kernel
theorem dX4_weigh_84 : decode cX4_weigh 84 = .ok (.goto (-32), 3) := by decide +kernel
theorem dX4_weigh_87 : decode cX4_weigh 87 = .ok (.return_, 1) := by decide +kernel
theorem dX4_weighAll_0 : decode cX4_weighAll 0 = .ok (.aload_n 0, 1) := by decide +kernel
theorem dX4_weighAll_1 : decode cX4_weighAll 1 = .ok (.getfield 18, 3) := by decide +kernel
theorem dX4_weighAll_4 : decode cX4_weighAll 4 = .ok (.lconst 0, 1) := by decide +kernel
theorem dX4_weighAll_5 : decode cX4_weighAll 5 = .ok (.invokevirtual 39, 3) := by decide +kernel
theorem dX4_weighAll_8 : decode cX4_weighAll 8 = .ok (.aload_n 0, 1) := by decide +kernel
theorem dX4_weighAll_9 : decode cX4_weighAll 9 = .ok (.getfield 21, 3) := by decide +kernel
theorem dX4_weighAll_12 : decode cX4_weighAll 12 = .ok (.lconst 0, 1) := by decide +kernel
theorem dX4_weighAll_13 : decode cX4_weighAll 13 = .ok (.invokevirtual 39, 3) := by decide +kernel
theorem dX4_weighAll_16 : decode cX4_weighAll 16 = .ok (.aload_n 0, 1) := by decide +kernel
theorem dX4_weighAll_17 : decode cX4_weighAll 17 = .ok (.iconst 0, 1) := by decide +kernel
theorem dX4_weighAll_18 : decode cX4_weighAll 18 = .ok (.putfield 47, 3) := by decide +kernel
theorem dX4_weighAll_21 : decode cX4_weighAll 21 = .ok (.iconst 0, 1) := by decide +kernel
theorem dX4_weighAll_22 : decode cX4_weighAll 22 = .ok (.istore_n 2, 1) := by decide +kernel
theorem dX4_weighAll_23 : decode cX4_weighAll 23 = .ok (.iload_n 2, 1) := by decide +kernel
theorem dX4_weighAll_24 : decode cX4_weighAll 24 = .ok (.iconst 4, 1) := by decide +kernel
theorem dX4_weighAll_25 : decode cX4_weighAll 25 = .ok (.if_icmp .ge 56, 3) := by decide +kernel
theorem dX4_weighAll_28 : decode cX4_weighAll 28 = .ok (.aload_n 0, 1) := by decide +kernel
theorem dX4_weighAll_29 : decode cX4_weighAll 29 = .ok (.aload_n 1, 1) := by decide +kernel
theorem dX4_weighAll_30 : decode cX4_weighAll 30 = .ok (.iload_n 2, 1) := by decide +kernel
theorem dX4_weighAll_31 : decode cX4_weighAll 31 = .ok (.invokevirtual 51, 3) := by decide +kernel
theorem dX4_weighAll_34 : decode cX4_weighAll 34 = .ok (.aload_n 0, 1) := by decide +kernel
theorem dX4_weighAll_35 : decode cX4_weighAll 35 = .ok (.getfield 18, 3) := by decide +kernel
theorem dX4_weighAll_38 : decode cX4_weighAll 38 = .ok (.aload_n 0, 1) := by decide +kernel
theorem dX4_weighAll_39 : decode cX4_weighAll 39 = .ok (.getfield 12, 3) := by decide +kernel
theorem dX4_weighAll_42 : decode cX4_weighAll 42 = .ok (.invokevirtual 55, 3) := by decide +kernel
theorem dX4_weighAll_45 : decode cX4_weighAll 45 = .ok (.aload_n 0, 1) := by decide +kernel
theorem dX4_weighAll_46 : decode cX4_weighAll 46 = .ok (.getfield 12, 3) := by decide +kernel
theorem dX4_weighAll_49 : decode cX4_weighAll 49 = .ok (.aload_n 0, 1) := by decide +kernel
theorem dX4_weighAll_50 : decode cX4_weighAll 50 = .ok (.getfield 21, 3) := by decide +kernel
theorem dX4_weighAll_53 : decode cX4_weighAll 53 = .ok (.invokevirtual 59, 3) := by decide +kernel
theorem dX4_weighAll_56 : decode cX4_weighAll 56 = .ok (.ifCond .eq 19, 3) := by decide +kernel
theorem dX4_weighAll_59 : decode cX4_weighAll 59 = .ok (.aload_n 0, 1) := by decide +kernel
theorem dX4_weighAll_60 : decode cX4_weighAll 60 = .ok (.getfield 21, 3) := by decide +kernel
theorem dX4_weighAll_63 : decode cX4_weighAll 63 = .ok (.aload_n 0, 1) := by decide +kernel
theorem dX4_weighAll_64 : decode cX4_weighAll 64 = .ok (.getfield 12, 3) := by decide +kernel
theorem dX4_weighAll_67 : decode cX4_weighAll 67 = .ok (.invokevirtual 63, 3) := by decide +kernel
theorem dX4_weighAll_70 : decode cX4_weighAll 70 = .ok (.aload_n 0, 1) := by decide +kernel
theorem dX4_weighAll_71 : decode cX4_weighAll 71 = .ok (.iload_n 2, 1) := by decide +kernel
theorem dX4_weighAll_72 : decode cX4_weighAll 72 = .ok (.putfield 47, 3) := by decide +kernel
theorem dX4_weighAll_75 : decode cX4_weighAll 75 = .ok (.iinc 2 1, 3) := by decide +kernel
theorem dX4_weighAll_78 : decode cX4_weighAll 78 = .ok (.goto (-55), 3) := by decide +kernel
theorem dX4_weighAll_81 : decode cX4_weighAll 81 = .ok (.aload_n 0, 1) := by decide +kernel
theorem dX4_weighAll_82 : decode cX4_weighAll 82 = .ok (.getfield 18, 3) := by decide +kernel
theorem dX4_weighAll_85 : decode cX4_weighAll 85 = .ok (.getfield 66, 3) := by decide +kernel
theorem dX4_weighAll_88 : decode cX4_weighAll 88 = .ok (.ifCond .le 7, 3) := by decide +kernel
theorem dX4_weighAll_91 : decode cX4_weighAll 91 = .ok (.iconst 1, 1) := by decide +kernel
theorem dX4_weighAll_92 : decode cX4_weighAll 92 = .ok (.goto 4, 3) := by decide +kernel
theorem dX4_weighAll_95 : decode cX4_weighAll 95 = .ok (.iconst 0, 1) := by decide +kernel
theorem dX4_weighAll_96 : decode cX4_weighAll 96 = .ok (.ireturn, 1) := by decide +kernel
theorem dX5_init_0 : decode cX5_init 0 = .ok (.aload_n 0, 1) := by decide +kernel
theorem dX5_init_1 : decode cX5_init 1 = .ok (.invokespecial 3, 3) := by decide +kernel
theorem dX5_init_4 : decode cX5_init 4 = .ok (.aload_n 0, 1) := by decide +kernel
theorem dX5_init_5 : decode cX5_init 5 = .ok (.new 9, 3) := by decide +kernel
theorem dX5_init_8 : decode cX5_init 8 = .ok (.dup, 1) := by decide +kernel
theorem dX5_init_9 : decode cX5_init 9 = .ok (.bipush 13, 2) := by decide +kernel
theorem dX5_init_11 : decode cX5_init 11 = .ok (.sipush 156, 3) := by decide +kernel
theorem dX5_init_14 : decode cX5_init 14 = .ok (.newarray .int, 2) := by decide +kernel
theorem dX5_init_16 : decode cX5_init 16 = .ok (.iconst 0, 1) := by decide +kernel
theorem dX5_init_17 : decode cX5_init 17 = .ok (.invokespecial 11, 3) := by decide +kernel
theorem dX5_init_20 : decode cX5_init 20 = .ok (.putfield 14, 3) := by decide +kernel
theorem dX5_init_23 : decode cX5_init 23 = .ok (.aload_n 0, 1) := by decide +kernel
theorem dX5_init_24 : decode cX5_init 24 = .ok (.bipush 13, 2) := by decide +kernel
theorem dX5_init_26 : decode cX5_init 26 = .ok (.newarray .int, 2) := by decide +kernel
theorem dX5_init_28 : decode cX5_init 28 = .ok (.putfield 20, 3) := by decide +kernel
theorem dX5_init_31 : decode cX5_init 31 = .ok (.return_, 1) := by decide +kernel
theorem dX5_read_0 : decode cX5_read 0 = .ok (.aload_n 0, 1) := by decide +kernel
theorem dX5_read_1 : decode cX5_read 1 = .ok (.getfield 14, 3) := by decide +kernel
theorem dX5_read_4 : decode cX5_read 4 = .ok (.iconst 0, 1) := by decide +kernel
theorem dX5_read_5 : decode cX5_read 5 = .ok (.putfield 24, 3) := by decide +kernel
theorem dX5_read_8 : decode cX5_read 8 = .ok (.aload_n 0, 1) := by decide +kernel
theorem dX5_read_9 : decode cX5_read 9 = .ok (.iconst 0, 1) := by decide +kernel
theorem dX5_read_10 : decode cX5_read 10 = .ok (.putfield 28, 3) := by decide +kernel
theorem dX5_read_13 : decode cX5_read 13 = .ok (.aload_n 0, 1) := by decide +kernel
theorem dX5_read_14 : decode cX5_read 14 = .ok (.iconst 0, 1) := by decide +kernel
theorem dX5_read_15 : decode cX5_read 15 = .ok (.putfield 31, 3) := by decide +kernel
theorem dX5_read_18 : decode cX5_read 18 = .ok (.iconst 0, 1) := by decide +kernel
theorem dX5_read_19 : decode cX5_read 19 = .ok (.istore_n 2, 1) := by decide +kernel
theorem dX5_read_20 : decode cX5_read 20 = .ok (.iload_n 2, 1) := by decide +kernel
theorem dX5_read_21 : decode cX5_read 21 = .ok (.aload_n 1, 1) := by decide +kernel
theorem dX5_read_22 : decode cX5_read 22 = .ok (.getfield 24, 3) := by decide +kernel
theorem dX5_read_25 : decode cX5_read 25 = .ok (.if_icmp .gt 79, 3) := by decide +kernel
theorem dX5_read_28 : decode cX5_read 28 = .ok (.aload_n 0, 1) := by decide +kernel
theorem dX5_read_29 : decode cX5_read 29 = .ok (.aload_n 1, 1) := by decide +kernel
theorem dX5_read_30 : decode cX5_read 30 = .ok (.invokevirtual 34, 3) := by decide +kernel
theorem dX5_read_33 : decode cX5_read 33 = .ok (.aload_n 0, 1) := by decide +kernel
theorem dX5_read_34 : decode cX5_read 34 = .ok (.getfield 38, 3) := by decide +kernel
theorem dX5_read_37 : decode cX5_read 37 = .ok (.ifCond .ne 5, 3) := by decide +kernel
theorem dX5_read_40 : decode cX5_read 40 = .ok (.iconst (-1), 1) := by decide +kernel
theorem dX5_read_41 : decode cX5_read 41 = .ok (.ireturn, 1) := by decide +kernel
theorem dX5_read_42 : decode cX5_read 42 = .ok (.aload_n 0, 1) := by decide +kernel
theorem dX5_read_43 : decode cX5_read 43 = .ok (.aload_n 1, 1) := by decide +kernel
theorem dX5_read_44 : decode cX5_read 44 = .ok (.invokevirtual 41, 3) := by decide +kernel
theorem dX5_read_47 : decode cX5_read 47 = .ok (.istore_n 3, 1) := by decide +kernel
theorem dX5_read_48 : decode cX5_read 48 = .ok (.iload_n 3, 1) := by decide +kernel
theorem dX5_read_49 : decode cX5_read 49 = .ok (.iconst (-1), 1) := by decide +kernel
theorem dX5_read_50 : decode cX5_read 50 = .ok (.if_icmp .eq 20, 3) := by decide +kernel
theorem dX5_read_53 : decode cX5_read 53 = .ok (.aload_n 0, 1) := by decide +kernel
theorem dX5_read_54 : decode cX5_read 54 = .ok (.iload_n 3, 1) := by decide +kernel
theorem dX5_read_55 : decode cX5_read 55 = .ok (.invokevirtual 45, 3) := by decide +kernel
theorem dX5_read_58 : decode cX5_read 58 = .ok (.ifCond .eq 12, 3) := by decide +kernel
theorem dX5_read_61 : decode cX5_read 61 = .ok (.aload_n 0, 1) := by decide +kernel
theorem dX5_read_62 : decode cX5_read 62 = .ok (.aload_n 1, 1) := by decide +kernel
theorem dX5_read_63 : decode cX5_read 63 = .ok (.iload_n 3, 1) := by decide +kernel
theorem dX5_read_64 : decode cX5_read 64 = .ok (.invokevirtual 49, 3) := by decide +kernel
theorem dX5_read_67 : decode cX5_read 67 = .ok (.ifCond .ne 8, 3) := by decide +kernel
theorem dX5_read_70 : decode cX5_read 70 = .ok (.aload_n 0, 1) := by decide +kernel
theorem dX5_read_71 : decode cX5_read 71 = .ok (.getfield 53, 3) := by decide +kernel
theorem dX5_read_74 : decode cX5_read 74 = .ok (.ireturn, 1) := by decide +kernel
theorem dX5_read_75 : decode cX5_read 75 = .ok (.aload_n 0, 1) := by decide +kernel
theorem dX5_read_76 : decode cX5_read 76 = .ok (.aload_n 1, 1) := by decide +kernel
theorem dX5_read_77 : decode cX5_read 77 = .ok (.invokevirtual 34, 3) := by decide +kernel
theorem dX5_read_80 : decode cX5_read 80 = .ok (.aload_n 0, 1) := by decide +kernel
theorem dX5_read_81 : decode cX5_read 81 = .ok (.getfield 38, 3) := by decide +kernel
theorem dX5_read_84 : decode cX5_read 84 = .ok (.iconst 3, 1) := by decide +kernel
theorem dX5_read_85 : decode cX5_read 85 = .ok (.if_icmp .eq 8, 3) := by decide +kernel
theorem dX5_read_88 : decode cX5_read 88 = .ok (.aload_n 0, 1) := by decide +kernel
theorem dX5_read_89 : decode cX5_read 89 = .ok (.getfield 53, 3) := by decide +kernel
theorem dX5_read_92 : decode cX5_read 92 = .ok (.ireturn, 1) := by decide +kernel
theorem dX5_read_93 : decode cX5_read 93 = .ok (.aload_n 0, 1) := by decide +kernel
theorem dX5_read_94 : decode cX5_read 94 = .ok (.iload_n 3, 1) := by decide +kernel
theorem dX5_read_95 : decode cX5_read 95 = .ok (.invokevirtual 56, 3) := by decide +kernel
theorem dX5_read_98 : decode cX5_read 98 = .ok (.iinc 2 1, 3) := by decide +kernel
theorem dX5_read_101 : decode cX5_read 101 = .ok (.goto (-81), 3) := by decide +kernel
theorem dX5_read_104 : decode cX5_read 104 = .ok (.iconst (-1), 1) := by decide +kernel
theorem dX5_read_105 : decode cX5_read 105 = .ok (.ireturn, 1) := by decide +kernel
theorem dX5_mayStand_0 : decode cX5_mayStand 0 = .ok (.iload_n 1, 1) := by decide +kernel
theorem dX5_mayStand_1 : decode cX5_mayStand 1 = .ok (.iconst 3, 1) := by decide +kernel
theorem dX5_mayStand_2 : decode cX5_mayStand 2 = .ok (.if_icmp .ne 22, 3) := by decide +kernel
theorem dX5_mayStand_5 : decode cX5_mayStand 5 = .ok (.aload_n 0, 1) := by decide +kernel
theorem dX5_mayStand_6 : decode cX5_mayStand 6 = .ok (.getfield 28, 3) := by decide +kernel
theorem dX5_mayStand_9 : decode cX5_mayStand 9 = .ok (.bipush 7, 2) := by decide +kernel
theorem dX5_mayStand_11 : decode cX5_mayStand 11 = .ok (.if_icmp .ne 17, 3) := by decide +kernel
theorem dX5_mayStand_14 : decode cX5_mayStand 14 = .ok (.aload_n 0, 1) := by decide +kernel
theorem dX5_mayStand_15 : decode cX5_mayStand 15 = .ok (.getfield 14, 3) := by decide +kernel
theorem dX5_mayStand_18 : decode cX5_mayStand 18 = .ok (.invokevirtual 60, 3) := by decide +kernel
theorem dX5_mayStand_21 : decode cX5_mayStand 21 = .ok (.ifCond .ne 7, 3) := by decide +kernel
theorem dX5_mayStand_24 : decode cX5_mayStand 24 = .ok (.iconst 1, 1) := by decide +kernel
theorem dX5_mayStand_25 : decode cX5_mayStand 25 = .ok (.goto 4, 3) := by decide +kernel
theorem dX5_mayStand_28 : decode cX5_mayStand 28 = .ok (.iconst 0, 1) := by decide +kernel
theorem dX5_mayStand_29 : decode cX5_mayStand 29 = .ok (.ireturn, 1) := by decide +kernel
theorem dX5_readNumbers_0 : decode cX5_readNumbers 0 = .ok (.iload_n 2, 1) := by decide +kernel
theorem dX5_readNumbers_1 : decode cX5_readNumbers 1 = .ok (.ifCond .lt 13, 3) := by decide +kernel
theorem dX5_readNumbers_4 : decode cX5_readNumbers 4 = .ok (.iload_n 2, 1) := by decide +kernel
theorem dX5_readNumbers_5 : decode cX5_readNumbers 5 = .ok (.iconst 1, 1) := by decide +kernel
theorem dX5_readNumbers_6 : decode cX5_readNumbers 6 = .ok (.iadd, 1) := by decide +kernel
theorem dX5_readNumbers_7 : decode cX5_readNumbers 7 = .ok (.getstatic 64, 3) := by decide +kernel
theorem dX5_readNumbers_10 : decode cX5_readNumbers 10 = .ok (.arraylength, 1) := by decide +kernel
theorem dX5_readNumbers_11 : decode cX5_readNumbers 11 = .ok (.if_icmp .lt 5, 3) := by decide +kernel
theorem dX5_readNumbers_14 : decode cX5_readNumbers 14 = .ok (.iconst 0, 1) := by decide +kernel
theorem dX5_readNumbers_15 : decode cX5_readNumbers 15 = .ok (.ireturn, 1) := by decide +kernel
theorem dX5_readNumbers_16 : decode cX5_readNumbers 16 = .ok (.getstatic 64, 3) := by decide +kernel
theorem dX5_readNumbers_19 : decode cX5_readNumbers 19 = .ok (.iload_n 2, 1) := by decide +kernel
theorem dX5_readNumbers_20 : decode cX5_readNumbers 20 = .ok (.iaload, 1) := by decide +kernel
theorem dX5_readNumbers_21 : decode cX5_readNumbers 21 = .ok (.istore_n 3, 1) := by decide +kernel
theorem dX5_readNumbers_22 : decode cX5_readNumbers 22 = .ok (.iload_n 3, 1) := by decide +kernel
theorem dX5_readNumbers_23 : decode cX5_readNumbers 23 = .ok (.getstatic 64, 3) := by decide +kernel
theorem dX5_readNumbers_26 : decode cX5_readNumbers 26 = .ok (.iload_n 2, 1) := by decide +kernel
theorem dX5_readNumbers_27 : decode cX5_readNumbers 27 = .ok (.iconst 1, 1) := by decide +kernel
theorem dX5_readNumbers_28 : decode cX5_readNumbers 28 = .ok (.iadd, 1) := by decide +kernel
theorem dX5_readNumbers_29 : decode cX5_readNumbers 29 = .ok (.iaload, 1) := by decide +kernel
theorem dX5_readNumbers_30 : decode cX5_readNumbers 30 = .ok (.if_icmp .ge 63, 3) := by decide +kernel
theorem dX5_readNumbers_33 : decode cX5_readNumbers 33 = .ok (.aload_n 0, 1) := by decide +kernel
theorem dX5_readNumbers_34 : decode cX5_readNumbers 34 = .ok (.aload_n 1, 1) := by decide +kernel
theorem dX5_readNumbers_35 : decode cX5_readNumbers 35 = .ok (.invokevirtual 34, 3) := by decide +kernel
theorem dX5_readNumbers_38 : decode cX5_readNumbers 38 = .ok (.aload_n 0, 1) := by decide +kernel
theorem dX5_readNumbers_39 : decode cX5_readNumbers 39 = .ok (.getfield 38, 3) := by decide +kernel
theorem dX5_readNumbers_42 : decode cX5_readNumbers 42 = .ok (.iconst 2, 1) := by decide +kernel
theorem dX5_readNumbers_43 : decode cX5_readNumbers 43 = .ok (.if_icmp .ne 32, 3) := by decide +kernel
theorem dX5_readNumbers_46 : decode cX5_readNumbers 46 = .ok (.iload_n 3, 1) := by decide +kernel
theorem dX5_readNumbers_47 : decode cX5_readNumbers 47 = .ok (.aload_n 0, 1) := by decide +kernel
theorem dX5_readNumbers_48 : decode cX5_readNumbers 48 = .ok (.getfield 67, 3) := by decide +kernel
theorem dX5_readNumbers_51 : decode cX5_readNumbers 51 = .ok (.invokestatic 70, 3) := by decide +kernel
theorem dX5_readNumbers_54 : decode cX5_readNumbers 54 = .ok (.ifCond .eq 21, 3) := by decide +kernel
theorem dX5_readNumbers_57 : decode cX5_readNumbers 57 = .ok (.iload_n 3, 1) := by decide +kernel
theorem dX5_readNumbers_58 : decode cX5_readNumbers 58 = .ok (.iconst 5, 1) := by decide +kernel
theorem dX5_readNumbers_59 : decode cX5_readNumbers 59 = .ok (.if_icmp .ne 18, 3) := by decide +kernel
theorem dX5_readNumbers_62 : decode cX5_readNumbers 62 = .ok (.aload_n 0, 1) := by decide +kernel
theorem dX5_readNumbers_63 : decode cX5_readNumbers 63 = .ok (.getfield 67, 3) := by decide +kernel
theorem dX5_readNumbers_66 : decode cX5_readNumbers 66 = .ok (.aload_n 0, 1) := by decide +kernel
theorem dX5_readNumbers_67 : decode cX5_readNumbers 67 = .ok (.getfield 20, 3) := by decide +kernel
theorem dX5_readNumbers_70 : decode cX5_readNumbers 70 = .ok (.iconst 3, 1) := by decide +kernel
theorem dX5_readNumbers_71 : decode cX5_readNumbers 71 = .ok (.iaload, 1) := by decide +kernel
theorem dX5_readNumbers_72 : decode cX5_readNumbers 72 = .ok (.if_icmp .le 5, 3) := by decide +kernel
theorem dX5_readNumbers_75 : decode cX5_readNumbers 75 = .ok (.iconst 0, 1) := by decide +kernel
theorem dX5_readNumbers_76 : decode cX5_readNumbers 76 = .ok (.ireturn, 1) := by decide +kernel
theorem dX5_readNumbers_77 : decode cX5_readNumbers 77 = .ok (.aload_n 0, 1) := by decide +kernel
theorem dX5_readNumbers_78 : decode cX5_readNumbers 78 = .ok (.getfield 20, 3) := by decide +kernel
theorem dX5_readNumbers_81 : decode cX5_readNumbers 81 = .ok (.iload_n 3, 1) := by decide +kernel
theorem dX5_readNumbers_82 : decode cX5_readNumbers 82 = .ok (.aload_n 0, 1) := by decide +kernel
theorem dX5_readNumbers_83 : decode cX5_readNumbers 83 = .ok (.getfield 67, 3) := by decide +kernel
theorem dX5_readNumbers_86 : decode cX5_readNumbers 86 = .ok (.iastore, 1) := by decide +kernel
theorem dX5_readNumbers_87 : decode cX5_readNumbers 87 = .ok (.iinc 3 1, 3) := by decide +kernel
theorem dX5_readNumbers_90 : decode cX5_readNumbers 90 = .ok (.goto (-68), 3) := by decide +kernel
theorem dX5_readNumbers_93 : decode cX5_readNumbers 93 = .ok (.iconst 1, 1) := by decide +kernel
theorem dX5_readNumbers_94 : decode cX5_readNumbers 94 = .ok (.ireturn, 1) := by decide +kernel
theorem dX5_close_0 : decode cX5_close 0 = .ok (.iload_n 1, 1) := by decide +kernel
theorem dX5_close_1 : decode cX5_close 1 = .ok (.iconst 3, 1) := by decide +kernel
theorem dX5_close_2 : decode cX5_close 2 = .ok (.if_icmp .ne 17, 3) := by decide +kernel
theorem dX5_close_5 : decode cX5_close 5 = .ok (.aload_n 0, 1) := by decide +kernel
theorem dX5_close_6 : decode cX5_close 6 = .ok (.getfield 14, 3) := by decide +kernel
theorem dX5_close_9 : decode cX5_close 9 = .ok (.aload_n 0, 1) := by decide +kernel
theorem dX5_close_10 : decode cX5_close 10 = .ok (.getfield 20, 3) := by decide +kernel
theorem dX5_close_13 : decode cX5_close 13 = .ok (.invokevirtual 74, 3) := by decide +kernel
theorem dX5_close_16 : decode cX5_close 16 = .ok (.goto 15, 3) := by decide +kernel
theorem dX5_close_19 : decode cX5_close 19 = .ok (.aload_n 0, 1) := by decide +kernel
theorem dX5_close_20 : decode cX5_close 20 = .ok (.dup, 1) := by decide +kernel
theorem dX5_close_21 : decode cX5_close 21 = .ok (.getfield 28, 3) := by decide +kernel
theorem dX5_close_24 : decode cX5_close 24 = .ok (.iconst 1, 1) := by decide +kernel
theorem dX5_close_25 : decode cX5_close 25 = .ok (.iload_n 1, 1) := by decide +kernel
theorem dX5_close_26 : decode cX5_close 26 = .ok (.ishl, 1) := by decide +kernel
theorem dX5_close_27 : decode cX5_close 27 = .ok (.ior, 1) := by decide +kernel
theorem dX5_close_28 : decode cX5_close 28 = .ok (.putfield 28, 3) := by decide +kernel
theorem dX5_close_31 : decode cX5_close 31 = .ok (.return_, 1) := by decide +kernel
theorem dX5_itemNamed_0 : decode cX5_itemNamed 0 = .ok (.aload_n 0, 1) := by decide +kernel
theorem dX5_itemNamed_1 : decode cX5_itemNamed 1 = .ok (.getfield 38, 3) := by decide +kernel
theorem dX5_itemNamed_4 : decode cX5_itemNamed 4 = .ok (.iconst 1, 1) := by decide +kernel
theorem dX5_itemNamed_5 : decode cX5_itemNamed 5 = .ok (.if_icmp .eq 5, 3) := by decide +kernel
theorem dX5_itemNamed_8 : decode cX5_itemNamed 8 = .ok (.iconst (-1), 1) := by decide +kernel
theorem dX5_itemNamed_9 : decode cX5_itemNamed 9 = .ok (.ireturn, 1) := by decide +kernel
theorem dX5_itemNamed_10 : decode cX5_itemNamed 10 = .ok (.aload_n 0, 1) := by decide +kernel
theorem dX5_itemNamed_11 : decode cX5_itemNamed 11 = .ok (.aload_n 1, 1) := by decide +kernel
theorem dX5_itemNamed_12 : decode cX5_itemNamed 12 = .ok (.ldc 78, 2) := by decide +kernel
theorem dX5_itemNamed_14 : decode cX5_itemNamed 14 = .ok (.invokevirtual 80, 3) := by decide +kernel
theorem dX5_itemNamed_17 : decode cX5_itemNamed 17 = .ok (.ifCond .eq 5, 3) := by decide +kernel
theorem dX5_itemNamed_20 : decode cX5_itemNamed 20 = .ok (.iconst 0, 1) := by decide +kernel
theorem dX5_itemNamed_21 : decode cX5_itemNamed 21 = .ok (.ireturn, 1) := by decide +kernel
theorem dX5_itemNamed_22 : decode cX5_itemNamed 22 = .ok (.aload_n 0, 1) := by decide +kernel
theorem dX5_itemNamed_23 : decode cX5_itemNamed 23 = .ok (.aload_n 1, 1) := by decide +kernel
theorem dX5_itemNamed_24 : decode cX5_itemNamed 24 = .ok (.ldc 84, 2) := by decide +kernel
theorem dX5_itemNamed_26 : decode cX5_itemNamed 26 = .ok (.invokevirtual 80, 3) := by decide +kernel
theorem dX5_itemNamed_29 : decode cX5_itemNamed 29 = .ok (.ifCond .eq 5, 3) := by decide +kernel
theorem dX5_itemNamed_32 : decode cX5_itemNamed 32 = .ok (.iconst 1, 1) := by decide +kernel
theorem dX5_itemNamed_33 : decode cX5_itemNamed 33 = .ok (.ireturn, 1) := by decide +kernel
theorem dX5_itemNamed_34 : decode cX5_itemNamed 34 = .ok (.aload_n 0, 1) := by decide +kernel
theorem dX5_itemNamed_35 : decode cX5_itemNamed 35 = .ok (.aload_n 1, 1) := by decide +kernel
theorem dX5_itemNamed_36 : decode cX5_itemNamed 36 = .ok (.ldc 86, 2) := by decide +kernel
theorem dX5_itemNamed_38 : decode cX5_itemNamed 38 = .ok (.invokevirtual 80, 3) := by decide +kernel
theorem dX5_itemNamed_41 : decode cX5_itemNamed 41 = .ok (.ifCond .eq 5, 3) := by decide +kernel
theorem dX5_itemNamed_44 : decode cX5_itemNamed 44 = .ok (.iconst 2, 1) := by decide +kernel
theorem dX5_itemNamed_45 : decode cX5_itemNamed 45 = .ok (.ireturn, 1) := by decide +kernel
theorem dX5_itemNamed_46 : decode cX5_itemNamed 46 = .ok (.aload_n 0, 1) := by decide +kernel
theorem dX5_itemNamed_47 : decode cX5_itemNamed 47 = .ok (.aload_n 1, 1) := by decide +kernel
theorem dX5_itemNamed_48 : decode cX5_itemNamed 48 = .ok (.ldc 88, 2) := by decide +kernel
theorem dX5_itemNamed_50 : decode cX5_itemNamed 50 = .ok (.invokevirtual 80, 3) := by decide +kernel
theorem dX5_itemNamed_53 : decode cX5_itemNamed 53 = .ok (.ifCond .eq 7, 3) := by decide +kernel
theorem dX5_itemNamed_56 : decode cX5_itemNamed 56 = .ok (.iconst 3, 1) := by decide +kernel
theorem dX5_itemNamed_57 : decode cX5_itemNamed 57 = .ok (.goto 4, 3) := by decide +kernel
theorem dX5_itemNamed_60 : decode cX5_itemNamed 60 = .ok (.iconst (-1), 1) := by decide +kernel
theorem dX5_itemNamed_61 : decode cX5_itemNamed 61 = .ok (.ireturn, 1) := by decide +kernel
theorem dX5_isWord_0 : decode cX5_isWord 0 = .ok (.aload_n 0, 1) := by decide +kernel
theorem dX5_isWord_1 : decode cX5_isWord 1 = .ok (.getfield 31, 3) := by decide +kernel
theorem dX5_isWord_4 : decode cX5_isWord 4 = .ok (.aload_n 0, 1) := by decide +kernel
theorem dX5_isWord_5 : decode cX5_isWord 5 = .ok (.getfield 53, 3) := by decide +kernel
theorem dX5_isWord_8 : decode cX5_isWord 8 = .ok (.isub, 1) := by decide +kernel
theorem dX5_isWord_9 : decode cX5_isWord 9 = .ok (.aload_n 2, 1) := by decide +kernel
theorem dX5_isWord_10 : decode cX5_isWord 10 = .ok (.invokevirtual 90, 3) := by decide +kernel
theorem dX5_isWord_13 : decode cX5_isWord 13 = .ok (.if_icmp .eq 5, 3) := by decide +kernel
theorem dX5_isWord_16 : decode cX5_isWord 16 = .ok (.iconst 0, 1) := by decide +kernel
theorem dX5_isWord_17 : decode cX5_isWord 17 = .ok (.ireturn, 1) := by decide +kernel
theorem dX5_isWord_18 : decode cX5_isWord 18 = .ok (.iconst 0, 1) := by decide +kernel
theorem dX5_isWord_19 : decode cX5_isWord 19 = .ok (.istore_n 3, 1) := by decide +kernel
theorem dX5_isWord_20 : decode cX5_isWord 20 = .ok (.iload_n 3, 1) := by decide +kernel
theorem dX5_isWord_21 : decode cX5_isWord 21 = .ok (.aload_n 2, 1) := by decide +kernel
theorem dX5_isWord_22 : decode cX5_isWord 22 = .ok (.invokevirtual 90, 3) := by decide +kernel
theorem dX5_isWord_25 : decode cX5_isWord 25 = .ok (.if_icmp .ge 30, 3) := by decide +kernel
theorem dX5_isWord_28 : decode cX5_isWord 28 = .ok (.aload_n 1, 1) := by decide +kernel
theorem dX5_isWord_29 : decode cX5_isWord 29 = .ok (.aload_n 0, 1) := by decide +kernel
theorem dX5_isWord_30 : decode cX5_isWord 30 = .ok (.getfield 53, 3) := by decide +kernel
theorem dX5_isWord_33 : decode cX5_isWord 33 = .ok (.iload_n 3, 1) := by decide +kernel
theorem dX5_isWord_34 : decode cX5_isWord 34 = .ok (.iadd, 1) := by decide +kernel
theorem dX5_isWord_35 : decode cX5_isWord 35 = .ok (.iconst 0, 1) := by decide +kernel
theorem dX5_isWord_36 : decode cX5_isWord 36 = .ok (.invokevirtual 96, 3) := by decide +kernel
theorem dX5_isWord_39 : decode cX5_isWord 39 = .ok (.aload_n 2, 1) := by decide +kernel
theorem dX5_isWord_40 : decode cX5_isWord 40 = .ok (.iload_n 3, 1) := by decide +kernel
theorem dX5_isWord_41 : decode cX5_isWord 41 = .ok (.invokevirtual 100, 3) := by decide +kernel
theorem dX5_isWord_44 : decode cX5_isWord 44 = .ok (.if_icmp .eq 5, 3) := by decide +kernel
theorem dX5_isWord_47 : decode cX5_isWord 47 = .ok (.iconst 0, 1) := by decide +kernel
theorem dX5_isWord_48 : decode cX5_isWord 48 = .ok (.ireturn, 1) := by decide +kernel
theorem dX5_isWord_49 : decode cX5_isWord 49 = .ok (.iinc 3 1, 3) := by decide +kernel
theorem dX5_isWord_52 : decode cX5_isWord 52 = .ok (.goto (-32), 3) := by decide +kernel
theorem dX5_isWord_55 : decode cX5_isWord 55 = .ok (.iconst 1, 1) := by decide +kernel
theorem dX5_isWord_56 : decode cX5_isWord 56 = .ok (.ireturn, 1) := by decide +kernel
theorem dX5_advance_0 : decode cX5_advance 0 = .ok (.aload_n 0, 1) := by decide +kernel
theorem dX5_advance_1 : decode cX5_advance 1 = .ok (.getfield 31, 3) := by decide +kernel
theorem dX5_advance_4 : decode cX5_advance 4 = .ok (.aload_n 1, 1) := by decide +kernel
theorem dX5_advance_5 : decode cX5_advance 5 = .ok (.getfield 24, 3) := by decide +kernel
theorem dX5_advance_8 : decode cX5_advance 8 = .ok (.if_icmp .ge 30, 3) := by decide +kernel
theorem dX5_advance_11 : decode cX5_advance 11 = .ok (.aload_n 1, 1) := by decide +kernel
theorem dX5_advance_12 : decode cX5_advance 12 = .ok (.aload_n 0, 1) := by decide +kernel
theorem dX5_advance_13 : decode cX5_advance 13 = .ok (.getfield 31, 3) := by decide +kernel
theorem dX5_advance_16 : decode cX5_advance 16 = .ok (.iconst 0, 1) := by decide +kernel
theorem dX5_advance_17 : decode cX5_advance 17 = .ok (.invokevirtual 96, 3) := by decide +kernel
theorem dX5_advance_20 : decode cX5_advance 20 = .ok (.bipush 32, 2) := by decide +kernel
theorem dX5_advance_22 : decode cX5_advance 22 = .ok (.if_icmp .ne 16, 3) := by decide +kernel
theorem dX5_advance_25 : decode cX5_advance 25 = .ok (.aload_n 0, 1) := by decide +kernel
theorem dX5_advance_26 : decode cX5_advance 26 = .ok (.dup, 1) := by decide +kernel
theorem dX5_advance_27 : decode cX5_advance 27 = .ok (.getfield 31, 3) := by decide +kernel
theorem dX5_advance_30 : decode cX5_advance 30 = .ok (.iconst 1, 1) := by decide +kernel
theorem dX5_advance_31 : decode cX5_advance 31 = .ok (.iadd, 1) := by decide +kernel
theorem dX5_advance_32 : decode cX5_advance 32 = .ok (.putfield 31, 3) := by decide +kernel
theorem dX5_advance_35 : decode cX5_advance 35 = .ok (.goto (-35), 3) := by decide +kernel
theorem dX5_advance_38 : decode cX5_advance 38 = .ok (.aload_n 0, 1) := by decide +kernel
theorem dX5_advance_39 : decode cX5_advance 39 = .ok (.aload_n 0, 1) := by decide +kernel
theorem dX5_advance_40 : decode cX5_advance 40 = .ok (.getfield 31, 3) := by decide +kernel
theorem dX5_advance_43 : decode cX5_advance 43 = .ok (.putfield 53, 3) := by decide +kernel
theorem dX5_advance_46 : decode cX5_advance 46 = .ok (.aload_n 0, 1) := by decide +kernel
theorem dX5_advance_47 : decode cX5_advance 47 = .ok (.getfield 31, 3) := by decide +kernel
theorem dX5_advance_50 : decode cX5_advance 50 = .ok (.aload_n 1, 1) := by decide +kernel
theorem dX5_advance_51 : decode cX5_advance 51 = .ok (.getfield 24, 3) := by decide +kernel
theorem dX5_advance_54 : decode cX5_advance 54 = .ok (.if_icmp .lt 11, 3) := by decide +kernel
theorem dX5_advance_57 : decode cX5_advance 57 = .ok (.aload_n 0, 1) := by decide +kernel
theorem dX5_advance_58 : decode cX5_advance 58 = .ok (.iconst 0, 1) := by decide +kernel
theorem dX5_advance_59 : decode cX5_advance 59 = .ok (.putfield 38, 3) := by decide +kernel
theorem dX5_advance_62 : decode cX5_advance 62 = .ok (.goto 82, 3) := by decide +kernel
theorem dX5_advance_65 : decode cX5_advance 65 = .ok (.aload_n 1, 1) := by decide +kernel
theorem dX5_advance_66 : decode cX5_advance 66 = .ok (.aload_n 0, 1) := by decide +kernel
theorem dX5_advance_67 : decode cX5_advance 67 = .ok (.getfield 31, 3) := by decide +kernel
theorem dX5_advance_70 : decode cX5_advance 70 = .ok (.iconst 0, 1) := by decide +kernel
theorem dX5_advance_71 : decode cX5_advance 71 = .ok (.invokevirtual 96, 3) := by decide +kernel
theorem dX5_advance_74 : decode cX5_advance 74 = .ok (.invokestatic 104, 3) := by decide +kernel
theorem dX5_advance_77 : decode cX5_advance 77 = .ok (.ifCond .eq 11, 3) := by decide +kernel
theorem dX5_advance_80 : decode cX5_advance 80 = .ok (.aload_n 0, 1) := by decide +kernel
theorem dX5_advance_81 : decode cX5_advance 81 = .ok (.aload_n 1, 1) := by decide +kernel
theorem dX5_advance_82 : decode cX5_advance 82 = .ok (.invokevirtual 107, 3) := by decide +kernel
theorem dX5_advance_85 : decode cX5_advance 85 = .ok (.goto 59, 3) := by decide +kernel
theorem dX5_advance_88 : decode cX5_advance 88 = .ok (.aload_n 1, 1) := by decide +kernel
theorem dX5_advance_89 : decode cX5_advance 89 = .ok (.aload_n 0, 1) := by decide +kernel
theorem dX5_advance_90 : decode cX5_advance 90 = .ok (.getfield 31, 3) := by decide +kernel
theorem dX5_advance_93 : decode cX5_advance 93 = .ok (.iconst 0, 1) := by decide +kernel
theorem dX5_advance_94 : decode cX5_advance 94 = .ok (.invokevirtual 96, 3) := by decide +kernel
theorem dX5_advance_97 : decode cX5_advance 97 = .ok (.invokestatic 110, 3) := by decide +kernel
theorem dX5_advance_100 : decode cX5_advance 100 = .ok (.ifCond .eq 11, 3) := by decide +kernel
theorem dX5_advance_103 : decode cX5_advance 103 = .ok (.aload_n 0, 1) := by decide +kernel
theorem dX5_advance_104 : decode cX5_advance 104 = .ok (.aload_n 1, 1) := by decide +kernel
theorem dX5_advance_105 : decode cX5_advance 105 = .ok (.invokevirtual 113, 3) := by decide +kernel
theorem dX5_advance_108 : decode cX5_advance 108 = .ok (.goto 36, 3) := by decide +kernel
theorem dX5_advance_111 : decode cX5_advance 111 = .ok (.aload_n 0, 1) := by decide +kernel
theorem dX5_advance_112 : decode cX5_advance 112 = .ok (.aload_n 1, 1) := by decide +kernel
theorem dX5_advance_113 : decode cX5_advance 113 = .ok (.aload_n 0, 1) := by decide +kernel
theorem dX5_advance_114 : decode cX5_advance 114 = .ok (.getfield 31, 3) := by decide +kernel
theorem dX5_advance_117 : decode cX5_advance 117 = .ok (.iconst 0, 1) := by decide +kernel
theorem dX5_advance_118 : decode cX5_advance 118 = .ok (.invokevirtual 96, 3) := by decide +kernel
theorem dX5_advance_121 : decode cX5_advance 121 = .ok (.bipush 59, 2) := by decide +kernel
theorem dX5_advance_123 : decode cX5_advance 123 = .ok (.if_icmp .ne 7, 3) := by decide +kernel
theorem dX5_advance_126 : decode cX5_advance 126 = .ok (.iconst 3, 1) := by decide +kernel
theorem dX5_advance_127 : decode cX5_advance 127 = .ok (.goto 4, 3) := by decide +kernel
theorem dX5_advance_130 : decode cX5_advance 130 = .ok (.iconst 4, 1) := by decide +kernel
theorem dX5_advance_131 : decode cX5_advance 131 = .ok (.putfield 38, 3) := by decide +kernel
theorem dX5_advance_134 : decode cX5_advance 134 = .ok (.aload_n 0, 1) := by decide +kernel
theorem dX5_advance_135 : decode cX5_advance 135 = .ok (.dup, 1) := by decide +kernel
theorem dX5_advance_136 : decode cX5_advance 136 = .ok (.getfield 31, 3) := by decide +kernel
theorem dX5_advance_139 : decode cX5_advance 139 = .ok (.iconst 1, 1) := by decide +kernel
theorem dX5_advance_140 : decode cX5_advance 140 = .ok (.iadd, 1) := by decide +kernel
theorem dX5_advance_141 : decode cX5_advance 141 = .ok (.putfield 31, 3) := by decide +kernel
theorem dX5_advance_144 : decode cX5_advance 144 = .ok (.return_, 1) := by decide +kernel
theorem dX5_readLetters_0 : decode cX5_readLetters 0 = .ok (.aload_n 0, 1) := by decide +kernel
theorem dX5_readLetters_1 : decode cX5_readLetters 1 = .ok (.getfield 31, 3) := by decide +kernel
theorem dX5_readLetters_4 : decode cX5_readLetters 4 = .ok (.aload_n 1, 1) := by decide +kernel
theorem dX5_readLetters_5 : decode cX5_readLetters 5 = .ok (.getfield 24, 3) := by decide +kernel
theorem dX5_readLetters_8 : decode cX5_readLetters 8 = .ok (.if_icmp .ge 31, 3) := by decide +kernel
theorem dX5_readLetters_11 : decode cX5_readLetters 11 = .ok (.aload_n 1, 1) := by decide +kernel
theorem dX5_readLetters_12 : decode cX5_readLetters 12 = .ok (.aload_n 0, 1) := by decide +kernel
theorem dX5_readLetters_13 : decode cX5_readLetters 13 = .ok (.getfield 31, 3) := by decide +kernel
theorem dX5_readLetters_16 : decode cX5_readLetters 16 = .ok (.iconst 0, 1) := by decide +kernel
theorem dX5_readLetters_17 : decode cX5_readLetters 17 = .ok (.invokevirtual 96, 3) := by decide +kernel
theorem dX5_readLetters_20 : decode cX5_readLetters 20 = .ok (.invokestatic 104, 3) := by decide +kernel
theorem dX5_readLetters_23 : decode cX5_readLetters 23 = .ok (.ifCond .eq 16, 3) := by decide +kernel
theorem dX5_readLetters_26 : decode cX5_readLetters 26 = .ok (.aload_n 0, 1) := by decide +kernel
theorem dX5_readLetters_27 : decode cX5_readLetters 27 = .ok (.dup, 1) := by decide +kernel
theorem dX5_readLetters_28 : decode cX5_readLetters 28 = .ok (.getfield 31, 3) := by decide +kernel
theorem dX5_readLetters_31 : decode cX5_readLetters 31 = .ok (.iconst 1, 1) := by decide +kernel
theorem dX5_readLetters_32 : decode cX5_readLetters 32 = .ok (.iadd, 1) := by decide +kernel
theorem dX5_readLetters_33 : decode cX5_readLetters 33 = .ok (.putfield 31, 3) := by decide +kernel
theorem dX5_readLetters_36 : decode cX5_readLetters 36 = .ok (.goto (-36), 3) := by decide +kernel
theorem dX5_readLetters_39 : decode cX5_readLetters 39 = .ok (.aload_n 0, 1) := by decide +kernel
theorem dX5_readLetters_40 : decode cX5_readLetters 40 = .ok (.iconst 1, 1) := by decide +kernel
theorem dX5_readLetters_41 : decode cX5_readLetters 41 = .ok (.putfield 38, 3) := by decide +kernel
theorem dX5_readLetters_44 : decode cX5_readLetters 44 = .ok (.return_, 1) := by decide +kernel
theorem dX5_readFigures_0 : decode cX5_readFigures 0 = .ok (.aload_n 0, 1) := by decide +kernel
theorem dX5_readFigures_1 : decode cX5_readFigures 1 = .ok (.iconst 0, 1) := by decide +kernel
theorem dX5_readFigures_2 : decode cX5_readFigures 2 = .ok (.putfield 67, 3) := by decide +kernel
theorem dX5_readFigures_5 : decode cX5_readFigures 5 = .ok (.aload_n 0, 1) := by decide +kernel
theorem dX5_readFigures_6 : decode cX5_readFigures 6 = .ok (.getfield 31, 3) := by decide +kernel
theorem dX5_readFigures_9 : decode cX5_readFigures 9 = .ok (.aload_n 1, 1) := by decide +kernel
theorem dX5_readFigures_10 : decode cX5_readFigures 10 = .ok (.getfield 24, 3) := by decide +kernel
theorem dX5_readFigures_13 : decode cX5_readFigures 13 = .ok (.if_icmp .ge 68, 3) := by decide +kernel
theorem dX5_readFigures_16 : decode cX5_readFigures 16 = .ok (.aload_n 1, 1) := by decide +kernel
theorem dX5_readFigures_17 : decode cX5_readFigures 17 = .ok (.aload_n 0, 1) := by decide +kernel
theorem dX5_readFigures_18 : decode cX5_readFigures 18 = .ok (.getfield 31, 3) := by decide +kernel
theorem dX5_readFigures_21 : decode cX5_readFigures 21 = .ok (.iconst 0, 1) := by decide +kernel
theorem dX5_readFigures_22 : decode cX5_readFigures 22 = .ok (.invokevirtual 96, 3) := by decide +kernel
theorem dX5_readFigures_25 : decode cX5_readFigures 25 = .ok (.invokestatic 110, 3) := by decide +kernel
theorem dX5_readFigures_28 : decode cX5_readFigures 28 = .ok (.ifCond .eq 53, 3) := by decide +kernel
theorem dX5_readFigures_31 : decode cX5_readFigures 31 = .ok (.aload_n 0, 1) := by decide +kernel
theorem dX5_readFigures_32 : decode cX5_readFigures 32 = .ok (.getfield 31, 3) := by decide +kernel
theorem dX5_readFigures_35 : decode cX5_readFigures 35 = .ok (.aload_n 0, 1) := by decide +kernel
theorem dX5_readFigures_36 : decode cX5_readFigures 36 = .ok (.getfield 53, 3) := by decide +kernel
theorem dX5_readFigures_39 : decode cX5_readFigures 39 = .ok (.isub, 1) := by decide +kernel
theorem dX5_readFigures_40 : decode cX5_readFigures 40 = .ok (.iconst 3, 1) := by decide +kernel
theorem dX5_readFigures_41 : decode cX5_readFigures 41 = .ok (.if_icmp .ge 27, 3) := by decide +kernel
theorem dX5_readFigures_44 : decode cX5_readFigures 44 = .ok (.aload_n 0, 1) := by decide +kernel
theorem dX5_readFigures_45 : decode cX5_readFigures 45 = .ok (.bipush 10, 2) := by decide +kernel
theorem dX5_readFigures_47 : decode cX5_readFigures 47 = .ok (.aload_n 0, 1) := by decide +kernel
theorem dX5_readFigures_48 : decode cX5_readFigures 48 = .ok (.getfield 67, 3) := by decide +kernel
theorem dX5_readFigures_51 : decode cX5_readFigures 51 = .ok (.imul, 1) := by decide +kernel
theorem dX5_readFigures_52 : decode cX5_readFigures 52 = .ok (.aload_n 1, 1) := by decide +kernel
theorem dX5_readFigures_53 : decode cX5_readFigures 53 = .ok (.aload_n 0, 1) := by decide +kernel
theorem dX5_readFigures_54 : decode cX5_readFigures 54 = .ok (.getfield 31, 3) := by decide +kernel
theorem dX5_readFigures_57 : decode cX5_readFigures 57 = .ok (.iconst 0, 1) := by decide +kernel
theorem dX5_readFigures_58 : decode cX5_readFigures 58 = .ok (.invokevirtual 96, 3) := by decide +kernel
theorem dX5_readFigures_61 : decode cX5_readFigures 61 = .ok (.iadd, 1) := by decide +kernel
theorem dX5_readFigures_62 : decode cX5_readFigures 62 = .ok (.bipush 48, 2) := by decide +kernel
theorem dX5_readFigures_64 : decode cX5_readFigures 64 = .ok (.isub, 1) := by decide +kernel
theorem dX5_readFigures_65 : decode cX5_readFigures 65 = .ok (.putfield 67, 3) := by decide +kernel
theorem dX5_readFigures_68 : decode cX5_readFigures 68 = .ok (.aload_n 0, 1) := by decide +kernel
theorem dX5_readFigures_69 : decode cX5_readFigures 69 = .ok (.dup, 1) := by decide +kernel
theorem dX5_readFigures_70 : decode cX5_readFigures 70 = .ok (.getfield 31, 3) := by decide +kernel
theorem dX5_readFigures_73 : decode cX5_readFigures 73 = .ok (.iconst 1, 1) := by decide +kernel
theorem dX5_readFigures_74 : decode cX5_readFigures 74 = .ok (.iadd, 1) := by decide +kernel
theorem dX5_readFigures_75 : decode cX5_readFigures 75 = .ok (.putfield 31, 3) := by decide +kernel
theorem dX5_readFigures_78 : decode cX5_readFigures 78 = .ok (.goto (-73), 3) := by decide +kernel
theorem dX5_readFigures_81 : decode cX5_readFigures 81 = .ok (.aload_n 0, 1) := by decide +kernel
theorem dX5_readFigures_82 : decode cX5_readFigures 82 = .ok (.aload_n 0, 1) := by decide +kernel
theorem dX5_readFigures_83 : decode cX5_readFigures 83 = .ok (.getfield 31, 3) := by decide +kernel
theorem dX5_readFigures_86 : decode cX5_readFigures 86 = .ok (.aload_n 0, 1) := by decide +kernel
theorem dX5_readFigures_87 : decode cX5_readFigures 87 = .ok (.getfield 53, 3) := by decide +kernel
theorem dX5_readFigures_90 : decode cX5_readFigures 90 = .ok (.isub, 1) := by decide +kernel
theorem dX5_readFigures_91 : decode cX5_readFigures 91 = .ok (.iconst 3, 1) := by decide +kernel
theorem dX5_readFigures_92 : decode cX5_readFigures 92 = .ok (.if_icmp .gt 7, 3) := by decide +kernel
theorem dX5_readFigures_95 : decode cX5_readFigures 95 = .ok (.iconst 2, 1) := by decide +kernel
theorem dX5_readFigures_96 : decode cX5_readFigures 96 = .ok (.goto 4, 3) := by decide +kernel
theorem dX5_readFigures_99 : decode cX5_readFigures 99 = .ok (.iconst 4, 1) := by decide +kernel
theorem dX5_readFigures_100 : decode cX5_readFigures 100 = .ok (.putfield 38, 3) := by decide +kernel
theorem dX5_readFigures_103 : decode cX5_readFigures 103 = .ok (.return_, 1) := by decide +kernel
theorem dX5_isLetter_0 : decode cX5_isLetter 0 = .ok (.iload_n 0, 1) := by decide +kernel
theorem dX5_isLetter_1 : decode cX5_isLetter 1 = .ok (.bipush 97, 2) := by decide +kernel
theorem dX5_isLetter_3 : decode cX5_isLetter 3 = .ok (.bipush 122, 2) := by decide +kernel
theorem dX5_isLetter_5 : decode cX5_isLetter 5 = .ok (.invokestatic 116, 3) := by decide +kernel
theorem dX5_isLetter_8 : decode cX5_isLetter 8 = .ok (.ireturn, 1) := by decide +kernel
theorem dX5_isFigure_0 : decode cX5_isFigure 0 = .ok (.iload_n 0, 1) := by decide +kernel
theorem dX5_isFigure_1 : decode cX5_isFigure 1 = .ok (.bipush 48, 2) := by decide +kernel
theorem dX5_isFigure_3 : decode cX5_isFigure 3 = .ok (.bipush 57, 2) := by decide +kernel
theorem dX5_isFigure_5 : decode cX5_isFigure 5 = .ok (.invokestatic 116, 3) := by decide +kernel
theorem dX5_isFigure_8 : decode cX5_isFigure 8 = .ok (.ireturn, 1) := by decide +kernel
theorem dX6_init_0 : decode cX6_init 0 = .ok (.aload_n 0, 1) := by decide +kernel
theorem dX6_init_1 : decode cX6_init 1 = .ok (.invokespecial 3, 3) := by decide +kernel
theorem dX6_init_4 : decode cX6_init 4 = .ok (.aload_n 0, 1) := by decide +kernel
theorem dX6_init_5 : decode cX6_init 5 = .ok (.new 9, 3) := by decide +kernel
theorem dX6_init_8 : decode cX6_init 8 = .ok (.dup, 1) := by decide +kernel
theorem dX6_init_9 : decode cX6_init 9 = .ok (.iconst 3, 1) := by decide +kernel
theorem dX6_init_10 : decode cX6_init 10 = .ok (.bipush 12, 2) := by decide +kernel
theorem dX6_init_12 : decode cX6_init 12 = .ok (.newarray .int, 2) := by decide +kernel
theorem dX6_init_14 : decode cX6_init 14 = .ok (.iconst 0, 1) := by decide +kernel
theorem dX6_init_15 : decode cX6_init 15 = .ok (.invokespecial 11, 3) := by decide +kernel
theorem dX6_init_18 : decode cX6_init 18 = .ok (.putfield 14, 3) := by decide +kernel
theorem dX6_init_21 : decode cX6_init 21 = .ok (.aload_n 0, 1) := by decide +kernel
theorem dX6_init_22 : decode cX6_init 22 = .ok (.new 9, 3) := by decide +kernel
theorem dX6_init_25 : decode cX6_init 25 = .ok (.dup, 1) := by decide +kernel
theorem dX6_init_26 : decode cX6_init 26 = .ok (.iconst 3, 1) := by decide +kernel
theorem dX6_init_27 : decode cX6_init 27 = .ok (.bipush 12, 2) := by decide +kernel
theorem dX6_init_29 : decode cX6_init 29 = .ok (.newarray .int, 2) := by decide +kernel
theorem dX6_init_31 : decode cX6_init 31 = .ok (.iconst 0, 1) := by decide +kernel
theorem dX6_init_32 : decode cX6_init 32 = .ok (.invokespecial 11, 3) := by decide +kernel
theorem dX6_init_35 : decode cX6_init 35 = .ok (.putfield 20, 3) := by decide +kernel
theorem dX6_init_38 : decode cX6_init 38 = .ok (.aload_n 0, 1) := by decide +kernel
theorem dX6_init_39 : decode cX6_init 39 = .ok (.new 9, 3) := by decide +kernel
theorem dX6_init_42 : decode cX6_init 42 = .ok (.dup, 1) := by decide +kernel
theorem dX6_init_43 : decode cX6_init 43 = .ok (.iconst 4, 1) := by decide +kernel
theorem dX6_init_44 : decode cX6_init 44 = .ok (.bipush 16, 2) := by decide +kernel
theorem dX6_init_46 : decode cX6_init 46 = .ok (.newarray .int, 2) := by decide +kernel
theorem dX6_init_48 : decode cX6_init 48 = .ok (.iconst 0, 1) := by decide +kernel
theorem dX6_init_49 : decode cX6_init 49 = .ok (.invokespecial 11, 3) := by decide +kernel
theorem dX6_init_52 : decode cX6_init 52 = .ok (.putfield 23, 3) := by decide +kernel
theorem dX6_init_55 : decode cX6_init 55 = .ok (.aload_n 0, 1) := by decide +kernel
theorem dX6_init_56 : decode cX6_init 56 = .ok (.new 9, 3) := by decide +kernel
theorem dX6_init_59 : decode cX6_init 59 = .ok (.dup, 1) := by decide +kernel
theorem dX6_init_60 : decode cX6_init 60 = .ok (.iconst 2, 1) := by decide +kernel
theorem dX6_init_61 : decode cX6_init 61 = .ok (.bipush 8, 2) := by decide +kernel
theorem dX6_init_63 : decode cX6_init 63 = .ok (.newarray .int, 2) := by decide +kernel
theorem dX6_init_65 : decode cX6_init 65 = .ok (.dup, 1) := by decide +kernel
theorem dX6_init_66 : decode cX6_init 66 = .ok (.iconst 0, 1) := by decide +kernel
theorem dX6_init_67 : decode cX6_init 67 = .ok (.bipush 10, 2) := by decide +kernel
theorem dX6_init_69 : decode cX6_init 69 = .ok (.iastore, 1) := by decide +kernel
theorem dX6_init_70 : decode cX6_init 70 = .ok (.dup, 1) := by decide +kernel
theorem dX6_init_71 : decode cX6_init 71 = .ok (.iconst 1, 1) := by decide +kernel
theorem dX6_init_72 : decode cX6_init 72 = .ok (.iconst 1, 1) := by decide +kernel
theorem dX6_init_73 : decode cX6_init 73 = .ok (.iastore, 1) := by decide +kernel
theorem dX6_init_74 : decode cX6_init 74 = .ok (.dup, 1) := by decide +kernel
theorem dX6_init_75 : decode cX6_init 75 = .ok (.iconst 2, 1) := by decide +kernel
theorem dX6_init_76 : decode cX6_init 76 = .ok (.bipush 10, 2) := by decide +kernel
theorem dX6_init_78 : decode cX6_init 78 = .ok (.iastore, 1) := by decide +kernel
theorem dX6_init_79 : decode cX6_init 79 = .ok (.dup, 1) := by decide +kernel
theorem dX6_init_80 : decode cX6_init 80 = .ok (.iconst 3, 1) := by decide +kernel
theorem dX6_init_81 : decode cX6_init 81 = .ok (.iconst 1, 1) := by decide +kernel
theorem dX6_init_82 : decode cX6_init 82 = .ok (.iastore, 1) := by decide +kernel
theorem dX6_init_83 : decode cX6_init 83 = .ok (.dup, 1) := by decide +kernel
theorem dX6_init_84 : decode cX6_init 84 = .ok (.iconst 4, 1) := by decide +kernel
theorem dX6_init_85 : decode cX6_init 85 = .ok (.bipush 10, 2) := by decide +kernel
theorem dX6_init_87 : decode cX6_init 87 = .ok (.iastore, 1) := by decide +kernel
theorem dX6_init_88 : decode cX6_init 88 = .ok (.dup, 1) := by decide +kernel
theorem dX6_init_89 : decode cX6_init 89 = .ok (.iconst 5, 1) := by decide +kernel
theorem dX6_init_90 : decode cX6_init 90 = .ok (.iconst 1, 1) := by decide +kernel
theorem dX6_init_91 : decode cX6_init 91 = .ok (.iastore, 1) := by decide +kernel
theorem dX6_init_92 : decode cX6_init 92 = .ok (.dup, 1) := by decide +kernel
theorem dX6_init_93 : decode cX6_init 93 = .ok (.bipush 6, 2) := by decide +kernel
theorem dX6_init_95 : decode cX6_init 95 = .ok (.bipush 10, 2) := by decide +kernel
theorem dX6_init_97 : decode cX6_init 97 = .ok (.iastore, 1) := by decide +kernel
theorem dX6_init_98 : decode cX6_init 98 = .ok (.dup, 1) := by decide +kernel
theorem dX6_init_99 : decode cX6_init 99 = .ok (.bipush 7, 2) := by decide +kernel
theorem dX6_init_101 : decode cX6_init 101 = .ok (.iconst 1, 1) := by decide +kernel
theorem dX6_init_102 : decode cX6_init 102 = .ok (.iastore, 1) := by decide +kernel
theorem dX6_init_103 : decode cX6_init 103 = .ok (.iconst 4, 1) := by decide +kernel
theorem dX6_init_104 : decode cX6_init 104 = .ok (.invokespecial 11, 3) := by decide +kernel
theorem dX6_init_107 : decode cX6_init 107 = .ok (.putfield 26, 3) := by decide +kernel
theorem dX6_init_110 : decode cX6_init 110 = .ok (.aload_n 0, 1) := by decide +kernel
theorem dX6_init_111 : decode cX6_init 111 = .ok (.new 9, 3) := by decide +kernel
theorem dX6_init_114 : decode cX6_init 114 = .ok (.dup, 1) := by decide +kernel
theorem dX6_init_115 : decode cX6_init 115 = .ok (.iconst 2, 1) := by decide +kernel
theorem dX6_init_116 : decode cX6_init 116 = .ok (.iconst 2, 1) := by decide +kernel
theorem dX6_init_117 : decode cX6_init 117 = .ok (.newarray .int, 2) := by decide +kernel
theorem dX6_init_119 : decode cX6_init 119 = .ok (.iconst 1, 1) := by decide +kernel
theorem dX6_init_120 : decode cX6_init 120 = .ok (.invokespecial 11, 3) := by decide +kernel
theorem dX6_init_123 : decode cX6_init 123 = .ok (.putfield 29, 3) := by decide +kernel
theorem dX6_init_126 : decode cX6_init 126 = .ok (.aload_n 0, 1) := by decide +kernel
theorem dX6_init_127 : decode cX6_init 127 = .ok (.new 9, 3) := by decide +kernel
theorem dX6_init_130 : decode cX6_init 130 = .ok (.dup, 1) := by decide +kernel
theorem dX6_init_131 : decode cX6_init 131 = .ok (.iconst 3, 1) := by decide +kernel
theorem dX6_init_132 : decode cX6_init 132 = .ok (.bipush 48, 2) := by decide +kernel
theorem dX6_init_134 : decode cX6_init 134 = .ok (.newarray .int, 2) := by decide +kernel
theorem dX6_init_136 : decode cX6_init 136 = .ok (.iconst 0, 1) := by decide +kernel
theorem dX6_init_137 : decode cX6_init 137 = .ok (.invokespecial 11, 3) := by decide +kernel
theorem dX6_init_140 : decode cX6_init 140 = .ok (.putfield 32, 3) := by decide +kernel
theorem dX6_init_143 : decode cX6_init 143 = .ok (.aload_n 0, 1) := by decide +kernel
theorem dX6_init_144 : decode cX6_init 144 = .ok (.new 9, 3) := by decide +kernel
theorem dX6_init_147 : decode cX6_init 147 = .ok (.dup, 1) := by decide +kernel
theorem dX6_init_148 : decode cX6_init 148 = .ok (.iconst 1, 1) := by decide +kernel
theorem dX6_init_149 : decode cX6_init 149 = .ok (.iconst 1, 1) := by decide +kernel
theorem dX6_init_150 : decode cX6_init 150 = .ok (.newarray .int, 2) := by decide +kernel
theorem dX6_init_152 : decode cX6_init 152 = .ok (.iconst 1, 1) := by decide +kernel
theorem dX6_init_153 : decode cX6_init 153 = .ok (.invokespecial 11, 3) := by decide +kernel
theorem dX6_init_156 : decode cX6_init 156 = .ok (.putfield 35, 3) := by decide +kernel
theorem dX6_init_159 : decode cX6_init 159 = .ok (.aload_n 0, 1) := by decide +kernel
theorem dX6_init_160 : decode cX6_init 160 = .ok (.new 9, 3) := by decide +kernel
theorem dX6_init_163 : decode cX6_init 163 = .ok (.dup, 1) := by decide +kernel
theorem dX6_init_164 : decode cX6_init 164 = .ok (.iconst 4, 1) := by decide +kernel
theorem dX6_init_165 : decode cX6_init 165 = .ok (.bipush 48, 2) := by decide +kernel
theorem dX6_init_167 : decode cX6_init 167 = .ok (.newarray .int, 2) := by decide +kernel
theorem dX6_init_169 : decode cX6_init 169 = .ok (.iconst 0, 1) := by decide +kernel
theorem dX6_init_170 : decode cX6_init 170 = .ok (.invokespecial 11, 3) := by decide +kernel
theorem dX6_init_173 : decode cX6_init 173 = .ok (.putfield 38, 3) := by decide +kernel
theorem dX6_init_176 : decode cX6_init 176 = .ok (.aload_n 0, 1) := by decide +kernel
theorem dX6_init_177 : decode cX6_init 177 = .ok (.new 9, 3) := by decide +kernel
theorem dX6_init_180 : decode cX6_init 180 = .ok (.dup, 1) := by decide +kernel
theorem dX6_init_181 : decode cX6_init 181 = .ok (.iconst 1, 1) := by decide +kernel
theorem dX6_init_182 : decode cX6_init 182 = .ok (.bipush 6, 2) := by decide +kernel
theorem dX6_init_184 : decode cX6_init 184 = .ok (.newarray .int, 2) := by decide +kernel
theorem dX6_init_186 : decode cX6_init 186 = .ok (.iconst 0, 1) := by decide +kernel
theorem dX6_init_187 : decode cX6_init 187 = .ok (.invokespecial 11, 3) := by decide +kernel
theorem dX6_init_190 : decode cX6_init 190 = .ok (.putfield 41, 3) := by decide +kernel
theorem dX6_init_193 : decode cX6_init 193 = .ok (.aload_n 0, 1) := by decide +kernel
theorem dX6_init_194 : decode cX6_init 194 = .ok (.new 9, 3) := by decide +kernel
theorem dX6_init_197 : decode cX6_init 197 = .ok (.dup, 1) := by decide +kernel
theorem dX6_init_198 : decode cX6_init 198 = .ok (.iconst 1, 1) := by decide +kernel
theorem dX6_init_199 : decode cX6_init 199 = .ok (.iconst 1, 1) := by decide +kernel
theorem dX6_init_200 : decode cX6_init 200 = .ok (.newarray .int, 2) := by decide +kernel
theorem dX6_init_202 : decode cX6_init 202 = .ok (.dup, 1) := by decide +kernel
theorem dX6_init_203 : decode cX6_init 203 = .ok (.iconst 0, 1) := by decide +kernel
theorem dX6_init_204 : decode cX6_init 204 = .ok (.iconst 1, 1) := by decide +kernel
theorem dX6_init_205 : decode cX6_init 205 = .ok (.iastore, 1) := by decide +kernel
theorem dX6_init_206 : decode cX6_init 206 = .ok (.iconst 1, 1) := by decide +kernel
theorem dX6_init_207 : decode cX6_init 207 = .ok (.invokespecial 11, 3) := by decide +kernel
theorem dX6_init_210 : decode cX6_init 210 = .ok (.putfield 44, 3) := by decide +kernel
theorem dX6_init_213 : decode cX6_init 213 = .ok (.aload_n 0, 1) := by decide +kernel
theorem dX6_init_214 : decode cX6_init 214 = .ok (.new 9, 3) := by decide +kernel
theorem dX6_init_217 : decode cX6_init 217 = .ok (.dup, 1) := by decide +kernel
theorem dX6_init_218 : decode cX6_init 218 = .ok (.bipush 7, 2) := by decide +kernel
theorem dX6_init_220 : decode cX6_init 220 = .ok (.bipush 21, 2) := by decide +kernel
theorem dX6_init_222 : decode cX6_init 222 = .ok (.newarray .int, 2) := by decide +kernel
theorem dX6_init_224 : decode cX6_init 224 = .ok (.dup, 1) := by decide +kernel
theorem dX6_init_225 : decode cX6_init 225 = .ok (.iconst 0, 1) := by decide +kernel
theorem dX6_init_226 : decode cX6_init 226 = .ok (.iconst 1, 1) := by decide +kernel
theorem dX6_init_227 : decode cX6_init 227 = .ok (.iastore, 1) := by decide +kernel
theorem dX6_init_228 : decode cX6_init 228 = .ok (.dup, 1) := by decide +kernel
theorem dX6_init_229 : decode cX6_init 229 = .ok (.iconst 1, 1) := by decide +kernel
theorem dX6_init_230 : decode cX6_init 230 = .ok (.iconst 0, 1) := by decide +kernel
theorem dX6_init_231 : decode cX6_init 231 = .ok (.iastore, 1) := by decide +kernel
theorem dX6_init_232 : decode cX6_init 232 = .ok (.dup, 1) := by decide +kernel
theorem dX6_init_233 : decode cX6_init 233 = .ok (.iconst 2, 1) := by decide +kernel
theorem dX6_init_234 : decode cX6_init 234 = .ok (.iconst 0, 1) := by decide +kernel
theorem dX6_init_235 : decode cX6_init 235 = .ok (.iastore, 1) := by decide +kernel
theorem dX6_init_236 : decode cX6_init 236 = .ok (.dup, 1) := by decide +kernel
theorem dX6_init_237 : decode cX6_init 237 = .ok (.iconst 3, 1) := by decide +kernel
theorem dX6_init_238 : decode cX6_init 238 = .ok (.iconst 0, 1) := by decide +kernel
theorem dX6_init_239 : decode cX6_init 239 = .ok (.iastore, 1) := by decide +kernel
theorem dX6_init_240 : decode cX6_init 240 = .ok (.dup, 1) := by decide +kernel
theorem dX6_init_241 : decode cX6_init 241 = .ok (.iconst 4, 1) := by decide +kernel
theorem dX6_init_242 : decode cX6_init 242 = .ok (.iconst 0, 1) := by decide +kernel
theorem dX6_init_243 : decode cX6_init 243 = .ok (.iastore, 1) := by decide +kernel
theorem dX6_init_244 : decode cX6_init 244 = .ok (.dup, 1) := by decide +kernel
theorem dX6_init_245 : decode cX6_init 245 = .ok (.iconst 5, 1) := by decide +kernel
theorem dX6_init_246 : decode cX6_init 246 = .ok (.iconst 0, 1) := by decide +kernel
theorem dX6_init_247 : decode cX6_init 247 = .ok (.iastore, 1) := by decide +kernel
theorem dX6_init_248 : decode cX6_init 248 = .ok (.dup, 1) := by decide +kernel
theorem dX6_init_249 : decode cX6_init 249 = .ok (.bipush 6, 2) := by decide +kernel
theorem dX6_init_251 : decode cX6_init 251 = .ok (.iconst 0, 1) := by decide +kernel
theorem dX6_init_252 : decode cX6_init 252 = .ok (.iastore, 1) := by decide +kernel
theorem dX6_init_253 : decode cX6_init 253 = .ok (.dup, 1) := by decide +kernel
theorem dX6_init_254 : decode cX6_init 254 = .ok (.bipush 7, 2) := by decide +kernel
theorem dX6_init_256 : decode cX6_init 256 = .ok (.iconst 1, 1) := by decide +kernel
theorem dX6_init_257 : decode cX6_init 257 = .ok (.iastore, 1) := by decide +kernel
theorem dX6_init_258 : decode cX6_init 258 = .ok (.dup, 1) := by decide +kernel
theorem dX6_init_259 : decode cX6_init 259 = .ok (.bipush 8, 2) := by decide +kernel
theorem dX6_init_261 : decode cX6_init 261 = .ok (.iconst 0, 1) := by decide +kernel
theorem dX6_init_262 : decode cX6_init 262 = .ok (.iastore, 1) := by decide +kernel
theorem dX6_init_263 : decode cX6_init 263 = .ok (.dup, 1) := by decide +kernel
theorem dX6_init_264 : decode cX6_init 264 = .ok (.bipush 9, 2) := by decide +kernel
theorem dX6_init_266 : decode cX6_init 266 = .ok (.iconst 0, 1) := by decide +kernel
theorem dX6_init_267 : decode cX6_init 267 = .ok (.iastore, 1) := by decide +kernel
theorem dX6_init_268 : decode cX6_init 268 = .ok (.dup, 1) := by decide +kernel
theorem dX6_init_269 : decode cX6_init 269 = .ok (.bipush 10, 2) := by decide +kernel
theorem dX6_init_271 : decode cX6_init 271 = .ok (.iconst 0, 1) := by decide +kernel
theorem dX6_init_272 : decode cX6_init 272 = .ok (.iastore, 1) := by decide +kernel
theorem dX6_init_273 : decode cX6_init 273 = .ok (.dup, 1) := by decide +kernel
theorem dX6_init_274 : decode cX6_init 274 = .ok (.bipush 11, 2) := by decide +kernel
theorem dX6_init_276 : decode cX6_init 276 = .ok (.iconst 0, 1) := by decide +kernel
theorem dX6_init_277 : decode cX6_init 277 = .ok (.iastore, 1) := by decide +kernel
theorem dX6_init_278 : decode cX6_init 278 = .ok (.dup, 1) := by decide +kernel
theorem dX6_init_279 : decode cX6_init 279 = .ok (.bipush 12, 2) := by decide +kernel
theorem dX6_init_281 : decode cX6_init 281 = .ok (.iconst 0, 1) := by decide +kernel
theorem dX6_init_282 : decode cX6_init 282 = .ok (.iastore, 1) := by decide +kernel
theorem dX6_init_283 : decode cX6_init 283 = .ok (.dup, 1) := by decide +kernel
theorem dX6_init_284 : decode cX6_init 284 = .ok (.bipush 13, 2) := by decide +kernel
theorem dX6_init_286 : decode cX6_init 286 = .ok (.iconst 0, 1) := by decide +kernel
theorem dX6_init_287 : decode cX6_init 287 = .ok (.iastore, 1) := by decide +kernel
theorem dX6_init_288 : decode cX6_init 288 = .ok (.dup, 1) := by decide +kernel
theorem dX6_init_289 : decode cX6_init 289 = .ok (.bipush 14, 2) := by decide +kernel
theorem dX6_init_291 : decode cX6_init 291 = .ok (.iconst 1, 1) := by decide +kernel
theorem dX6_init_292 : decode cX6_init 292 = .ok (.iastore, 1) := by decide +kernel
theorem dX6_init_293 : decode cX6_init 293 = .ok (.dup, 1) := by decide +kernel
theorem dX6_init_294 : decode cX6_init 294 = .ok (.bipush 15, 2) := by decide +kernel
theorem dX6_init_296 : decode cX6_init 296 = .ok (.iconst 0, 1) := by decide +kernel
theorem dX6_init_297 : decode cX6_init 297 = .ok (.iastore, 1) := by decide +kernel
theorem dX6_init_298 : decode cX6_init 298 = .ok (.dup, 1) := by decide +kernel
theorem dX6_init_299 : decode cX6_init 299 = .ok (.bipush 16, 2) := by decide +kernel
theorem dX6_init_301 : decode cX6_init 301 = .ok (.iconst 0, 1) := by decide +kernel
theorem dX6_init_302 : decode cX6_init 302 = .ok (.iastore, 1) := by decide +kernel
theorem dX6_init_303 : decode cX6_init 303 = .ok (.dup, 1) := by decide +kernel
theorem dX6_init_304 : decode cX6_init 304 = .ok (.bipush 17, 2) := by decide +kernel
theorem dX6_init_306 : decode cX6_init 306 = .ok (.iconst 0, 1) := by decide +kernel
theorem dX6_init_307 : decode cX6_init 307 = .ok (.iastore, 1) := by decide +kernel
theorem dX6_init_308 : decode cX6_init 308 = .ok (.dup, 1) := by decide +kernel
theorem dX6_init_309 : decode cX6_init 309 = .ok (.bipush 18, 2) := by decide +kernel
theorem dX6_init_311 : decode cX6_init 311 = .ok (.iconst 0, 1) := by decide +kernel
theorem dX6_init_312 : decode cX6_init 312 = .ok (.iastore, 1) := by decide +kernel
theorem dX6_init_313 : decode cX6_init 313 = .ok (.dup, 1) := by decide +kernel
theorem dX6_init_314 : decode cX6_init 314 = .ok (.bipush 19, 2) := by decide +kernel
theorem dX6_init_316 : decode cX6_init 316 = .ok (.iconst 0, 1) := by decide +kernel
theorem dX6_init_317 : decode cX6_init 317 = .ok (.iastore, 1) := by decide +kernel
theorem dX6_init_318 : decode cX6_init 318 = .ok (.dup, 1) := by decide +kernel
theorem dX6_init_319 : decode cX6_init 319 = .ok (.bipush 20, 2) := by decide +kernel
theorem dX6_init_321 : decode cX6_init 321 = .ok (.iconst 0, 1) := by decide +kernel
theorem dX6_init_322 : decode cX6_init 322 = .ok (.iastore, 1) := by decide +kernel
theorem dX6_init_323 : decode cX6_init 323 = .ok (.iconst 3, 1) := by decide +kernel
theorem dX6_init_324 : decode cX6_init 324 = .ok (.invokespecial 11, 3) := by decide +kernel
theorem dX6_init_327 : decode cX6_init 327 = .ok (.putfield 47, 3) := by decide +kernel
theorem dX6_init_330 : decode cX6_init 330 = .ok (.aload_n 0, 1) := by decide +kernel
theorem dX6_init_331 : decode cX6_init 331 = .ok (.new 9, 3) := by decide +kernel
theorem dX6_init_334 : decode cX6_init 334 = .ok (.dup, 1) := by decide +kernel
theorem dX6_init_335 : decode cX6_init 335 = .ok (.iconst 2, 1) := by decide +kernel
theorem dX6_init_336 : decode cX6_init 336 = .ok (.bipush 16, 2) := by decide +kernel
theorem dX6_init_338 : decode cX6_init 338 = .ok (.newarray .int, 2) := by decide +kernel
theorem dX6_init_340 : decode cX6_init 340 = .ok (.bipush 8, 2) := by decide +kernel
theorem dX6_init_342 : decode cX6_init 342 = .ok (.invokespecial 11, 3) := by decide +kernel
theorem dX6_init_345 : decode cX6_init 345 = .ok (.putfield 50, 3) := by decide +kernel
theorem dX6_init_348 : decode cX6_init 348 = .ok (.aload_n 0, 1) := by decide +kernel
theorem dX6_init_349 : decode cX6_init 349 = .ok (.new 9, 3) := by decide +kernel
theorem dX6_init_352 : decode cX6_init 352 = .ok (.dup, 1) := by decide +kernel
theorem dX6_init_353 : decode cX6_init 353 = .ok (.iconst 1, 1) := by decide +kernel
theorem dX6_init_354 : decode cX6_init 354 = .ok (.sipush 200, 3) := by decide +kernel
theorem dX6_init_357 : decode cX6_init 357 = .ok (.newarray .int, 2) := by decide +kernel
theorem dX6_init_359 : decode cX6_init 359 = .ok (.iconst 0, 1) := by decide +kernel
theorem dX6_init_360 : decode cX6_init 360 = .ok (.invokespecial 11, 3) := by decide +kernel
theorem dX6_init_363 : decode cX6_init 363 = .ok (.putfield 53, 3) := by decide +kernel
theorem dX6_init_366 : decode cX6_init 366 = .ok (.return_, 1) := by decide +kernel
theorem dX6_copyFrom_0 : decode cX6_copyFrom 0 = .ok (.aload_n 0, 1) := by decide +kernel
theorem dX6_copyFrom_1 : decode cX6_copyFrom 1 = .ok (.getfield 14, 3) := by decide +kernel
theorem dX6_copyFrom_4 : decode cX6_copyFrom 4 = .ok (.aload_n 1, 1) := by decide +kernel
theorem dX6_copyFrom_5 : decode cX6_copyFrom 5 = .ok (.getfield 14, 3) := by decide +kernel
theorem dX6_copyFrom_8 : decode cX6_copyFrom 8 = .ok (.invokevirtual 56, 3) := by decide +kernel
theorem dX6_copyFrom_11 : decode cX6_copyFrom 11 = .ok (.aload_n 0, 1) := by decide +kernel
theorem dX6_copyFrom_12 : decode cX6_copyFrom 12 = .ok (.getfield 20, 3) := by decide +kernel
theorem dX6_copyFrom_15 : decode cX6_copyFrom 15 = .ok (.aload_n 1, 1) := by decide +kernel
theorem dX6_copyFrom_16 : decode cX6_copyFrom 16 = .ok (.getfield 20, 3) := by decide +kernel
theorem dX6_copyFrom_19 : decode cX6_copyFrom 19 = .ok (.invokevirtual 56, 3) := by decide +kernel
theorem dX6_copyFrom_22 : decode cX6_copyFrom 22 = .ok (.aload_n 0, 1) := by decide +kernel
theorem dX6_copyFrom_23 : decode cX6_copyFrom 23 = .ok (.getfield 23, 3) := by decide +kernel
theorem dX6_copyFrom_26 : decode cX6_copyFrom 26 = .ok (.aload_n 1, 1) := by decide +kernel
theorem dX6_copyFrom_27 : decode cX6_copyFrom 27 = .ok (.getfield 23, 3) := by decide +kernel
theorem dX6_copyFrom_30 : decode cX6_copyFrom 30 = .ok (.invokevirtual 56, 3) := by decide +kernel
theorem dX6_copyFrom_33 : decode cX6_copyFrom 33 = .ok (.aload_n 0, 1) := by decide +kernel
theorem dX6_copyFrom_34 : decode cX6_copyFrom 34 = .ok (.getfield 26, 3) := by decide +kernel
theorem dX6_copyFrom_37 : decode cX6_copyFrom 37 = .ok (.aload_n 1, 1) := by decide +kernel
theorem dX6_copyFrom_38 : decode cX6_copyFrom 38 = .ok (.getfield 26, 3) := by decide +kernel
theorem dX6_copyFrom_41 : decode cX6_copyFrom 41 = .ok (.invokevirtual 56, 3) := by decide +kernel
theorem dX6_copyFrom_44 : decode cX6_copyFrom 44 = .ok (.aload_n 0, 1) := by decide +kernel
theorem dX6_copyFrom_45 : decode cX6_copyFrom 45 = .ok (.getfield 29, 3) := by decide +kernel
theorem dX6_copyFrom_48 : decode cX6_copyFrom 48 = .ok (.aload_n 1, 1) := by decide +kernel
theorem dX6_copyFrom_49 : decode cX6_copyFrom 49 = .ok (.getfield 29, 3) := by decide +kernel
theorem dX6_copyFrom_52 : decode cX6_copyFrom 52 = .ok (.invokevirtual 56, 3) := by decide +kernel
theorem dX6_copyFrom_55 : decode cX6_copyFrom 55 = .ok (.aload_n 0, 1) := by decide +kernel
theorem dX6_copyFrom_56 : decode cX6_copyFrom 56 = .ok (.getfield 32, 3) := by decide +kernel
theorem dX6_copyFrom_59 : decode cX6_copyFrom 59 = .ok (.aload_n 1, 1) := by decide +kernel
theorem dX6_copyFrom_60 : decode cX6_copyFrom 60 = .ok (.getfield 32, 3) := by decide +kernel
theorem dX6_copyFrom_63 : decode cX6_copyFrom 63 = .ok (.invokevirtual 56, 3) := by decide +kernel
theorem dX6_copyFrom_66 : decode cX6_copyFrom 66 = .ok (.aload_n 0, 1) := by decide +kernel
theorem dX6_copyFrom_67 : decode cX6_copyFrom 67 = .ok (.getfield 35, 3) := by decide +kernel
theorem dX6_copyFrom_70 : decode cX6_copyFrom 70 = .ok (.aload_n 1, 1) := by decide +kernel
theorem dX6_copyFrom_71 : decode cX6_copyFrom 71 = .ok (.getfield 35, 3) := by decide +kernel
theorem dX6_copyFrom_74 : decode cX6_copyFrom 74 = .ok (.invokevirtual 56, 3) := by decide +kernel
theorem dX6_copyFrom_77 : decode cX6_copyFrom 77 = .ok (.aload_n 0, 1) := by decide +kernel
theorem dX6_copyFrom_78 : decode cX6_copyFrom 78 = .ok (.getfield 38, 3) := by decide +kernel
theorem dX6_copyFrom_81 : decode cX6_copyFrom 81 = .ok (.aload_n 1, 1) := by decide +kernel
theorem dX6_copyFrom_82 : decode cX6_copyFrom 82 = .ok (.getfield 38, 3) := by decide +kernel
theorem dX6_copyFrom_85 : decode cX6_copyFrom 85 = .ok (.invokevirtual 56, 3) := by decide +kernel
theorem dX6_copyFrom_88 : decode cX6_copyFrom 88 = .ok (.aload_n 0, 1) := by decide +kernel
theorem dX6_copyFrom_89 : decode cX6_copyFrom 89 = .ok (.getfield 41, 3) := by decide +kernel
theorem dX6_copyFrom_92 : decode cX6_copyFrom 92 = .ok (.aload_n 1, 1) := by decide +kernel
theorem dX6_copyFrom_93 : decode cX6_copyFrom 93 = .ok (.getfield 41, 3) := by decide +kernel
theorem dX6_copyFrom_96 : decode cX6_copyFrom 96 = .ok (.invokevirtual 56, 3) := by decide +kernel
theorem dX6_copyFrom_99 : decode cX6_copyFrom 99 = .ok (.aload_n 0, 1) := by decide +kernel
theorem dX6_copyFrom_100 : decode cX6_copyFrom 100 = .ok (.getfield 44, 3) := by decide +kernel
theorem dX6_copyFrom_103 : decode cX6_copyFrom 103 = .ok (.aload_n 1, 1) := by decide +kernel
theorem dX6_copyFrom_104 : decode cX6_copyFrom 104 = .ok (.getfield 44, 3) := by decide +kernel
theorem dX6_copyFrom_107 : decode cX6_copyFrom 107 = .ok (.invokevirtual 56, 3) := by decide +kernel
theorem dX6_copyFrom_110 : decode cX6_copyFrom 110 = .ok (.aload_n 0, 1) := by decide +kernel
theorem dX6_copyFrom_111 : decode cX6_copyFrom 111 = .ok (.getfield 47, 3) := by decide +kernel
theorem dX6_copyFrom_114 : decode cX6_copyFrom 114 = .ok (.aload_n 1, 1) := by decide +kernel
theorem dX6_copyFrom_115 : decode cX6_copyFrom 115 = .ok (.getfield 47, 3) := by decide +kernel
theorem dX6_copyFrom_118 : decode cX6_copyFrom 118 = .ok (.invokevirtual 56, 3) := by decide +kernel
theorem dX6_copyFrom_121 : decode cX6_copyFrom 121 = .ok (.aload_n 0, 1) := by decide +kernel
theorem dX6_copyFrom_122 : decode cX6_copyFrom 122 = .ok (.getfield 50, 3) := by decide +kernel
theorem dX6_copyFrom_125 : decode cX6_copyFrom 125 = .ok (.aload_n 1, 1) := by decide +kernel
theorem dX6_copyFrom_126 : decode cX6_copyFrom 126 = .ok (.getfield 50, 3) := by decide +kernel
theorem dX6_copyFrom_129 : decode cX6_copyFrom 129 = .ok (.invokevirtual 56, 3) := by decide +kernel
theorem dX6_copyFrom_132 : decode cX6_copyFrom 132 = .ok (.aload_n 0, 1) := by decide +kernel
theorem dX6_copyFrom_133 : decode cX6_copyFrom 133 = .ok (.getfield 53, 3) := by decide +kernel
theorem dX6_copyFrom_136 : decode cX6_copyFrom 136 = .ok (.aload_n 1, 1) := by decide +kernel
theorem dX6_copyFrom_137 : decode cX6_copyFrom 137 = .ok (.getfield 53, 3) := by decide +kernel
theorem dX6_copyFrom_140 : decode cX6_copyFrom 140 = .ok (.invokevirtual 56, 3) := by decide +kernel
theorem dX6_copyFrom_143 : decode cX6_copyFrom 143 = .ok (.return_, 1) := by decide +kernel
theorem dX6_rowsOf_0 : decode cX6_rowsOf 0 = .ok (.iload_n 1, 1) := by decide +kernel
theorem dX6_rowsOf_1 : decode cX6_rowsOf 1 = .ok (.tableswitch 87 0 5 #[39, 47, 55, 63, 71, 79], 39) := by decide +kernel
theorem dX6_rowsOf_40 : decode cX6_rowsOf 40 = .ok (.aload_n 0, 1) := by decide +kernel
theorem dX6_rowsOf_41 : decode cX6_rowsOf 41 = .ok (.getfield 14, 3) := by decide +kernel
theorem dX6_rowsOf_44 : decode cX6_rowsOf 44 = .ok (.getfield 60, 3) := by decide +kernel
theorem dX6_rowsOf_47 : decode cX6_rowsOf 47 = .ok (.ireturn, 1) := by decide +kernel
theorem dX6_rowsOf_48 : decode cX6_rowsOf 48 = .ok (.aload_n 0, 1) := by decide +kernel
theorem dX6_rowsOf_49 : decode cX6_rowsOf 49 = .ok (.getfield 20, 3) := by decide +kernel
theorem dX6_rowsOf_52 : decode cX6_rowsOf 52 = .ok (.getfield 60, 3) := by decide +kernel
theorem dX6_rowsOf_55 : decode cX6_rowsOf 55 = .ok (.ireturn, 1) := by decide +kernel
theorem dX6_rowsOf_56 : decode cX6_rowsOf 56 = .ok (.aload_n 0, 1) := by decide +kernel
theorem dX6_rowsOf_57 : decode cX6_rowsOf 57 = .ok (.getfield 23, 3) := by decide +kernel
theorem dX6_rowsOf_60 : decode cX6_rowsOf 60 = .ok (.getfield 60, 3) := by decide +kernel
theorem dX6_rowsOf_63 : decode cX6_rowsOf 63 = .ok (.ireturn, 1) := by decide +kernel
theorem dX6_rowsOf_64 : decode cX6_rowsOf 64 = .ok (.aload_n 0, 1) := by decide +kernel
theorem dX6_rowsOf_65 : decode cX6_rowsOf 65 = .ok (.getfield 32, 3) := by decide +kernel
theorem dX6_rowsOf_68 : decode cX6_rowsOf 68 = .ok (.getfield 60, 3) := by decide +kernel
theorem dX6_rowsOf_71 : decode cX6_rowsOf 71 = .ok (.ireturn, 1) := by decide +kernel
theorem dX6_rowsOf_72 : decode cX6_rowsOf 72 = .ok (.aload_n 0, 1) := by decide +kernel
theorem dX6_rowsOf_73 : decode cX6_rowsOf 73 = .ok (.getfield 38, 3) := by decide +kernel
theorem dX6_rowsOf_76 : decode cX6_rowsOf 76 = .ok (.getfield 60, 3) := by decide +kernel
theorem dX6_rowsOf_79 : decode cX6_rowsOf 79 = .ok (.ireturn, 1) := by decide +kernel
theorem dX6_rowsOf_80 : decode cX6_rowsOf 80 = .ok (.aload_n 0, 1) := by decide +kernel
theorem dX6_rowsOf_81 : decode cX6_rowsOf 81 = .ok (.getfield 41, 3) := by decide +kernel
theorem dX6_rowsOf_84 : decode cX6_rowsOf 84 = .ok (.getfield 60, 3) := by decide +kernel
theorem dX6_rowsOf_87 : decode cX6_rowsOf 87 = .ok (.ireturn, 1) := by decide +kernel
theorem dX6_rowsOf_88 : decode cX6_rowsOf 88 = .ok (.aload_n 0, 1) := by decide +kernel
theorem dX6_rowsOf_89 : decode cX6_rowsOf 89 = .ok (.getfield 53, 3) := by decide +kernel
theorem dX6_rowsOf_92 : decode cX6_rowsOf 92 = .ok (.getfield 60, 3) := by decide +kernel
theorem dX6_rowsOf_95 : decode cX6_rowsOf 95 = .ok (.ireturn, 1) := by decide +kernel
theorem dX6_mixedInto_0 : decode cX6_mixedInto 0 = .ok (.aload_n 0, 1) := by decide +kernel
theorem dX6_mixedInto_1 : decode cX6_mixedInto 1 = .ok (.getfield 23, 3) := by decide +kernel
theorem dX6_mixedInto_4 : decode cX6_mixedInto 4 = .ok (.aload_n 0, 1) := by decide +kernel
theorem dX6_mixedInto_5 : decode cX6_mixedInto 5 = .ok (.getfield 20, 3) := by decide +kernel
theorem dX6_mixedInto_8 : decode cX6_mixedInto 8 = .ok (.aload_n 0, 1) := by decide +kernel
theorem dX6_mixedInto_9 : decode cX6_mixedInto 9 = .ok (.getfield 14, 3) := by decide +kernel
theorem dX6_mixedInto_12 : decode cX6_mixedInto 12 = .ok (.lload_n 1, 1) := by decide +kernel
theorem dX6_mixedInto_13 : decode cX6_mixedInto 13 = .ok (.invokevirtual 64, 3) := by decide +kernel
theorem dX6_mixedInto_16 : decode cX6_mixedInto 16 = .ok (.invokevirtual 64, 3) := by decide +kernel
theorem dX6_mixedInto_19 : decode cX6_mixedInto 19 = .ok (.invokevirtual 64, 3) := by decide +kernel
theorem dX6_mixedInto_22 : decode cX6_mixedInto 22 = .ok (.lstore_n 3, 1) := by decide +kernel
theorem dX6_mixedInto_23 : decode cX6_mixedInto 23 = .ok (.aload_n 0, 1) := by decide +kernel
theorem dX6_mixedInto_24 : decode cX6_mixedInto 24 = .ok (.getfield 35, 3) := by decide +kernel
theorem dX6_mixedInto_27 : decode cX6_mixedInto 27 = .ok (.aload_n 0, 1) := by decide +kernel
theorem dX6_mixedInto_28 : decode cX6_mixedInto 28 = .ok (.getfield 32, 3) := by decide +kernel
theorem dX6_mixedInto_31 : decode cX6_mixedInto 31 = .ok (.aload_n 0, 1) := by decide +kernel
theorem dX6_mixedInto_32 : decode cX6_mixedInto 32 = .ok (.getfield 29, 3) := by decide +kernel
theorem dX6_mixedInto_35 : decode cX6_mixedInto 35 = .ok (.aload_n 0, 1) := by decide +kernel
theorem dX6_mixedInto_36 : decode cX6_mixedInto 36 = .ok (.getfield 26, 3) := by decide +kernel
theorem dX6_mixedInto_39 : decode cX6_mixedInto 39 = .ok (.lload_n 3, 1) := by decide +kernel
theorem dX6_mixedInto_40 : decode cX6_mixedInto 40 = .ok (.invokevirtual 64, 3) := by decide +kernel
theorem dX6_mixedInto_43 : decode cX6_mixedInto 43 = .ok (.invokevirtual 64, 3) := by decide +kernel
theorem dX6_mixedInto_46 : decode cX6_mixedInto 46 = .ok (.invokevirtual 64, 3) := by decide +kernel
theorem dX6_mixedInto_49 : decode cX6_mixedInto 49 = .ok (.invokevirtual 64, 3) := by decide +kernel
theorem dX6_mixedInto_52 : decode cX6_mixedInto 52 = .ok (.lstore 5, 2) := by decide +kernel
theorem dX6_mixedInto_54 : decode cX6_mixedInto 54 = .ok (.aload_n 0, 1) := by decide +kernel
theorem dX6_mixedInto_55 : decode cX6_mixedInto 55 = .ok (.getfield 44, 3) := by decide +kernel
theorem dX6_mixedInto_58 : decode cX6_mixedInto 58 = .ok (.aload_n 0, 1) := by decide +kernel
theorem dX6_mixedInto_59 : decode cX6_mixedInto 59 = .ok (.getfield 41, 3) := by decide +kernel
theorem dX6_mixedInto_62 : decode cX6_mixedInto 62 = .ok (.aload_n 0, 1) := by decide +kernel
theorem dX6_mixedInto_63 : decode cX6_mixedInto 63 = .ok (.getfield 38, 3) := by decide +kernel
theorem dX6_mixedInto_66 : decode cX6_mixedInto 66 = .ok (.lload 5, 2) := by decide +kernel
theorem dX6_mixedInto_68 : decode cX6_mixedInto 68 = .ok (.invokevirtual 64, 3) := by decide +kernel
theorem dX6_mixedInto_71 : decode cX6_mixedInto 71 = .ok (.invokevirtual 64, 3) := by decide +kernel
theorem dX6_mixedInto_74 : decode cX6_mixedInto 74 = .ok (.invokevirtual 64, 3) := by decide +kernel
theorem dX6_mixedInto_77 : decode cX6_mixedInto 77 = .ok (.lstore 7, 2) := by decide +kernel
theorem dX6_mixedInto_79 : decode cX6_mixedInto 79 = .ok (.aload_n 0, 1) := by decide +kernel
theorem dX6_mixedInto_80 : decode cX6_mixedInto 80 = .ok (.getfield 53, 3) := by decide +kernel
theorem dX6_mixedInto_83 : decode cX6_mixedInto 83 = .ok (.aload_n 0, 1) := by decide +kernel
theorem dX6_mixedInto_84 : decode cX6_mixedInto 84 = .ok (.getfield 50, 3) := by decide +kernel
theorem dX6_mixedInto_87 : decode cX6_mixedInto 87 = .ok (.aload_n 0, 1) := by decide +kernel
theorem dX6_mixedInto_88 : decode cX6_mixedInto 88 = .ok (.getfield 47, 3) := by decide +kernel
theorem dX6_mixedInto_91 : decode cX6_mixedInto 91 = .ok (.lload 7, 2) := by decide +kernel
theorem dX6_mixedInto_93 : decode cX6_mixedInto 93 = .ok (.invokevirtual 64, 3) := by decide +kernel
theorem dX6_mixedInto_96 : decode cX6_mixedInto 96 = .ok (.invokevirtual 64, 3) := by decide +kernel
theorem dX6_mixedInto_99 : decode cX6_mixedInto 99 = .ok (.invokevirtual 64, 3) := by decide +kernel
theorem dX6_mixedInto_102 : decode cX6_mixedInto 102 = .ok (.lreturn, 1) := by decide +kernel
theorem dX6_putRight_0 : decode cX6_putRight 0 = .ok (.aload_n 0, 1) := by decide +kernel
theorem dX6_putRight_1 : decode cX6_putRight 1 = .ok (.getfield 32, 3) := by decide +kernel
theorem dX6_putRight_4 : decode cX6_putRight 4 = .ok (.iload_n 1, 1) := by decide +kernel
theorem dX6_putRight_5 : decode cX6_putRight 5 = .ok (.iconst 1, 1) := by decide +kernel
theorem dX6_putRight_6 : decode cX6_putRight 6 = .ok (.invokevirtual 68, 3) := by decide +kernel
theorem dX6_putRight_9 : decode cX6_putRight 9 = .ok (.aload_n 0, 1) := by decide +kernel
theorem dX6_putRight_10 : decode cX6_putRight 10 = .ok (.getfield 32, 3) := by decide +kernel
theorem dX6_putRight_13 : decode cX6_putRight 13 = .ok (.iload_n 1, 1) := by decide +kernel
theorem dX6_putRight_14 : decode cX6_putRight 14 = .ok (.iconst 2, 1) := by decide +kernel
theorem dX6_putRight_15 : decode cX6_putRight 15 = .ok (.invokevirtual 68, 3) := by decide +kernel
theorem dX6_putRight_18 : decode cX6_putRight 18 = .ok (.aload_n 0, 1) := by decide +kernel
theorem dX6_putRight_19 : decode cX6_putRight 19 = .ok (.getfield 35, 3) := by decide +kernel
theorem dX6_putRight_22 : decode cX6_putRight 22 = .ok (.iconst 0, 1) := by decide +kernel
theorem dX6_putRight_23 : decode cX6_putRight 23 = .ok (.iconst 0, 1) := by decide +kernel
theorem dX6_putRight_24 : decode cX6_putRight 24 = .ok (.invokevirtual 68, 3) := by decide +kernel
theorem dX6_putRight_27 : decode cX6_putRight 27 = .ok (.imul, 1) := by decide +kernel
theorem dX6_putRight_28 : decode cX6_putRight 28 = .ok (.iadd, 1) := by decide +kernel
theorem dX6_putRight_29 : decode cX6_putRight 29 = .ok (.ireturn, 1) := by decide +kernel
theorem dX6_sortWeight_0 : decode cX6_sortWeight 0 = .ok (.aload_n 0, 1) := by decide +kernel
theorem dX6_sortWeight_1 : decode cX6_sortWeight 1 = .ok (.getfield 47, 3) := by decide +kernel
theorem dX6_sortWeight_4 : decode cX6_sortWeight 4 = .ok (.iload_n 1, 1) := by decide +kernel
theorem dX6_sortWeight_5 : decode cX6_sortWeight 5 = .ok (.iconst 1, 1) := by decide +kernel
theorem dX6_sortWeight_6 : decode cX6_sortWeight 6 = .ok (.iload_n 2, 1) := by decide +kernel
theorem dX6_sortWeight_7 : decode cX6_sortWeight 7 = .ok (.iadd, 1) := by decide +kernel
theorem dX6_sortWeight_8 : decode cX6_sortWeight 8 = .ok (.invokevirtual 68, 3) := by decide +kernel
theorem dX6_sortWeight_11 : decode cX6_sortWeight 11 = .ok (.iconst 1, 1) := by decide +kernel
theorem dX6_sortWeight_12 : decode cX6_sortWeight 12 = .ok (.iadd, 1) := by decide +kernel
theorem dX6_sortWeight_13 : decode cX6_sortWeight 13 = .ok (.aload_n 0, 1) := by decide +kernel
theorem dX6_sortWeight_14 : decode cX6_sortWeight 14 = .ok (.getfield 47, 3) := by decide +kernel
theorem dX6_sortWeight_17 : decode cX6_sortWeight 17 = .ok (.iload_n 1, 1) := by decide +kernel
theorem dX6_sortWeight_18 : decode cX6_sortWeight 18 = .ok (.iconst 0, 1) := by decide +kernel
theorem dX6_sortWeight_19 : decode cX6_sortWeight 19 = .ok (.invokevirtual 68, 3) := by decide +kernel
theorem dX6_sortWeight_22 : decode cX6_sortWeight 22 = .ok (.imul, 1) := by decide +kernel
theorem dX6_sortWeight_23 : decode cX6_sortWeight 23 = .ok (.i2l, 1) := by decide +kernel
theorem dX6_sortWeight_24 : decode cX6_sortWeight 24 = .ok (.lstore_n 3, 1) := by decide +kernel
theorem dX6_sortWeight_25 : decode cX6_sortWeight 25 = .ok (.iconst 0, 1) := by decide +kernel
theorem dX6_sortWeight_26 : decode cX6_sortWeight 26 = .ok (.istore 5, 2) := by decide +kernel
theorem dX6_sortWeight_28 : decode cX6_sortWeight 28 = .ok (.iload 5, 2) := by decide +kernel
theorem dX6_sortWeight_30 : decode cX6_sortWeight 30 = .ok (.iconst 3, 1) := by decide +kernel
theorem dX6_sortWeight_31 : decode cX6_sortWeight 31 = .ok (.if_icmp .ge 28, 3) := by decide +kernel
theorem dX6_sortWeight_34 : decode cX6_sortWeight 34 = .ok (.iload 5, 2) := by decide +kernel
theorem dX6_sortWeight_36 : decode cX6_sortWeight 36 = .ok (.iload_n 1, 1) := by decide +kernel
theorem dX6_sortWeight_37 : decode cX6_sortWeight 37 = .ok (.if_icmp .eq 16, 3) := by decide +kernel
theorem dX6_sortWeight_40 : decode cX6_sortWeight 40 = .ok (.lload_n 3, 1) := by decide +kernel
theorem dX6_sortWeight_41 : decode cX6_sortWeight 41 = .ok (.aload_n 0, 1) := by decide +kernel
theorem dX6_sortWeight_42 : decode cX6_sortWeight 42 = .ok (.iload 5, 2) := by decide +kernel
theorem dX6_sortWeight_44 : decode cX6_sortWeight 44 = .ok (.invokevirtual 72, 3) := by decide +kernel
theorem dX6_sortWeight_47 : decode cX6_sortWeight 47 = .ok (.bipush 6, 2) := by decide +kernel
theorem dX6_sortWeight_49 : decode cX6_sortWeight 49 = .ok (.iadd, 1) := by decide +kernel
theorem dX6_sortWeight_50 : decode cX6_sortWeight 50 = .ok (.i2l, 1) := by decide +kernel
theorem dX6_sortWeight_51 : decode cX6_sortWeight 51 = .ok (.lmul, 1) := by decide +kernel
theorem dX6_sortWeight_52 : decode cX6_sortWeight 52 = .ok (.lstore_n 3, 1) := by decide +kernel
theorem dX6_sortWeight_53 : decode cX6_sortWeight 53 = .ok (.iinc 5 1, 3) := by decide +kernel
theorem dX6_sortWeight_56 : decode cX6_sortWeight 56 = .ok (.goto (-28), 3) := by decide +kernel
theorem dX6_sortWeight_59 : decode cX6_sortWeight 59 = .ok (.lload_n 3, 1) := by decide +kernel
theorem dX6_sortWeight_60 : decode cX6_sortWeight 60 = .ok (.lreturn, 1) := by decide +kernel
theorem dX6_knownOf_0 : decode cX6_knownOf 0 = .ok (.iconst 0, 1) := by decide +kernel
theorem dX6_knownOf_1 : decode cX6_knownOf 1 = .ok (.istore_n 2, 1) := by decide +kernel
theorem dX6_knownOf_2 : decode cX6_knownOf 2 = .ok (.iconst 0, 1) := by decide +kernel
theorem dX6_knownOf_3 : decode cX6_knownOf 3 = .ok (.istore_n 3, 1) := by decide +kernel
theorem dX6_knownOf_4 : decode cX6_knownOf 4 = .ok (.iload_n 3, 1) := by decide +kernel
theorem dX6_knownOf_5 : decode cX6_knownOf 5 = .ok (.bipush 6, 2) := by decide +kernel
theorem dX6_knownOf_7 : decode cX6_knownOf 7 = .ok (.if_icmp .ge 23, 3) := by decide +kernel
theorem dX6_knownOf_10 : decode cX6_knownOf 10 = .ok (.iload_n 2, 1) := by decide +kernel
theorem dX6_knownOf_11 : decode cX6_knownOf 11 = .ok (.aload_n 0, 1) := by decide +kernel
theorem dX6_knownOf_12 : decode cX6_knownOf 12 = .ok (.getfield 47, 3) := by decide +kernel
theorem dX6_knownOf_15 : decode cX6_knownOf 15 = .ok (.iload_n 1, 1) := by decide +kernel
theorem dX6_knownOf_16 : decode cX6_knownOf 16 = .ok (.iconst 1, 1) := by decide +kernel
theorem dX6_knownOf_17 : decode cX6_knownOf 17 = .ok (.iload_n 3, 1) := by decide +kernel
theorem dX6_knownOf_18 : decode cX6_knownOf 18 = .ok (.iadd, 1) := by decide +kernel
theorem dX6_knownOf_19 : decode cX6_knownOf 19 = .ok (.invokevirtual 68, 3) := by decide +kernel
theorem dX6_knownOf_22 : decode cX6_knownOf 22 = .ok (.iadd, 1) := by decide +kernel
theorem dX6_knownOf_23 : decode cX6_knownOf 23 = .ok (.istore_n 2, 1) := by decide +kernel
theorem dX6_knownOf_24 : decode cX6_knownOf 24 = .ok (.iinc 3 1, 3) := by decide +kernel
theorem dX6_knownOf_27 : decode cX6_knownOf 27 = .ok (.goto (-23), 3) := by decide +kernel
theorem dX6_knownOf_30 : decode cX6_knownOf 30 = .ok (.iload_n 2, 1) := by decide +kernel
theorem dX6_knownOf_31 : decode cX6_knownOf 31 = .ok (.ireturn, 1) := by decide +kernel
theorem dX6_misfits_0 : decode cX6_misfits 0 = .ok (.iconst 0, 1) := by decide +kernel
theorem dX6_misfits_1 : decode cX6_misfits 1 = .ok (.istore_n 2, 1) := by decide +kernel
theorem dX6_misfits_2 : decode cX6_misfits 2 = .ok (.iconst 0, 1) := by decide +kernel
theorem dX6_misfits_3 : decode cX6_misfits 3 = .ok (.istore_n 3, 1) := by decide +kernel
theorem dX6_misfits_4 : decode cX6_misfits 4 = .ok (.iload_n 3, 1) := by decide +kernel
theorem dX6_misfits_5 : decode cX6_misfits 5 = .ok (.bipush 8, 2) := by decide +kernel
theorem dX6_misfits_7 : decode cX6_misfits 7 = .ok (.if_icmp .ge 30, 3) := by decide +kernel
theorem dX6_misfits_10 : decode cX6_misfits 10 = .ok (.iload_n 2, 1) := by decide +kernel
theorem dX6_misfits_11 : decode cX6_misfits 11 = .ok (.aload_n 0, 1) := by decide +kernel
theorem dX6_misfits_12 : decode cX6_misfits 12 = .ok (.getfield 50, 3) := by decide +kernel
theorem dX6_misfits_15 : decode cX6_misfits 15 = .ok (.iload_n 3, 1) := by decide +kernel
theorem dX6_misfits_16 : decode cX6_misfits 16 = .ok (.iload_n 3, 1) := by decide +kernel
theorem dX6_misfits_17 : decode cX6_misfits 17 = .ok (.iload_n 1, 1) := by decide +kernel
theorem dX6_misfits_18 : decode cX6_misfits 18 = .ok (.if_icmp .ge 7, 3) := by decide +kernel
theorem dX6_misfits_21 : decode cX6_misfits 21 = .ok (.iconst 0, 1) := by decide +kernel
theorem dX6_misfits_22 : decode cX6_misfits 22 = .ok (.goto 4, 3) := by decide +kernel
theorem dX6_misfits_25 : decode cX6_misfits 25 = .ok (.iconst 1, 1) := by decide +kernel
theorem dX6_misfits_26 : decode cX6_misfits 26 = .ok (.invokevirtual 68, 3) := by decide +kernel
theorem dX6_misfits_29 : decode cX6_misfits 29 = .ok (.iadd, 1) := by decide +kernel
theorem dX6_misfits_30 : decode cX6_misfits 30 = .ok (.istore_n 2, 1) := by decide +kernel
theorem dX6_misfits_31 : decode cX6_misfits 31 = .ok (.iinc 3 1, 3) := by decide +kernel
theorem dX6_misfits_34 : decode cX6_misfits 34 = .ok (.goto (-30), 3) := by decide +kernel
theorem dX6_misfits_37 : decode cX6_misfits 37 = .ok (.iload_n 2, 1) := by decide +kernel
theorem dX6_misfits_38 : decode cX6_misfits 38 = .ok (.ireturn, 1) := by decide +kernel
theorem dX7_init_0 : decode cX7_init 0 = .ok (.aload_n 0, 1) := by decide +kernel
theorem dX7_init_1 : decode cX7_init 1 = .ok (.invokespecial 3, 3) := by decide +kernel
theorem dX7_init_4 : decode cX7_init 4 = .ok (.aload_n 0, 1) := by decide +kernel
theorem dX7_init_5 : decode cX7_init 5 = .ok (.iload_n 1, 1) := by decide +kernel
theorem dX7_init_6 : decode cX7_init 6 = .ok (.putfield 9, 3) := by decide +kernel
theorem dX7_init_9 : decode cX7_init 9 = .ok (.aload_n 0, 1) := by decide +kernel
theorem dX7_init_10 : decode cX7_init 10 = .ok (.aload_n 2, 1) := by decide +kernel
theorem dX7_init_11 : decode cX7_init 11 = .ok (.putfield 15, 3) := by decide +kernel
theorem dX7_init_14 : decode cX7_init 14 = .ok (.aload_n 0, 1) := by decide +kernel
theorem dX7_init_15 : decode cX7_init 15 = .ok (.iload_n 3, 1) := by decide +kernel
theorem dX7_init_16 : decode cX7_init 16 = .ok (.putfield 19, 3) := by decide +kernel
theorem dX7_init_19 : decode cX7_init 19 = .ok (.return_, 1) := by decide +kernel
theorem dX7_isFull_0 : decode cX7_isFull 0 = .ok (.aload_n 0, 1) := by decide +kernel
theorem dX7_isFull_1 : decode cX7_isFull 1 = .ok (.getfield 19, 3) := by decide +kernel
theorem dX7_isFull_4 : decode cX7_isFull 4 = .ok (.iconst 1, 1) := by decide +kernel
theorem dX7_isFull_5 : decode cX7_isFull 5 = .ok (.iadd, 1) := by decide +kernel
theorem dX7_isFull_6 : decode cX7_isFull 6 = .ok (.aload_n 0, 1) := by decide +kernel
theorem dX7_isFull_7 : decode cX7_isFull 7 = .ok (.getfield 9, 3) := by decide +kernel
theorem dX7_isFull_10 : decode cX7_isFull 10 = .ok (.imul, 1) := by decide +kernel
theorem dX7_isFull_11 : decode cX7_isFull 11 = .ok (.aload_n 0, 1) := by decide +kernel
theorem dX7_isFull_12 : decode cX7_isFull 12 = .ok (.getfield 15, 3) := by decide +kernel
theorem dX7_isFull_15 : decode cX7_isFull 15 = .ok (.arraylength, 1) := by decide +kernel
theorem dX7_isFull_16 : decode cX7_isFull 16 = .ok (.if_icmp .le 7, 3) := by decide +kernel
theorem dX7_isFull_19 : decode cX7_isFull 19 = .ok (.iconst 1, 1) := by decide +kernel
theorem dX7_isFull_20 : decode cX7_isFull 20 = .ok (.goto 4, 3) := by decide +kernel
theorem dX7_isFull_23 : decode cX7_isFull 23 = .ok (.iconst 0, 1) := by decide +kernel
theorem dX7_isFull_24 : decode cX7_isFull 24 = .ok (.ireturn, 1) := by decide +kernel
theorem dX7_has_0 : decode cX7_has 0 = .ok (.iload_n 1, 1) := by decide +kernel
theorem dX7_has_1 : decode cX7_has 1 = .ok (.ifCond .lt 15, 3) := by decide +kernel
theorem dX7_has_4 : decode cX7_has 4 = .ok (.iload_n 1, 1) := by decide +kernel
theorem dX7_has_5 : decode cX7_has 5 = .ok (.aload_n 0, 1) := by decide +kernel
theorem dX7_has_6 : decode cX7_has 6 = .ok (.getfield 19, 3) := by decide +kernel
theorem dX7_has_9 : decode cX7_has 9 = .ok (.if_icmp .ge 7, 3) := by decide +kernel
theorem dX7_has_12 : decode cX7_has 12 = .ok (.iconst 1, 1) := by decide +kernel
theorem dX7_has_13 : decode cX7_has 13 = .ok (.goto 4, 3) := by decide +kernel
theorem dX7_has_16 : decode cX7_has 16 = .ok (.iconst 0, 1) := by decide +kernel
theorem dX7_has_17 : decode cX7_has 17 = .ok (.ireturn, 1) := by decide +kernel
theorem dX7_append_0 : decode cX7_append 0 = .ok (.aload_n 0, 1) := by decide +kernel
theorem dX7_append_1 : decode cX7_append 1 = .ok (.getfield 19, 3) := by decide +kernel
theorem dX7_append_4 : decode cX7_append 4 = .ok (.istore 5, 2) := by decide +kernel
theorem dX7_append_6 : decode cX7_append 6 = .ok (.aload_n 0, 1) := by decide +kernel
theorem dX7_append_7 : decode cX7_append 7 = .ok (.dup, 1) := by decide +kernel
theorem dX7_append_8 : decode cX7_append 8 = .ok (.getfield 19, 3) := by decide +kernel
theorem dX7_append_11 : decode cX7_append 11 = .ok (.iconst 1, 1) := by decide +kernel
theorem dX7_append_12 : decode cX7_append 12 = .ok (.iadd, 1) := by decide +kernel
theorem dX7_append_13 : decode cX7_append 13 = .ok (.putfield 19, 3) := by decide +kernel
theorem dX7_append_16 : decode cX7_append 16 = .ok (.aload_n 0, 1) := by decide +kernel
theorem dX7_append_17 : decode cX7_append 17 = .ok (.iload 5, 2) := by decide +kernel
theorem dX7_append_19 : decode cX7_append 19 = .ok (.iconst 0, 1) := by decide +kernel
theorem dX7_append_20 : decode cX7_append 20 = .ok (.iload_n 1, 1) := by decide +kernel
theorem dX7_append_21 : decode cX7_append 21 = .ok (.invokevirtual 22, 3) := by decide +kernel
theorem dX7_append_24 : decode cX7_append 24 = .ok (.pop, 1) := by decide +kernel
theorem dX7_append_25 : decode cX7_append 25 = .ok (.aload_n 0, 1) := by decide +kernel
theorem dX7_append_26 : decode cX7_append 26 = .ok (.iload 5, 2) := by decide +kernel
theorem dX7_append_28 : decode cX7_append 28 = .ok (.iconst 1, 1) := by decide +kernel
theorem dX7_append_29 : decode cX7_append 29 = .ok (.iload_n 2, 1) := by decide +kernel
theorem dX7_append_30 : decode cX7_append 30 = .ok (.invokevirtual 22, 3) := by decide +kernel
theorem dX7_append_33 : decode cX7_append 33 = .ok (.pop, 1) := by decide +kernel
theorem dX7_append_34 : decode cX7_append 34 = .ok (.aload_n 0, 1) := by decide +kernel
theorem dX7_append_35 : decode cX7_append 35 = .ok (.iload 5, 2) := by decide +kernel
theorem dX7_append_37 : decode cX7_append 37 = .ok (.iconst 2, 1) := by decide +kernel
theorem dX7_append_38 : decode cX7_append 38 = .ok (.iload_n 3, 1) := by decide +kernel
theorem dX7_append_39 : decode cX7_append 39 = .ok (.invokevirtual 22, 3) := by decide +kernel
theorem dX7_append_42 : decode cX7_append 42 = .ok (.pop, 1) := by decide +kernel
theorem dX7_append_43 : decode cX7_append 43 = .ok (.aload_n 0, 1) := by decide +kernel
theorem dX7_append_44 : decode cX7_append 44 = .ok (.iload 5, 2) := by decide +kernel
theorem dX7_append_46 : decode cX7_append 46 = .ok (.iconst 3, 1) := by decide +kernel
theorem dX7_append_47 : decode cX7_append 47 = .ok (.iload 4, 2) := by decide +kernel
theorem dX7_append_49 : decode cX7_append 49 = .ok (.invokevirtual 22, 3) := by decide +kernel
theorem dX7_append_52 : decode cX7_append 52 = .ok (.pop, 1) := by decide +kernel
theorem dX7_append_53 : decode cX7_append 53 = .ok (.iload 5, 2) := by decide +kernel
theorem dX7_append_55 : decode cX7_append 55 = .ok (.ireturn, 1) := by decide +kernel
theorem dX7_appendRow_0 : decode cX7_appendRow 0 = .ok (.aload_n 0, 1) := by decide +kernel
theorem dX7_appendRow_1 : decode cX7_appendRow 1 = .ok (.getfield 19, 3) := by decide +kernel
theorem dX7_appendRow_4 : decode cX7_appendRow 4 = .ok (.istore_n 2, 1) := by decide +kernel
theorem dX7_appendRow_5 : decode cX7_appendRow 5 = .ok (.aload_n 0, 1) := by decide +kernel
theorem dX7_appendRow_6 : decode cX7_appendRow 6 = .ok (.dup, 1) := by decide +kernel
theorem dX7_appendRow_7 : decode cX7_appendRow 7 = .ok (.getfield 19, 3) := by decide +kernel
theorem dX7_appendRow_10 : decode cX7_appendRow 10 = .ok (.iconst 1, 1) := by decide +kernel
theorem dX7_appendRow_11 : decode cX7_appendRow 11 = .ok (.iadd, 1) := by decide +kernel
theorem dX7_appendRow_12 : decode cX7_appendRow 12 = .ok (.putfield 19, 3) := by decide +kernel
theorem dX7_appendRow_15 : decode cX7_appendRow 15 = .ok (.iconst 0, 1) := by decide +kernel
theorem dX7_appendRow_16 : decode cX7_appendRow 16 = .ok (.istore_n 3, 1) := by decide +kernel
theorem dX7_appendRow_17 : decode cX7_appendRow 17 = .ok (.iload_n 3, 1) := by decide +kernel
theorem dX7_appendRow_18 : decode cX7_appendRow 18 = .ok (.aload_n 0, 1) := by decide +kernel
theorem dX7_appendRow_19 : decode cX7_appendRow 19 = .ok (.getfield 9, 3) := by decide +kernel
theorem dX7_appendRow_22 : decode cX7_appendRow 22 = .ok (.if_icmp .ge 25, 3) := by decide +kernel
theorem dX7_appendRow_25 : decode cX7_appendRow 25 = .ok (.iload_n 3, 1) := by decide +kernel
theorem dX7_appendRow_26 : decode cX7_appendRow 26 = .ok (.aload_n 1, 1) := by decide +kernel
theorem dX7_appendRow_27 : decode cX7_appendRow 27 = .ok (.arraylength, 1) := by decide +kernel
theorem dX7_appendRow_28 : decode cX7_appendRow 28 = .ok (.if_icmp .ge 19, 3) := by decide +kernel
theorem dX7_appendRow_31 : decode cX7_appendRow 31 = .ok (.aload_n 0, 1) := by decide +kernel
theorem dX7_appendRow_32 : decode cX7_appendRow 32 = .ok (.iload_n 2, 1) := by decide +kernel
theorem dX7_appendRow_33 : decode cX7_appendRow 33 = .ok (.iload_n 3, 1) := by decide +kernel
theorem dX7_appendRow_34 : decode cX7_appendRow 34 = .ok (.aload_n 1, 1) := by decide +kernel
theorem dX7_appendRow_35 : decode cX7_appendRow 35 = .ok (.iload_n 3, 1) := by decide +kernel
theorem dX7_appendRow_36 : decode cX7_appendRow 36 = .ok (.iaload, 1) := by decide +kernel
theorem dX7_appendRow_37 : decode cX7_appendRow 37 = .ok (.invokevirtual 22, 3) := by decide +kernel
theorem dX7_appendRow_40 : decode cX7_appendRow 40 = .ok (.pop, 1) := by decide +kernel
theorem dX7_appendRow_41 : decode cX7_appendRow 41 = .ok (.iinc 3 1, 3) := by decide +kernel
theorem dX7_appendRow_44 : decode cX7_appendRow 44 = .ok (.goto (-27), 3) := by decide +kernel
theorem dX7_appendRow_47 : decode cX7_appendRow 47 = .ok (.return_, 1) := by decide +kernel
theorem dX7_indexOf_0 : decode cX7_indexOf 0 = .ok (.iload_n 1, 1) := by decide +kernel
theorem dX7_indexOf_1 : decode cX7_indexOf 1 = .ok (.aload_n 0, 1) := by decide +kernel
theorem dX7_indexOf_2 : decode cX7_indexOf 2 = .ok (.getfield 9, 3) := by decide +kernel
theorem dX7_indexOf_5 : decode cX7_indexOf 5 = .ok (.imul, 1) := by decide +kernel
theorem dX7_indexOf_6 : decode cX7_indexOf 6 = .ok (.iload_n 2, 1) := by decide +kernel
theorem dX7_indexOf_7 : decode cX7_indexOf 7 = .ok (.iadd, 1) := by decide +kernel
theorem dX7_indexOf_8 : decode cX7_indexOf 8 = .ok (.istore_n 3, 1) := by decide +kernel
theorem dX7_indexOf_9 : decode cX7_indexOf 9 = .ok (.iload_n 1, 1) := by decide +kernel
theorem dX7_indexOf_10 : decode cX7_indexOf 10 = .ok (.ifCond .lt 27, 3) := by decide +kernel
theorem dX7_indexOf_13 : decode cX7_indexOf 13 = .ok (.iload_n 1, 1) := by decide +kernel
theorem dX7_indexOf_14 : decode cX7_indexOf 14 = .ok (.aload_n 0, 1) := by decide +kernel
theorem dX7_indexOf_15 : decode cX7_indexOf 15 = .ok (.getfield 19, 3) := by decide +kernel
theorem dX7_indexOf_18 : decode cX7_indexOf 18 = .ok (.if_icmp .ge 19, 3) := by decide +kernel
theorem dX7_indexOf_21 : decode cX7_indexOf 21 = .ok (.iload_n 2, 1) := by decide +kernel
theorem dX7_indexOf_22 : decode cX7_indexOf 22 = .ok (.ifCond .lt 15, 3) := by decide +kernel
theorem dX7_indexOf_25 : decode cX7_indexOf 25 = .ok (.iload_n 2, 1) := by decide +kernel
theorem dX7_indexOf_26 : decode cX7_indexOf 26 = .ok (.aload_n 0, 1) := by decide +kernel
theorem dX7_indexOf_27 : decode cX7_indexOf 27 = .ok (.getfield 9, 3) := by decide +kernel
theorem dX7_indexOf_30 : decode cX7_indexOf 30 = .ok (.if_icmp .ge 7, 3) := by decide +kernel
theorem dX7_indexOf_33 : decode cX7_indexOf 33 = .ok (.iconst 1, 1) := by decide +kernel
theorem dX7_indexOf_34 : decode cX7_indexOf 34 = .ok (.goto 4, 3) := by decide +kernel
theorem dX7_indexOf_37 : decode cX7_indexOf 37 = .ok (.iconst 0, 1) := by decide +kernel
theorem dX7_indexOf_38 : decode cX7_indexOf 38 = .ok (.istore 4, 2) := by decide +kernel
theorem dX7_indexOf_40 : decode cX7_indexOf 40 = .ok (.iload 4, 2) := by decide +kernel
theorem dX7_indexOf_42 : decode cX7_indexOf 42 = .ok (.ifCond .eq 16, 3) := by decide +kernel
theorem dX7_indexOf_45 : decode cX7_indexOf 45 = .ok (.iload_n 3, 1) := by decide +kernel
theorem dX7_indexOf_46 : decode cX7_indexOf 46 = .ok (.aload_n 0, 1) := by decide +kernel
theorem dX7_indexOf_47 : decode cX7_indexOf 47 = .ok (.getfield 15, 3) := by decide +kernel
theorem dX7_indexOf_50 : decode cX7_indexOf 50 = .ok (.arraylength, 1) := by decide +kernel
theorem dX7_indexOf_51 : decode cX7_indexOf 51 = .ok (.if_icmp .ge 7, 3) := by decide +kernel
theorem dX7_indexOf_54 : decode cX7_indexOf 54 = .ok (.iload_n 3, 1) := by decide +kernel
theorem dX7_indexOf_55 : decode cX7_indexOf 55 = .ok (.goto 4, 3) := by decide +kernel
theorem dX7_indexOf_58 : decode cX7_indexOf 58 = .ok (.iconst (-1), 1) := by decide +kernel
theorem dX7_indexOf_59 : decode cX7_indexOf 59 = .ok (.ireturn, 1) := by decide +kernel
theorem dX7_cell_0 : decode cX7_cell 0 = .ok (.aload_n 0, 1) := by decide +kernel
theorem dX7_cell_1 : decode cX7_cell 1 = .ok (.iload_n 1, 1) := by decide +kernel
theorem dX7_cell_2 : decode cX7_cell 2 = .ok (.iload_n 2, 1) := by decide +kernel
theorem dX7_cell_3 : decode cX7_cell 3 = .ok (.invokevirtual 26, 3) := by decide +kernel
theorem dX7_cell_6 : decode cX7_cell 6 = .ok (.istore_n 3, 1) := by decide +kernel
theorem dX7_cell_7 : decode cX7_cell 7 = .ok (.iload_n 3, 1) := by decide +kernel
theorem dX7_cell_8 : decode cX7_cell 8 = .ok (.ifCond .ge 7, 3) := by decide +kernel
theorem dX7_cell_11 : decode cX7_cell 11 = .ok (.iconst 0, 1) := by decide +kernel
theorem dX7_cell_12 : decode cX7_cell 12 = .ok (.goto 9, 3) := by decide +kernel
theorem dX7_cell_15 : decode cX7_cell 15 = .ok (.aload_n 0, 1) := by decide +kernel
theorem dX7_cell_16 : decode cX7_cell 16 = .ok (.getfield 15, 3) := by decide +kernel
theorem dX7_cell_19 : decode cX7_cell 19 = .ok (.iload_n 3, 1) := by decide +kernel
theorem dX7_cell_20 : decode cX7_cell 20 = .ok (.iaload, 1) := by decide +kernel
theorem dX7_cell_21 : decode cX7_cell 21 = .ok (.ireturn, 1) := by decide +kernel
theorem dX7_put_0 : decode cX7_put 0 = .ok (.aload_n 0, 1) := by decide +kernel
theorem dX7_put_1 : decode cX7_put 1 = .ok (.iload_n 1, 1) := by decide +kernel
theorem dX7_put_2 : decode cX7_put 2 = .ok (.iload_n 2, 1) := by decide +kernel
theorem dX7_put_3 : decode cX7_put 3 = .ok (.invokevirtual 26, 3) := by decide +kernel
theorem dX7_put_6 : decode cX7_put 6 = .ok (.istore 4, 2) := by decide +kernel
theorem dX7_put_8 : decode cX7_put 8 = .ok (.iload 4, 2) := by decide +kernel
theorem dX7_put_10 : decode cX7_put 10 = .ok (.ifCond .ge 5, 3) := by decide +kernel
theorem dX7_put_13 : decode cX7_put 13 = .ok (.iconst 0, 1) := by decide +kernel
theorem dX7_put_14 : decode cX7_put 14 = .ok (.ireturn, 1) := by decide +kernel
theorem dX7_put_15 : decode cX7_put 15 = .ok (.aload_n 0, 1) := by decide +kernel
theorem dX7_put_16 : decode cX7_put 16 = .ok (.getfield 15, 3) := by decide +kernel
theorem dX7_put_19 : decode cX7_put 19 = .ok (.iload 4, 2) := by decide +kernel
theorem dX7_put_21 : decode cX7_put 21 = .ok (.iaload, 1) := by decide +kernel
theorem dX7_put_22 : decode cX7_put 22 = .ok (.istore 5, 2) := by decide +kernel
theorem dX7_put_24 : decode cX7_put 24 = .ok (.aload_n 0, 1) := by decide +kernel
theorem dX7_put_25 : decode cX7_put 25 = .ok (.getfield 15, 3) := by decide +kernel
theorem dX7_put_28 : decode cX7_put 28 = .ok (.iload 4, 2) := by decide +kernel
theorem dX7_put_30 : decode cX7_put 30 = .ok (.iload_n 3, 1) := by decide +kernel
theorem dX7_put_31 : decode cX7_put 31 = .ok (.iastore, 1) := by decide +kernel
theorem dX7_put_32 : decode cX7_put 32 = .ok (.iload 5, 2) := by decide +kernel
theorem dX7_put_34 : decode cX7_put 34 = .ok (.ireturn, 1) := by decide +kernel
theorem dX7_copyRow_0 : decode cX7_copyRow 0 = .ok (.iconst 0, 1) := by decide +kernel
theorem dX7_copyRow_1 : decode cX7_copyRow 1 = .ok (.istore 4, 2) := by decide +kernel
theorem dX7_copyRow_3 : decode cX7_copyRow 3 = .ok (.iload 4, 2) := by decide +kernel
theorem dX7_copyRow_5 : decode cX7_copyRow 5 = .ok (.aload_n 0, 1) := by decide +kernel
theorem dX7_copyRow_6 : decode cX7_copyRow 6 = .ok (.getfield 9, 3) := by decide +kernel
theorem dX7_copyRow_9 : decode cX7_copyRow 9 = .ok (.if_icmp .ge 31, 3) := by decide +kernel
theorem dX7_copyRow_12 : decode cX7_copyRow 12 = .ok (.iload_n 3, 1) := by decide +kernel
theorem dX7_copyRow_13 : decode cX7_copyRow 13 = .ok (.iload 4, 2) := by decide +kernel
theorem dX7_copyRow_15 : decode cX7_copyRow 15 = .ok (.iadd, 1) := by decide +kernel
theorem dX7_copyRow_16 : decode cX7_copyRow 16 = .ok (.aload_n 2, 1) := by decide +kernel
theorem dX7_copyRow_17 : decode cX7_copyRow 17 = .ok (.arraylength, 1) := by decide +kernel
theorem dX7_copyRow_18 : decode cX7_copyRow 18 = .ok (.if_icmp .ge 22, 3) := by decide +kernel
theorem dX7_copyRow_21 : decode cX7_copyRow 21 = .ok (.aload_n 2, 1) := by decide +kernel
theorem dX7_copyRow_22 : decode cX7_copyRow 22 = .ok (.iload_n 3, 1) := by decide +kernel
theorem dX7_copyRow_23 : decode cX7_copyRow 23 = .ok (.iload 4, 2) := by decide +kernel
theorem dX7_copyRow_25 : decode cX7_copyRow 25 = .ok (.iadd, 1) := by decide +kernel
theorem dX7_copyRow_26 : decode cX7_copyRow 26 = .ok (.aload_n 0, 1) := by decide +kernel
theorem dX7_copyRow_27 : decode cX7_copyRow 27 = .ok (.iload_n 1, 1) := by decide +kernel
theorem dX7_copyRow_28 : decode cX7_copyRow 28 = .ok (.iload 4, 2) := by decide +kernel
theorem dX7_copyRow_30 : decode cX7_copyRow 30 = .ok (.invokevirtual 30, 3) := by decide +kernel
theorem dX7_copyRow_33 : decode cX7_copyRow 33 = .ok (.iastore, 1) := by decide +kernel
theorem dX7_copyRow_34 : decode cX7_copyRow 34 = .ok (.iinc 4 1, 3) := by decide +kernel
theorem dX7_copyRow_37 : decode cX7_copyRow 37 = .ok (.goto (-34), 3) := by decide +kernel
theorem dX7_copyRow_40 : decode cX7_copyRow 40 = .ok (.return_, 1) := by decide +kernel
theorem dX7_copyFrom_0 : decode cX7_copyFrom 0 = .ok (.aload_n 1, 1) := by decide +kernel
theorem dX7_copyFrom_1 : decode cX7_copyFrom 1 = .ok (.getfield 15, 3) := by decide +kernel
theorem dX7_copyFrom_4 : decode cX7_copyFrom 4 = .ok (.iconst 0, 1) := by decide +kernel
theorem dX7_copyFrom_5 : decode cX7_copyFrom 5 = .ok (.aload_n 0, 1) := by decide +kernel
theorem dX7_copyFrom_6 : decode cX7_copyFrom 6 = .ok (.getfield 15, 3) := by decide +kernel
theorem dX7_copyFrom_9 : decode cX7_copyFrom 9 = .ok (.iconst 0, 1) := by decide +kernel
theorem dX7_copyFrom_10 : decode cX7_copyFrom 10 = .ok (.aload_n 0, 1) := by decide +kernel
theorem dX7_copyFrom_11 : decode cX7_copyFrom 11 = .ok (.getfield 15, 3) := by decide +kernel
theorem dX7_copyFrom_14 : decode cX7_copyFrom 14 = .ok (.arraylength, 1) := by decide +kernel
theorem dX7_copyFrom_15 : decode cX7_copyFrom 15 = .ok (.aload_n 1, 1) := by decide +kernel
theorem dX7_copyFrom_16 : decode cX7_copyFrom 16 = .ok (.getfield 15, 3) := by decide +kernel
theorem dX7_copyFrom_19 : decode cX7_copyFrom 19 = .ok (.arraylength, 1) := by decide +kernel
theorem dX7_copyFrom_20 : decode cX7_copyFrom 20 = .ok (.invokestatic 33, 3) := by decide +kernel
theorem dX7_copyFrom_23 : decode cX7_copyFrom 23 = .ok (.invokestatic 38, 3) := by decide +kernel
theorem dX7_copyFrom_26 : decode cX7_copyFrom 26 = .ok (.aload_n 0, 1) := by decide +kernel
theorem dX7_copyFrom_27 : decode cX7_copyFrom 27 = .ok (.aload_n 1, 1) := by decide +kernel
theorem dX7_copyFrom_28 : decode cX7_copyFrom 28 = .ok (.getfield 19, 3) := by decide +kernel
theorem dX7_copyFrom_31 : decode cX7_copyFrom 31 = .ok (.putfield 19, 3) := by decide +kernel
theorem dX7_copyFrom_34 : decode cX7_copyFrom 34 = .ok (.return_, 1) := by decide +kernel
theorem dX7_mixedInto_0 : decode cX7_mixedInto 0 = .ok (.lload_n 1, 1) := by decide +kernel
theorem dX7_mixedInto_1 : decode cX7_mixedInto 1 = .ok (.lstore_n 3, 1) := by decide +kernel
theorem dX7_mixedInto_2 : decode cX7_mixedInto 2 = .ok (.iconst 0, 1) := by decide +kernel
theorem dX7_mixedInto_3 : decode cX7_mixedInto 3 = .ok (.istore 5, 2) := by decide +kernel
theorem dX7_mixedInto_5 : decode cX7_mixedInto 5 = .ok (.iload 5, 2) := by decide +kernel
theorem dX7_mixedInto_7 : decode cX7_mixedInto 7 = .ok (.aload_n 0, 1) := by decide +kernel
theorem dX7_mixedInto_8 : decode cX7_mixedInto 8 = .ok (.getfield 19, 3) := by decide +kernel
theorem dX7_mixedInto_11 : decode cX7_mixedInto 11 = .ok (.if_icmp .ge 41, 3) := by decide +kernel
theorem dX7_mixedInto_14 : decode cX7_mixedInto 14 = .ok (.iconst 0, 1) := by decide +kernel
theorem dX7_mixedInto_15 : decode cX7_mixedInto 15 = .ok (.istore 6, 2) := by decide +kernel
theorem dX7_mixedInto_17 : decode cX7_mixedInto 17 = .ok (.iload 6, 2) := by decide +kernel
theorem dX7_mixedInto_19 : decode cX7_mixedInto 19 = .ok (.aload_n 0, 1) := by decide +kernel
theorem dX7_mixedInto_20 : decode cX7_mixedInto 20 = .ok (.getfield 9, 3) := by decide +kernel
theorem dX7_mixedInto_23 : decode cX7_mixedInto 23 = .ok (.if_icmp .ge 23, 3) := by decide +kernel
theorem dX7_mixedInto_26 : decode cX7_mixedInto 26 = .ok (.lload_n 3, 1) := by decide +kernel
theorem dX7_mixedInto_27 : decode cX7_mixedInto 27 = .ok (.aload_n 0, 1) := by decide +kernel
theorem dX7_mixedInto_28 : decode cX7_mixedInto 28 = .ok (.iload 5, 2) := by decide +kernel
theorem dX7_mixedInto_30 : decode cX7_mixedInto 30 = .ok (.iload 6, 2) := by decide +kernel
theorem dX7_mixedInto_32 : decode cX7_mixedInto 32 = .ok (.invokevirtual 30, 3) := by decide +kernel
theorem dX7_mixedInto_35 : decode cX7_mixedInto 35 = .ok (.i2l, 1) := by decide +kernel
theorem dX7_mixedInto_36 : decode cX7_mixedInto 36 = .ok (.invokestatic 44, 3) := by decide +kernel
theorem dX7_mixedInto_39 : decode cX7_mixedInto 39 = .ok (.lstore_n 3, 1) := by decide +kernel
theorem dX7_mixedInto_40 : decode cX7_mixedInto 40 = .ok (.iinc 6 1, 3) := by decide +kernel
theorem dX7_mixedInto_43 : decode cX7_mixedInto 43 = .ok (.goto (-26), 3) := by decide +kernel
theorem dX7_mixedInto_46 : decode cX7_mixedInto 46 = .ok (.iinc 5 1, 3) := by decide +kernel
theorem dX7_mixedInto_49 : decode cX7_mixedInto 49 = .ok (.goto (-44), 3) := by decide +kernel
theorem dX7_mixedInto_52 : decode cX7_mixedInto 52 = .ok (.lload_n 3, 1) := by decide +kernel
theorem dX7_mixedInto_53 : decode cX7_mixedInto 53 = .ok (.lreturn, 1) := by decide +kernel
theorem dX8_init_0 : decode cX8_init 0 = .ok (.aload_n 0, 1) := by decide +kernel
theorem dX8_init_1 : decode cX8_init 1 = .ok (.invokespecial 1, 3) := by decide +kernel
theorem dX8_init_4 : decode cX8_init 4 = .ok (.aload_n 0, 1) := by decide +kernel
theorem dX8_init_5 : decode cX8_init 5 = .ok (.new 7, 3) := by decide +kernel
theorem dX8_init_8 : decode cX8_init 8 = .ok (.dup, 1) := by decide +kernel
theorem dX8_init_9 : decode cX8_init 9 = .ok (.invokespecial 9, 3) := by decide +kernel
theorem dX8_init_12 : decode cX8_init 12 = .ok (.putfield 10, 3) := by decide +kernel
theorem dX8_init_15 : decode cX8_init 15 = .ok (.aload_n 0, 1) := by decide +kernel
theorem dX8_init_16 : decode cX8_init 16 = .ok (.iconst 2, 1) := by decide +kernel
theorem dX8_init_17 : decode cX8_init 17 = .ok (.anewarray 7, 3) := by decide +kernel
theorem dX8_init_20 : decode cX8_init 20 = .ok (.putfield 16, 3) := by decide +kernel
theorem dX8_init_23 : decode cX8_init 23 = .ok (.aload_n 0, 1) := by decide +kernel
theorem dX8_init_24 : decode cX8_init 24 = .ok (.new 20, 3) := by decide +kernel
theorem dX8_init_27 : decode cX8_init 27 = .ok (.dup, 1) := by decide +kernel
theorem dX8_init_28 : decode cX8_init 28 = .ok (.invokespecial 22, 3) := by decide +kernel
theorem dX8_init_31 : decode cX8_init 31 = .ok (.putfield 23, 3) := by decide +kernel
theorem dX8_init_34 : decode cX8_init 34 = .ok (.aload_n 0, 1) := by decide +kernel
theorem dX8_init_35 : decode cX8_init 35 = .ok (.new 27, 3) := by decide +kernel
theorem dX8_init_38 : decode cX8_init 38 = .ok (.dup, 1) := by decide +kernel
theorem dX8_init_39 : decode cX8_init 39 = .ok (.invokespecial 29, 3) := by decide +kernel
theorem dX8_init_42 : decode cX8_init 42 = .ok (.putfield 30, 3) := by decide +kernel
theorem dX8_init_45 : decode cX8_init 45 = .ok (.aload_n 0, 1) := by decide +kernel
theorem dX8_init_46 : decode cX8_init 46 = .ok (.new 34, 3) := by decide +kernel
theorem dX8_init_49 : decode cX8_init 49 = .ok (.dup, 1) := by decide +kernel
theorem dX8_init_50 : decode cX8_init 50 = .ok (.invokespecial 36, 3) := by decide +kernel
theorem dX8_init_53 : decode cX8_init 53 = .ok (.putfield 37, 3) := by decide +kernel
theorem dX8_init_56 : decode cX8_init 56 = .ok (.aload_n 0, 1) := by decide +kernel
theorem dX8_init_57 : decode cX8_init 57 = .ok (.new 41, 3) := by decide +kernel
theorem dX8_init_60 : decode cX8_init 60 = .ok (.dup, 1) := by decide +kernel
theorem dX8_init_61 : decode cX8_init 61 = .ok (.invokespecial 43, 3) := by decide +kernel
theorem dX8_init_64 : decode cX8_init 64 = .ok (.putfield 44, 3) := by decide +kernel
theorem dX8_init_67 : decode cX8_init 67 = .ok (.aload_n 0, 1) := by decide +kernel
theorem dX8_init_68 : decode cX8_init 68 = .ok (.new 48, 3) := by decide +kernel
theorem dX8_init_71 : decode cX8_init 71 = .ok (.dup, 1) := by decide +kernel
theorem dX8_init_72 : decode cX8_init 72 = .ok (.invokespecial 50, 3) := by decide +kernel
theorem dX8_init_75 : decode cX8_init 75 = .ok (.putfield 51, 3) := by decide +kernel
theorem dX8_init_78 : decode cX8_init 78 = .ok (.aload_n 0, 1) := by decide +kernel
theorem dX8_init_79 : decode cX8_init 79 = .ok (.iconst 3, 1) := by decide +kernel
theorem dX8_init_80 : decode cX8_init 80 = .ok (.newarray .int, 2) := by decide +kernel
theorem dX8_init_82 : decode cX8_init 82 = .ok (.putfield 55, 3) := by decide +kernel
theorem dX8_init_85 : decode cX8_init 85 = .ok (.return_, 1) := by decide +kernel
theorem dX8_arm_0 : decode cX8_arm 0 = .ok (.iconst 0, 1) := by decide +kernel
theorem dX8_arm_1 : decode cX8_arm 1 = .ok (.iload_n 1, 1) := by decide +kernel
theorem dX8_arm_2 : decode cX8_arm 2 = .ok (.invokestatic 59, 3) := by decide +kernel
theorem dX8_arm_5 : decode cX8_arm 5 = .ok (.ifCond .eq 19, 3) := by decide +kernel
theorem dX8_arm_8 : decode cX8_arm 8 = .ok (.iconst 1, 1) := by decide +kernel
theorem dX8_arm_9 : decode cX8_arm 9 = .ok (.iload_n 2, 1) := by decide +kernel
theorem dX8_arm_10 : decode cX8_arm 10 = .ok (.invokestatic 59, 3) := by decide +kernel
theorem dX8_arm_13 : decode cX8_arm 13 = .ok (.ifCond .eq 11, 3) := by decide +kernel
theorem dX8_arm_16 : decode cX8_arm 16 = .ok (.iconst 2, 1) := by decide +kernel
theorem dX8_arm_17 : decode cX8_arm 17 = .ok (.iload_n 3, 1) := by decide +kernel
theorem dX8_arm_18 : decode cX8_arm 18 = .ok (.invokestatic 59, 3) := by decide +kernel
theorem dX8_arm_21 : decode cX8_arm 21 = .ok (.ifCond .ne 10, 3) := by decide +kernel
theorem dX8_arm_24 : decode cX8_arm 24 = .ok (.aload_n 0, 1) := by decide +kernel
theorem dX8_arm_25 : decode cX8_arm 25 = .ok (.bipush (-2), 2) := by decide +kernel
theorem dX8_arm_27 : decode cX8_arm 27 = .ok (.invokevirtual 63, 3) := by decide +kernel
theorem dX8_arm_30 : decode cX8_arm 30 = .ok (.ireturn, 1) := by decide +kernel
theorem dX8_arm_31 : decode cX8_arm 31 = .ok (.aload_n 0, 1) := by decide +kernel
theorem dX8_arm_32 : decode cX8_arm 32 = .ok (.aload_n 0, 1) := by decide +kernel
theorem dX8_arm_33 : decode cX8_arm 33 = .ok (.getfield 10, 3) := by decide +kernel
theorem dX8_arm_36 : decode cX8_arm 36 = .ok (.getfield 67, 3) := by decide +kernel
theorem dX8_arm_39 : decode cX8_arm 39 = .ok (.iload_n 1, 1) := by decide +kernel
theorem dX8_arm_40 : decode cX8_arm 40 = .ok (.iload_n 2, 1) := by decide +kernel
theorem dX8_arm_41 : decode cX8_arm 41 = .ok (.iload_n 3, 1) := by decide +kernel
theorem dX8_arm_42 : decode cX8_arm 42 = .ok (.iconst 0, 1) := by decide +kernel
theorem dX8_arm_43 : decode cX8_arm 43 = .ok (.invokevirtual 71, 3) := by decide +kernel
