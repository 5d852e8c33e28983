theorem dX8_arm_46 : decode cX8_arm 46 = .ok (.ireturn, 1) := by decide +kernel
theorem dX8_hook_0 : decode cX8_hook 0 = .ok (.iconst 3, 1) := by decide +kernel
theorem dX8_hook_1 : decode cX8_hook 1 = .ok (.iload_n 1, 1) := by decide +kernel
theorem dX8_hook_2 : decode cX8_hook 2 = .ok (.invokestatic 59, 3) := by decide +kernel
theorem dX8_hook_5 : decode cX8_hook 5 = .ok (.ifCond .eq 20, 3) := by decide +kernel
theorem dX8_hook_8 : decode cX8_hook 8 = .ok (.iconst 4, 1) := by decide +kernel
theorem dX8_hook_9 : decode cX8_hook 9 = .ok (.iload_n 2, 1) := by decide +kernel
theorem dX8_hook_10 : decode cX8_hook 10 = .ok (.invokestatic 59, 3) := by decide +kernel
theorem dX8_hook_13 : decode cX8_hook 13 = .ok (.ifCond .eq 12, 3) := by decide +kernel
theorem dX8_hook_16 : decode cX8_hook 16 = .ok (.iload_n 3, 1) := by decide +kernel
theorem dX8_hook_17 : decode cX8_hook 17 = .ok (.iconst 0, 1) := by decide +kernel
theorem dX8_hook_18 : decode cX8_hook 18 = .ok (.iload_n 1, 1) := by decide +kernel
theorem dX8_hook_19 : decode cX8_hook 19 = .ok (.invokestatic 75, 3) := by decide +kernel
theorem dX8_hook_22 : decode cX8_hook 22 = .ok (.ifCond .ne 10, 3) := by decide +kernel
theorem dX8_hook_25 : decode cX8_hook 25 = .ok (.aload_n 0, 1) := by decide +kernel
theorem dX8_hook_26 : decode cX8_hook 26 = .ok (.bipush (-2), 2) := by decide +kernel
theorem dX8_hook_28 : decode cX8_hook 28 = .ok (.invokevirtual 63, 3) := by decide +kernel
theorem dX8_hook_31 : decode cX8_hook 31 = .ok (.ireturn, 1) := by decide +kernel
theorem dX8_hook_32 : decode cX8_hook 32 = .ok (.aload_n 0, 1) := by decide +kernel
theorem dX8_hook_33 : decode cX8_hook 33 = .ok (.aload_n 0, 1) := by decide +kernel
theorem dX8_hook_34 : decode cX8_hook 34 = .ok (.getfield 10, 3) := by decide +kernel
theorem dX8_hook_37 : decode cX8_hook 37 = .ok (.getfield 79, 3) := by decide +kernel
theorem dX8_hook_40 : decode cX8_hook 40 = .ok (.iload_n 1, 1) := by decide +kernel
theorem dX8_hook_41 : decode cX8_hook 41 = .ok (.iload_n 2, 1) := by decide +kernel
theorem dX8_hook_42 : decode cX8_hook 42 = .ok (.iload_n 3, 1) := by decide +kernel
theorem dX8_hook_43 : decode cX8_hook 43 = .ok (.iconst 0, 1) := by decide +kernel
theorem dX8_hook_44 : decode cX8_hook 44 = .ok (.invokevirtual 71, 3) := by decide +kernel
theorem dX8_hook_47 : decode cX8_hook 47 = .ok (.ireturn, 1) := by decide +kernel
theorem dX8_dart_0 : decode cX8_dart 0 = .ok (.bipush 6, 2) := by decide +kernel
theorem dX8_dart_2 : decode cX8_dart 2 = .ok (.iload_n 1, 1) := by decide +kernel
theorem dX8_dart_3 : decode cX8_dart 3 = .ok (.invokestatic 59, 3) := by decide +kernel
theorem dX8_dart_6 : decode cX8_dart 6 = .ok (.ifCond .eq 31, 3) := by decide +kernel
theorem dX8_dart_9 : decode cX8_dart 9 = .ok (.bipush 7, 2) := by decide +kernel
theorem dX8_dart_11 : decode cX8_dart 11 = .ok (.iload_n 2, 1) := by decide +kernel
theorem dX8_dart_12 : decode cX8_dart 12 = .ok (.invokestatic 59, 3) := by decide +kernel
theorem dX8_dart_15 : decode cX8_dart 15 = .ok (.ifCond .eq 22, 3) := by decide +kernel
theorem dX8_dart_18 : decode cX8_dart 18 = .ok (.bipush 8, 2) := by decide +kernel
theorem dX8_dart_20 : decode cX8_dart 20 = .ok (.iload_n 3, 1) := by decide +kernel
theorem dX8_dart_21 : decode cX8_dart 21 = .ok (.invokestatic 59, 3) := by decide +kernel
theorem dX8_dart_24 : decode cX8_dart 24 = .ok (.ifCond .eq 13, 3) := by decide +kernel
theorem dX8_dart_27 : decode cX8_dart 27 = .ok (.bipush 9, 2) := by decide +kernel
theorem dX8_dart_29 : decode cX8_dart 29 = .ok (.iload 4, 2) := by decide +kernel
theorem dX8_dart_31 : decode cX8_dart 31 = .ok (.invokestatic 59, 3) := by decide +kernel
theorem dX8_dart_34 : decode cX8_dart 34 = .ok (.ifCond .ne 10, 3) := by decide +kernel
theorem dX8_dart_37 : decode cX8_dart 37 = .ok (.aload_n 0, 1) := by decide +kernel
theorem dX8_dart_38 : decode cX8_dart 38 = .ok (.bipush (-2), 2) := by decide +kernel
theorem dX8_dart_40 : decode cX8_dart 40 = .ok (.invokevirtual 63, 3) := by decide +kernel
theorem dX8_dart_43 : decode cX8_dart 43 = .ok (.ireturn, 1) := by decide +kernel
theorem dX8_dart_44 : decode cX8_dart 44 = .ok (.aload_n 0, 1) := by decide +kernel
theorem dX8_dart_45 : decode cX8_dart 45 = .ok (.aload_n 0, 1) := by decide +kernel
theorem dX8_dart_46 : decode cX8_dart 46 = .ok (.getfield 10, 3) := by decide +kernel
theorem dX8_dart_49 : decode cX8_dart 49 = .ok (.getfield 82, 3) := by decide +kernel
theorem dX8_dart_52 : decode cX8_dart 52 = .ok (.iload_n 1, 1) := by decide +kernel
theorem dX8_dart_53 : decode cX8_dart 53 = .ok (.iload_n 2, 1) := by decide +kernel
theorem dX8_dart_54 : decode cX8_dart 54 = .ok (.iload_n 3, 1) := by decide +kernel
theorem dX8_dart_55 : decode cX8_dart 55 = .ok (.iload 4, 2) := by decide +kernel
theorem dX8_dart_57 : decode cX8_dart 57 = .ok (.invokevirtual 71, 3) := by decide +kernel
theorem dX8_dart_60 : decode cX8_dart 60 = .ok (.ireturn, 1) := by decide +kernel
theorem dX8_fling_0 : decode cX8_fling 0 = .ok (.bipush 10, 2) := by decide +kernel
theorem dX8_fling_2 : decode cX8_fling 2 = .ok (.iload_n 1, 1) := by decide +kernel
theorem dX8_fling_3 : decode cX8_fling 3 = .ok (.invokestatic 59, 3) := by decide +kernel
theorem dX8_fling_6 : decode cX8_fling 6 = .ok (.ifCond .eq 36, 3) := by decide +kernel
theorem dX8_fling_9 : decode cX8_fling 9 = .ok (.bipush 11, 2) := by decide +kernel
theorem dX8_fling_11 : decode cX8_fling 11 = .ok (.iload_n 2, 1) := by decide +kernel
theorem dX8_fling_12 : decode cX8_fling 12 = .ok (.invokestatic 59, 3) := by decide +kernel
theorem dX8_fling_15 : decode cX8_fling 15 = .ok (.ifCond .eq 27, 3) := by decide +kernel
theorem dX8_fling_18 : decode cX8_fling 18 = .ok (.iload 7, 2) := by decide +kernel
theorem dX8_fling_20 : decode cX8_fling 20 = .ok (.iconst 0, 1) := by decide +kernel
theorem dX8_fling_21 : decode cX8_fling 21 = .ok (.iconst 5, 1) := by decide +kernel
theorem dX8_fling_22 : decode cX8_fling 22 = .ok (.invokestatic 75, 3) := by decide +kernel
theorem dX8_fling_25 : decode cX8_fling 25 = .ok (.ifCond .eq 17, 3) := by decide +kernel
theorem dX8_fling_28 : decode cX8_fling 28 = .ok (.aload_n 0, 1) := by decide +kernel
theorem dX8_fling_29 : decode cX8_fling 29 = .ok (.iload_n 3, 1) := by decide +kernel
theorem dX8_fling_30 : decode cX8_fling 30 = .ok (.iload 4, 2) := by decide +kernel
theorem dX8_fling_32 : decode cX8_fling 32 = .ok (.iload 5, 2) := by decide +kernel
theorem dX8_fling_34 : decode cX8_fling 34 = .ok (.iload 6, 2) := by decide +kernel
theorem dX8_fling_36 : decode cX8_fling 36 = .ok (.invokevirtual 85, 3) := by decide +kernel
theorem dX8_fling_39 : decode cX8_fling 39 = .ok (.ifCond .ne 10, 3) := by decide +kernel
theorem dX8_fling_42 : decode cX8_fling 42 = .ok (.aload_n 0, 1) := by decide +kernel
theorem dX8_fling_43 : decode cX8_fling 43 = .ok (.ldc 89, 2) := by decide +kernel
theorem dX8_fling_45 : decode cX8_fling 45 = .ok (.invokevirtual 63, 3) := by decide +kernel
theorem dX8_fling_48 : decode cX8_fling 48 = .ok (.ireturn, 1) := by decide +kernel
theorem dX8_fling_49 : decode cX8_fling 49 = .ok (.aload_n 0, 1) := by decide +kernel
theorem dX8_fling_50 : decode cX8_fling 50 = .ok (.getfield 23, 3) := by decide +kernel
theorem dX8_fling_53 : decode cX8_fling 53 = .ok (.getfield 90, 3) := by decide +kernel
theorem dX8_fling_56 : decode cX8_fling 56 = .ok (.bipush 10, 2) := by decide +kernel
theorem dX8_fling_58 : decode cX8_fling 58 = .ok (.iload_n 1, 1) := by decide +kernel
theorem dX8_fling_59 : decode cX8_fling 59 = .ok (.iastore, 1) := by decide +kernel
theorem dX8_fling_60 : decode cX8_fling 60 = .ok (.aload_n 0, 1) := by decide +kernel
theorem dX8_fling_61 : decode cX8_fling 61 = .ok (.getfield 23, 3) := by decide +kernel
theorem dX8_fling_64 : decode cX8_fling 64 = .ok (.getfield 90, 3) := by decide +kernel
theorem dX8_fling_67 : decode cX8_fling 67 = .ok (.bipush 11, 2) := by decide +kernel
theorem dX8_fling_69 : decode cX8_fling 69 = .ok (.iload_n 2, 1) := by decide +kernel
theorem dX8_fling_70 : decode cX8_fling 70 = .ok (.iastore, 1) := by decide +kernel
theorem dX8_fling_71 : decode cX8_fling 71 = .ok (.aload_n 0, 1) := by decide +kernel
theorem dX8_fling_72 : decode cX8_fling 72 = .ok (.getfield 23, 3) := by decide +kernel
theorem dX8_fling_75 : decode cX8_fling 75 = .ok (.iconst 0, 1) := by decide +kernel
theorem dX8_fling_76 : decode cX8_fling 76 = .ok (.invokevirtual 93, 3) := by decide +kernel
theorem dX8_fling_79 : decode cX8_fling 79 = .ok (.aload_n 0, 1) := by decide +kernel
theorem dX8_fling_80 : decode cX8_fling 80 = .ok (.getfield 23, 3) := by decide +kernel
theorem dX8_fling_83 : decode cX8_fling 83 = .ok (.iload 7, 2) := by decide +kernel
theorem dX8_fling_85 : decode cX8_fling 85 = .ok (.invokevirtual 97, 3) := by decide +kernel
theorem dX8_fling_88 : decode cX8_fling 88 = .ok (.ireturn, 1) := by decide +kernel
theorem dX8_strikes_0 : decode cX8_strikes 0 = .ok (.iload 5, 2) := by decide +kernel
theorem dX8_strikes_2 : decode cX8_strikes 2 = .ok (.iconst 1, 1) := by decide +kernel
theorem dX8_strikes_3 : decode cX8_strikes 3 = .ok (.sipush 20000, 3) := by decide +kernel
theorem dX8_strikes_6 : decode cX8_strikes 6 = .ok (.invokestatic 75, 3) := by decide +kernel
theorem dX8_strikes_9 : decode cX8_strikes 9 = .ok (.ifCond .eq 15, 3) := by decide +kernel
theorem dX8_strikes_12 : decode cX8_strikes 12 = .ok (.aload_n 0, 1) := by decide +kernel
theorem dX8_strikes_13 : decode cX8_strikes 13 = .ok (.iload_n 1, 1) := by decide +kernel
theorem dX8_strikes_14 : decode cX8_strikes 14 = .ok (.iload_n 2, 1) := by decide +kernel
theorem dX8_strikes_15 : decode cX8_strikes 15 = .ok (.iload_n 3, 1) := by decide +kernel
theorem dX8_strikes_16 : decode cX8_strikes 16 = .ok (.iload 4, 2) := by decide +kernel
theorem dX8_strikes_18 : decode cX8_strikes 18 = .ok (.invokevirtual 85, 3) := by decide +kernel
theorem dX8_strikes_21 : decode cX8_strikes 21 = .ok (.ifCond .ne 10, 3) := by decide +kernel
theorem dX8_strikes_24 : decode cX8_strikes 24 = .ok (.aload_n 0, 1) := by decide +kernel
theorem dX8_strikes_25 : decode cX8_strikes 25 = .ok (.bipush (-2), 2) := by decide +kernel
theorem dX8_strikes_27 : decode cX8_strikes 27 = .ok (.invokevirtual 63, 3) := by decide +kernel
theorem dX8_strikes_30 : decode cX8_strikes 30 = .ok (.ireturn, 1) := by decide +kernel
theorem dX8_strikes_31 : decode cX8_strikes 31 = .ok (.aload_n 0, 1) := by decide +kernel
theorem dX8_strikes_32 : decode cX8_strikes 32 = .ok (.getfield 23, 3) := by decide +kernel
theorem dX8_strikes_35 : decode cX8_strikes 35 = .ok (.iload 5, 2) := by decide +kernel
theorem dX8_strikes_37 : decode cX8_strikes 37 = .ok (.invokevirtual 93, 3) := by decide +kernel
theorem dX8_strikes_40 : decode cX8_strikes 40 = .ok (.aload_n 0, 1) := by decide +kernel
theorem dX8_strikes_41 : decode cX8_strikes 41 = .ok (.getfield 23, 3) := by decide +kernel
theorem dX8_strikes_44 : decode cX8_strikes 44 = .ok (.getfield 100, 3) := by decide +kernel
theorem dX8_strikes_47 : decode cX8_strikes 47 = .ok (.iconst 1, 1) := by decide +kernel
theorem dX8_strikes_48 : decode cX8_strikes 48 = .ok (.sipush 180, 3) := by decide +kernel
theorem dX8_strikes_51 : decode cX8_strikes 51 = .ok (.invokestatic 75, 3) := by decide +kernel
theorem dX8_strikes_54 : decode cX8_strikes 54 = .ok (.istore 6, 2) := by decide +kernel
theorem dX8_strikes_56 : decode cX8_strikes 56 = .ok (.iload 6, 2) := by decide +kernel
theorem dX8_strikes_58 : decode cX8_strikes 58 = .ok (.ifCond .eq 26, 3) := by decide +kernel
theorem dX8_strikes_61 : decode cX8_strikes 61 = .ok (.aload_n 0, 1) := by decide +kernel
theorem dX8_strikes_62 : decode cX8_strikes 62 = .ok (.getfield 23, 3) := by decide +kernel
theorem dX8_strikes_65 : decode cX8_strikes 65 = .ok (.getfield 104, 3) := by decide +kernel
theorem dX8_strikes_68 : decode cX8_strikes 68 = .ok (.iload 5, 2) := by decide +kernel
theorem dX8_strikes_70 : decode cX8_strikes 70 = .ok (.imul, 1) := by decide +kernel
theorem dX8_strikes_71 : decode cX8_strikes 71 = .ok (.sipush 1000, 3) := by decide +kernel
theorem dX8_strikes_74 : decode cX8_strikes 74 = .ok (.idiv, 1) := by decide +kernel
theorem dX8_strikes_75 : decode cX8_strikes 75 = .ok (.bipush 50, 2) := by decide +kernel
theorem dX8_strikes_77 : decode cX8_strikes 77 = .ok (.if_icmp .gt 7, 3) := by decide +kernel
theorem dX8_strikes_80 : decode cX8_strikes 80 = .ok (.iconst 1, 1) := by decide +kernel
theorem dX8_strikes_81 : decode cX8_strikes 81 = .ok (.goto 4, 3) := by decide +kernel
theorem dX8_strikes_84 : decode cX8_strikes 84 = .ok (.iconst 0, 1) := by decide +kernel
theorem dX8_strikes_85 : decode cX8_strikes 85 = .ok (.ireturn, 1) := by decide +kernel
theorem dX8_length_0 : decode cX8_length 0 = .ok (.aload_n 0, 1) := by decide +kernel
theorem dX8_length_1 : decode cX8_length 1 = .ok (.iload_n 1, 1) := by decide +kernel
theorem dX8_length_2 : decode cX8_length 2 = .ok (.iload_n 2, 1) := by decide +kernel
theorem dX8_length_3 : decode cX8_length 3 = .ok (.iload_n 3, 1) := by decide +kernel
theorem dX8_length_4 : decode cX8_length 4 = .ok (.iload 4, 2) := by decide +kernel
theorem dX8_length_6 : decode cX8_length 6 = .ok (.invokevirtual 85, 3) := by decide +kernel
theorem dX8_length_9 : decode cX8_length 9 = .ok (.ifCond .ne 10, 3) := by decide +kernel
theorem dX8_length_12 : decode cX8_length 12 = .ok (.aload_n 0, 1) := by decide +kernel
theorem dX8_length_13 : decode cX8_length 13 = .ok (.bipush (-2), 2) := by decide +kernel
theorem dX8_length_15 : decode cX8_length 15 = .ok (.invokevirtual 63, 3) := by decide +kernel
theorem dX8_length_18 : decode cX8_length 18 = .ok (.ireturn, 1) := by decide +kernel
theorem dX8_length_19 : decode cX8_length 19 = .ok (.aload_n 0, 1) := by decide +kernel
theorem dX8_length_20 : decode cX8_length 20 = .ok (.getfield 23, 3) := by decide +kernel
theorem dX8_length_23 : decode cX8_length 23 = .ok (.getfield 90, 3) := by decide +kernel
theorem dX8_length_26 : decode cX8_length 26 = .ok (.iconst 5, 1) := by decide +kernel
theorem dX8_length_27 : decode cX8_length 27 = .ok (.iaload, 1) := by decide +kernel
theorem dX8_length_28 : decode cX8_length 28 = .ok (.istore 5, 2) := by decide +kernel
theorem dX8_length_30 : decode cX8_length 30 = .ok (.iconst 0, 1) := by decide +kernel
theorem dX8_length_31 : decode cX8_length 31 = .ok (.istore 6, 2) := by decide +kernel
theorem dX8_length_33 : decode cX8_length 33 = .ok (.iconst (-1), 1) := by decide +kernel
theorem dX8_length_34 : decode cX8_length 34 = .ok (.istore 7, 2) := by decide +kernel
theorem dX8_length_36 : decode cX8_length 36 = .ok (.getstatic 107, 3) := by decide +kernel
theorem dX8_length_39 : decode cX8_length 39 = .ok (.iconst 3, 1) := by decide +kernel
theorem dX8_length_40 : decode cX8_length 40 = .ok (.iaload, 1) := by decide +kernel
theorem dX8_length_41 : decode cX8_length 41 = .ok (.istore 8, 2) := by decide +kernel
theorem dX8_length_43 : decode cX8_length 43 = .ok (.iload 8, 2) := by decide +kernel
theorem dX8_length_45 : decode cX8_length 45 = .ok (.getstatic 110, 3) := by decide +kernel
theorem dX8_length_48 : decode cX8_length 48 = .ok (.iconst 3, 1) := by decide +kernel
theorem dX8_length_49 : decode cX8_length 49 = .ok (.iaload, 1) := by decide +kernel
theorem dX8_length_50 : decode cX8_length 50 = .ok (.if_icmp .gt 69, 3) := by decide +kernel
theorem dX8_length_53 : decode cX8_length 53 = .ok (.aload_n 0, 1) := by decide +kernel
theorem dX8_length_54 : decode cX8_length 54 = .ok (.getfield 23, 3) := by decide +kernel
theorem dX8_length_57 : decode cX8_length 57 = .ok (.getfield 90, 3) := by decide +kernel
theorem dX8_length_60 : decode cX8_length 60 = .ok (.iconst 3, 1) := by decide +kernel
theorem dX8_length_61 : decode cX8_length 61 = .ok (.iload 8, 2) := by decide +kernel
theorem dX8_length_63 : decode cX8_length 63 = .ok (.iastore, 1) := by decide +kernel
theorem dX8_length_64 : decode cX8_length 64 = .ok (.aload_n 0, 1) := by decide +kernel
theorem dX8_length_65 : decode cX8_length 65 = .ok (.getfield 23, 3) := by decide +kernel
theorem dX8_length_68 : decode cX8_length 68 = .ok (.getfield 90, 3) := by decide +kernel
theorem dX8_length_71 : decode cX8_length 71 = .ok (.iconst 5, 1) := by decide +kernel
theorem dX8_length_72 : decode cX8_length 72 = .ok (.iload 5, 2) := by decide +kernel
theorem dX8_length_74 : decode cX8_length 74 = .ok (.iload 8, 2) := by decide +kernel
theorem dX8_length_76 : decode cX8_length 76 = .ok (.invokestatic 113, 3) := by decide +kernel
theorem dX8_length_79 : decode cX8_length 79 = .ok (.iastore, 1) := by decide +kernel
theorem dX8_length_80 : decode cX8_length 80 = .ok (.aload_n 0, 1) := by decide +kernel
theorem dX8_length_81 : decode cX8_length 81 = .ok (.getfield 23, 3) := by decide +kernel
theorem dX8_length_84 : decode cX8_length 84 = .ok (.iconst 0, 1) := by decide +kernel
theorem dX8_length_85 : decode cX8_length 85 = .ok (.invokevirtual 93, 3) := by decide +kernel
theorem dX8_length_88 : decode cX8_length 88 = .ok (.aload_n 0, 1) := by decide +kernel
theorem dX8_length_89 : decode cX8_length 89 = .ok (.getfield 23, 3) := by decide +kernel
theorem dX8_length_92 : decode cX8_length 92 = .ok (.getfield 119, 3) := by decide +kernel
theorem dX8_length_95 : decode cX8_length 95 = .ok (.iload 7, 2) := by decide +kernel
theorem dX8_length_97 : decode cX8_length 97 = .ok (.if_icmp .le 16, 3) := by decide +kernel
theorem dX8_length_100 : decode cX8_length 100 = .ok (.aload_n 0, 1) := by decide +kernel
theorem dX8_length_101 : decode cX8_length 101 = .ok (.getfield 23, 3) := by decide +kernel
theorem dX8_length_104 : decode cX8_length 104 = .ok (.getfield 119, 3) := by decide +kernel
theorem dX8_length_107 : decode cX8_length 107 = .ok (.istore 7, 2) := by decide +kernel
theorem dX8_length_109 : decode cX8_length 109 = .ok (.iload 8, 2) := by decide +kernel
theorem dX8_length_111 : decode cX8_length 111 = .ok (.istore 6, 2) := by decide +kernel
theorem dX8_length_113 : decode cX8_length 113 = .ok (.iinc 8 1, 3) := by decide +kernel
theorem dX8_length_116 : decode cX8_length 116 = .ok (.goto (-73), 3) := by decide +kernel
theorem dX8_length_119 : decode cX8_length 119 = .ok (.iload 6, 2) := by decide +kernel
theorem dX8_length_121 : decode cX8_length 121 = .ok (.ireturn, 1) := by decide +kernel
theorem dX8_straight_0 : decode cX8_straight 0 = .ok (.iload 4, 2) := by decide +kernel
theorem dX8_straight_2 : decode cX8_straight 2 = .ok (.iconst 0, 1) := by decide +kernel
theorem dX8_straight_3 : decode cX8_straight 3 = .ok (.iconst 1, 1) := by decide +kernel
theorem dX8_straight_4 : decode cX8_straight 4 = .ok (.invokestatic 75, 3) := by decide +kernel
theorem dX8_straight_7 : decode cX8_straight 7 = .ok (.ifCond .eq 14, 3) := by decide +kernel
theorem dX8_straight_10 : decode cX8_straight 10 = .ok (.aload_n 0, 1) := by decide +kernel
theorem dX8_straight_11 : decode cX8_straight 11 = .ok (.iload_n 1, 1) := by decide +kernel
theorem dX8_straight_12 : decode cX8_straight 12 = .ok (.iload_n 2, 1) := by decide +kernel
theorem dX8_straight_13 : decode cX8_straight 13 = .ok (.iload_n 3, 1) := by decide +kernel
theorem dX8_straight_14 : decode cX8_straight 14 = .ok (.iconst 0, 1) := by decide +kernel
theorem dX8_straight_15 : decode cX8_straight 15 = .ok (.invokevirtual 85, 3) := by decide +kernel
theorem dX8_straight_18 : decode cX8_straight 18 = .ok (.ifCond .ne 10, 3) := by decide +kernel
theorem dX8_straight_21 : decode cX8_straight 21 = .ok (.aload_n 0, 1) := by decide +kernel
theorem dX8_straight_22 : decode cX8_straight 22 = .ok (.bipush (-2), 2) := by decide +kernel
theorem dX8_straight_24 : decode cX8_straight 24 = .ok (.invokevirtual 63, 3) := by decide +kernel
theorem dX8_straight_27 : decode cX8_straight 27 = .ok (.ireturn, 1) := by decide +kernel
theorem dX8_straight_28 : decode cX8_straight 28 = .ok (.iconst (-1), 1) := by decide +kernel
theorem dX8_straight_29 : decode cX8_straight 29 = .ok (.istore 5, 2) := by decide +kernel
theorem dX8_straight_31 : decode cX8_straight 31 = .ok (.getstatic 107, 3) := by decide +kernel
theorem dX8_straight_34 : decode cX8_straight 34 = .ok (.bipush 7, 2) := by decide +kernel
theorem dX8_straight_36 : decode cX8_straight 36 = .ok (.iaload, 1) := by decide +kernel
theorem dX8_straight_37 : decode cX8_straight 37 = .ok (.istore 6, 2) := by decide +kernel
theorem dX8_straight_39 : decode cX8_straight 39 = .ok (.iload 6, 2) := by decide +kernel
theorem dX8_straight_41 : decode cX8_straight 41 = .ok (.getstatic 110, 3) := by decide +kernel
theorem dX8_straight_44 : decode cX8_straight 44 = .ok (.bipush 7, 2) := by decide +kernel
theorem dX8_straight_46 : decode cX8_straight 46 = .ok (.iaload, 1) := by decide +kernel
theorem dX8_straight_47 : decode cX8_straight 47 = .ok (.if_icmp .gt 54, 3) := by decide +kernel
theorem dX8_straight_50 : decode cX8_straight 50 = .ok (.aload_n 0, 1) := by decide +kernel
theorem dX8_straight_51 : decode cX8_straight 51 = .ok (.getfield 23, 3) := by decide +kernel
theorem dX8_straight_54 : decode cX8_straight 54 = .ok (.getfield 90, 3) := by decide +kernel
theorem dX8_straight_57 : decode cX8_straight 57 = .ok (.bipush 7, 2) := by decide +kernel
theorem dX8_straight_59 : decode cX8_straight 59 = .ok (.iload 6, 2) := by decide +kernel
theorem dX8_straight_61 : decode cX8_straight 61 = .ok (.iastore, 1) := by decide +kernel
theorem dX8_straight_62 : decode cX8_straight 62 = .ok (.aload_n 0, 1) := by decide +kernel
theorem dX8_straight_63 : decode cX8_straight 63 = .ok (.getfield 23, 3) := by decide +kernel
theorem dX8_straight_66 : decode cX8_straight 66 = .ok (.invokevirtual 122, 3) := by decide +kernel
theorem dX8_straight_69 : decode cX8_straight 69 = .ok (.aload_n 0, 1) := by decide +kernel
theorem dX8_straight_70 : decode cX8_straight 70 = .ok (.getfield 23, 3) := by decide +kernel
theorem dX8_straight_73 : decode cX8_straight 73 = .ok (.getfield 104, 3) := by decide +kernel
theorem dX8_straight_76 : decode cX8_straight 76 = .ok (.ifCond .ne 19, 3) := by decide +kernel
theorem dX8_straight_79 : decode cX8_straight 79 = .ok (.iload 4, 2) := by decide +kernel
theorem dX8_straight_81 : decode cX8_straight 81 = .ok (.iconst 1, 1) := by decide +kernel
theorem dX8_straight_82 : decode cX8_straight 82 = .ok (.if_icmp .eq 9, 3) := by decide +kernel
theorem dX8_straight_85 : decode cX8_straight 85 = .ok (.iload 5, 2) := by decide +kernel
theorem dX8_straight_87 : decode cX8_straight 87 = .ok (.iconst (-1), 1) := by decide +kernel
theorem dX8_straight_88 : decode cX8_straight 88 = .ok (.if_icmp .ne 7, 3) := by decide +kernel
theorem dX8_straight_91 : decode cX8_straight 91 = .ok (.iload 6, 2) := by decide +kernel
theorem dX8_straight_93 : decode cX8_straight 93 = .ok (.istore 5, 2) := by decide +kernel
theorem dX8_straight_95 : decode cX8_straight 95 = .ok (.iinc 6 1, 3) := by decide +kernel
theorem dX8_straight_98 : decode cX8_straight 98 = .ok (.goto (-59), 3) := by decide +kernel
theorem dX8_straight_101 : decode cX8_straight 101 = .ok (.iload 5, 2) := by decide +kernel
theorem dX8_straight_103 : decode cX8_straight 103 = .ok (.ireturn, 1) := by decide +kernel
theorem dX8_contest_0 : decode cX8_contest 0 = .ok (.bipush 6, 2) := by decide +kernel
theorem dX8_contest_2 : decode cX8_contest 2 = .ok (.iload 5, 2) := by decide +kernel
theorem dX8_contest_4 : decode cX8_contest 4 = .ok (.invokestatic 59, 3) := by decide +kernel
theorem dX8_contest_7 : decode cX8_contest 7 = .ok (.ifCond .eq 32, 3) := by decide +kernel
theorem dX8_contest_10 : decode cX8_contest 10 = .ok (.bipush 6, 2) := by decide +kernel
theorem dX8_contest_12 : decode cX8_contest 12 = .ok (.iload 6, 2) := by decide +kernel
theorem dX8_contest_14 : decode cX8_contest 14 = .ok (.invokestatic 59, 3) := by decide +kernel
theorem dX8_contest_17 : decode cX8_contest 17 = .ok (.ifCond .eq 22, 3) := by decide +kernel
theorem dX8_contest_20 : decode cX8_contest 20 = .ok (.iload 5, 2) := by decide +kernel
theorem dX8_contest_22 : decode cX8_contest 22 = .ok (.iload 6, 2) := by decide +kernel
theorem dX8_contest_24 : decode cX8_contest 24 = .ok (.if_icmp .gt 15, 3) := by decide +kernel
theorem dX8_contest_27 : decode cX8_contest 27 = .ok (.aload_n 0, 1) := by decide +kernel
theorem dX8_contest_28 : decode cX8_contest 28 = .ok (.iload_n 1, 1) := by decide +kernel
theorem dX8_contest_29 : decode cX8_contest 29 = .ok (.iload_n 2, 1) := by decide +kernel
theorem dX8_contest_30 : decode cX8_contest 30 = .ok (.iload_n 3, 1) := by decide +kernel
theorem dX8_contest_31 : decode cX8_contest 31 = .ok (.iload 4, 2) := by decide +kernel
theorem dX8_contest_33 : decode cX8_contest 33 = .ok (.invokevirtual 85, 3) := by decide +kernel
theorem dX8_contest_36 : decode cX8_contest 36 = .ok (.ifCond .ne 10, 3) := by decide +kernel
theorem dX8_contest_39 : decode cX8_contest 39 = .ok (.aload_n 0, 1) := by decide +kernel
theorem dX8_contest_40 : decode cX8_contest 40 = .ok (.bipush (-2), 2) := by decide +kernel
theorem dX8_contest_42 : decode cX8_contest 42 = .ok (.invokevirtual 63, 3) := by decide +kernel
theorem dX8_contest_45 : decode cX8_contest 45 = .ok (.ireturn, 1) := by decide +kernel
theorem dX8_contest_46 : decode cX8_contest 46 = .ok (.iload 5, 2) := by decide +kernel
theorem dX8_contest_48 : decode cX8_contest 48 = .ok (.istore 7, 2) := by decide +kernel
theorem dX8_contest_50 : decode cX8_contest 50 = .ok (.iconst (-1), 1) := by decide +kernel
theorem dX8_contest_51 : decode cX8_contest 51 = .ok (.istore 8, 2) := by decide +kernel
theorem dX8_contest_53 : decode cX8_contest 53 = .ok (.iload 5, 2) := by decide +kernel
theorem dX8_contest_55 : decode cX8_contest 55 = .ok (.istore 9, 2) := by decide +kernel
theorem dX8_contest_57 : decode cX8_contest 57 = .ok (.iload 9, 2) := by decide +kernel
theorem dX8_contest_59 : decode cX8_contest 59 = .ok (.iload 6, 2) := by decide +kernel
theorem dX8_contest_61 : decode cX8_contest 61 = .ok (.if_icmp .gt 54, 3) := by decide +kernel
theorem dX8_contest_64 : decode cX8_contest 64 = .ok (.aload_n 0, 1) := by decide +kernel
theorem dX8_contest_65 : decode cX8_contest 65 = .ok (.getfield 23, 3) := by decide +kernel
theorem dX8_contest_68 : decode cX8_contest 68 = .ok (.getfield 90, 3) := by decide +kernel
theorem dX8_contest_71 : decode cX8_contest 71 = .ok (.bipush 6, 2) := by decide +kernel
theorem dX8_contest_73 : decode cX8_contest 73 = .ok (.iload 9, 2) := by decide +kernel
theorem dX8_contest_75 : decode cX8_contest 75 = .ok (.iastore, 1) := by decide +kernel
theorem dX8_contest_76 : decode cX8_contest 76 = .ok (.aload_n 0, 1) := by decide +kernel
theorem dX8_contest_77 : decode cX8_contest 77 = .ok (.getfield 23, 3) := by decide +kernel
theorem dX8_contest_80 : decode cX8_contest 80 = .ok (.iconst 0, 1) := by decide +kernel
theorem dX8_contest_81 : decode cX8_contest 81 = .ok (.invokevirtual 93, 3) := by decide +kernel
theorem dX8_contest_84 : decode cX8_contest 84 = .ok (.aload_n 0, 1) := by decide +kernel
theorem dX8_contest_85 : decode cX8_contest 85 = .ok (.getfield 23, 3) := by decide +kernel
theorem dX8_contest_88 : decode cX8_contest 88 = .ok (.getfield 119, 3) := by decide +kernel
theorem dX8_contest_91 : decode cX8_contest 91 = .ok (.iload 8, 2) := by decide +kernel
theorem dX8_contest_93 : decode cX8_contest 93 = .ok (.if_icmp .le 16, 3) := by decide +kernel
theorem dX8_contest_96 : decode cX8_contest 96 = .ok (.aload_n 0, 1) := by decide +kernel
theorem dX8_contest_97 : decode cX8_contest 97 = .ok (.getfield 23, 3) := by decide +kernel
theorem dX8_contest_100 : decode cX8_contest 100 = .ok (.getfield 119, 3) := by decide +kernel
theorem dX8_contest_103 : decode cX8_contest 103 = .ok (.istore 8, 2) := by decide +kernel
theorem dX8_contest_105 : decode cX8_contest 105 = .ok (.iload 9, 2) := by decide +kernel
theorem dX8_contest_107 : decode cX8_contest 107 = .ok (.istore 7, 2) := by decide +kernel
theorem dX8_contest_109 : decode cX8_contest 109 = .ok (.iinc 9 1, 3) := by decide +kernel
theorem dX8_contest_112 : decode cX8_contest 112 = .ok (.goto (-55), 3) := by decide +kernel
theorem dX8_contest_115 : decode cX8_contest 115 = .ok (.iload 7, 2) := by decide +kernel
theorem dX8_contest_117 : decode cX8_contest 117 = .ok (.ireturn, 1) := by decide +kernel
theorem dX8_story_0 : decode cX8_story 0 = .ok (.iload_n 1, 1) := by decide +kernel
theorem dX8_story_1 : decode cX8_story 1 = .ok (.iconst 0, 1) := by decide +kernel
theorem dX8_story_2 : decode cX8_story 2 = .ok (.iconst 3, 1) := by decide +kernel
theorem dX8_story_3 : decode cX8_story 3 = .ok (.invokestatic 75, 3) := by decide +kernel
theorem dX8_story_6 : decode cX8_story 6 = .ok (.ifCond .eq 31, 3) := by decide +kernel
theorem dX8_story_9 : decode cX8_story 9 = .ok (.iload_n 2, 1) := by decide +kernel
theorem dX8_story_10 : decode cX8_story 10 = .ok (.iconst 0, 1) := by decide +kernel
theorem dX8_story_11 : decode cX8_story 11 = .ok (.iconst 1, 1) := by decide +kernel
theorem dX8_story_12 : decode cX8_story 12 = .ok (.invokestatic 75, 3) := by decide +kernel
theorem dX8_story_15 : decode cX8_story 15 = .ok (.ifCond .eq 22, 3) := by decide +kernel
theorem dX8_story_18 : decode cX8_story 18 = .ok (.iload_n 3, 1) := by decide +kernel
theorem dX8_story_19 : decode cX8_story 19 = .ok (.iconst 0, 1) := by decide +kernel
theorem dX8_story_20 : decode cX8_story 20 = .ok (.iload_n 2, 1) := by decide +kernel
theorem dX8_story_21 : decode cX8_story 21 = .ok (.ifCond .ne 8, 3) := by decide +kernel
theorem dX8_story_24 : decode cX8_story 24 = .ok (.bipush 20, 2) := by decide +kernel
theorem dX8_story_26 : decode cX8_story 26 = .ok (.goto 5, 3) := by decide +kernel
theorem dX8_story_29 : decode cX8_story 29 = .ok (.bipush 9, 2) := by decide +kernel
theorem dX8_story_31 : decode cX8_story 31 = .ok (.invokestatic 75, 3) := by decide +kernel
theorem dX8_story_34 : decode cX8_story 34 = .ok (.ifCond .ne 10, 3) := by decide +kernel
theorem dX8_story_37 : decode cX8_story 37 = .ok (.aload_n 0, 1) := by decide +kernel
theorem dX8_story_38 : decode cX8_story 38 = .ok (.bipush (-2), 2) := by decide +kernel
theorem dX8_story_40 : decode cX8_story 40 = .ok (.invokevirtual 63, 3) := by decide +kernel
theorem dX8_story_43 : decode cX8_story 43 = .ok (.ireturn, 1) := by decide +kernel
theorem dX8_story_44 : decode cX8_story 44 = .ok (.aload_n 0, 1) := by decide +kernel
theorem dX8_story_45 : decode cX8_story 45 = .ok (.getfield 10, 3) := by decide +kernel
theorem dX8_story_48 : decode cX8_story 48 = .ok (.getfield 125, 3) := by decide +kernel
theorem dX8_story_51 : decode cX8_story 51 = .ok (.iload_n 1, 1) := by decide +kernel
theorem dX8_story_52 : decode cX8_story 52 = .ok (.iload_n 2, 1) := by decide +kernel
theorem dX8_story_53 : decode cX8_story 53 = .ok (.iload_n 3, 1) := by decide +kernel
theorem dX8_story_54 : decode cX8_story 54 = .ok (.invokevirtual 128, 3) := by decide +kernel
theorem dX8_story_57 : decode cX8_story 57 = .ok (.ireturn, 1) := by decide +kernel
theorem dX8_tries_0 : decode cX8_tries 0 = .ok (.iload_n 1, 1) := by decide +kernel
theorem dX8_tries_1 : decode cX8_tries 1 = .ok (.iconst 0, 1) := by decide +kernel
theorem dX8_tries_2 : decode cX8_tries 2 = .ok (.bipush 30, 2) := by decide +kernel
theorem dX8_tries_4 : decode cX8_tries 4 = .ok (.invokestatic 75, 3) := by decide +kernel
theorem dX8_tries_7 : decode cX8_tries 7 = .ok (.ifCond .eq 12, 3) := by decide +kernel
theorem dX8_tries_10 : decode cX8_tries 10 = .ok (.iload_n 2, 1) := by decide +kernel
theorem dX8_tries_11 : decode cX8_tries 11 = .ok (.iconst 0, 1) := by decide +kernel
theorem dX8_tries_12 : decode cX8_tries 12 = .ok (.iload_n 1, 1) := by decide +kernel
theorem dX8_tries_13 : decode cX8_tries 13 = .ok (.invokestatic 75, 3) := by decide +kernel
theorem dX8_tries_16 : decode cX8_tries 16 = .ok (.ifCond .ne 10, 3) := by decide +kernel
theorem dX8_tries_19 : decode cX8_tries 19 = .ok (.aload_n 0, 1) := by decide +kernel
theorem dX8_tries_20 : decode cX8_tries 20 = .ok (.bipush (-2), 2) := by decide +kernel
theorem dX8_tries_22 : decode cX8_tries 22 = .ok (.invokevirtual 63, 3) := by decide +kernel
theorem dX8_tries_25 : decode cX8_tries 25 = .ok (.ireturn, 1) := by decide +kernel
theorem dX8_tries_26 : decode cX8_tries 26 = .ok (.aload_n 0, 1) := by decide +kernel
theorem dX8_tries_27 : decode cX8_tries 27 = .ok (.getfield 10, 3) := by decide +kernel
theorem dX8_tries_30 : decode cX8_tries 30 = .ok (.getfield 134, 3) := by decide +kernel
theorem dX8_tries_33 : decode cX8_tries 33 = .ok (.iconst 0, 1) := by decide +kernel
theorem dX8_tries_34 : decode cX8_tries 34 = .ok (.iconst 0, 1) := by decide +kernel
theorem dX8_tries_35 : decode cX8_tries 35 = .ok (.iload_n 1, 1) := by decide +kernel
theorem dX8_tries_36 : decode cX8_tries 36 = .ok (.invokevirtual 128, 3) := by decide +kernel
theorem dX8_tries_39 : decode cX8_tries 39 = .ok (.pop, 1) := by decide +kernel
theorem dX8_tries_40 : decode cX8_tries 40 = .ok (.aload_n 0, 1) := by decide +kernel
theorem dX8_tries_41 : decode cX8_tries 41 = .ok (.getfield 10, 3) := by decide +kernel
theorem dX8_tries_44 : decode cX8_tries 44 = .ok (.getfield 134, 3) := by decide +kernel
theorem dX8_tries_47 : decode cX8_tries 47 = .ok (.iconst 0, 1) := by decide +kernel
theorem dX8_tries_48 : decode cX8_tries 48 = .ok (.iconst 1, 1) := by decide +kernel
theorem dX8_tries_49 : decode cX8_tries 49 = .ok (.iload_n 2, 1) := by decide +kernel
theorem dX8_tries_50 : decode cX8_tries 50 = .ok (.invokevirtual 128, 3) := by decide +kernel
theorem dX8_tries_53 : decode cX8_tries 53 = .ok (.pop, 1) := by decide +kernel
theorem dX8_tries_54 : decode cX8_tries 54 = .ok (.iconst 1, 1) := by decide +kernel
theorem dX8_tries_55 : decode cX8_tries 55 = .ok (.ireturn, 1) := by decide +kernel
theorem dX8_odds_0 : decode cX8_odds 0 = .ok (.iload_n 1, 1) := by decide +kernel
theorem dX8_odds_1 : decode cX8_odds 1 = .ok (.iconst 0, 1) := by decide +kernel
theorem dX8_odds_2 : decode cX8_odds 2 = .ok (.iconst 3, 1) := by decide +kernel
theorem dX8_odds_3 : decode cX8_odds 3 = .ok (.invokestatic 75, 3) := by decide +kernel
theorem dX8_odds_6 : decode cX8_odds 6 = .ok (.ifCond .ne 10, 3) := by decide +kernel
theorem dX8_odds_9 : decode cX8_odds 9 = .ok (.aload_n 0, 1) := by decide +kernel
theorem dX8_odds_10 : decode cX8_odds 10 = .ok (.bipush (-2), 2) := by decide +kernel
theorem dX8_odds_12 : decode cX8_odds 12 = .ok (.invokevirtual 63, 3) := by decide +kernel
theorem dX8_odds_15 : decode cX8_odds 15 = .ok (.ireturn, 1) := by decide +kernel
theorem dX8_odds_16 : decode cX8_odds 16 = .ok (.aload_n 0, 1) := by decide +kernel
theorem dX8_odds_17 : decode cX8_odds 17 = .ok (.getfield 44, 3) := by decide +kernel
theorem dX8_odds_20 : decode cX8_odds 20 = .ok (.aload_n 0, 1) := by decide +kernel
theorem dX8_odds_21 : decode cX8_odds 21 = .ok (.getfield 10, 3) := by decide +kernel
theorem dX8_odds_24 : decode cX8_odds 24 = .ok (.invokevirtual 137, 3) := by decide +kernel
theorem dX8_odds_27 : decode cX8_odds 27 = .ok (.ifCond .ne 10, 3) := by decide +kernel
theorem dX8_odds_30 : decode cX8_odds 30 = .ok (.aload_n 0, 1) := by decide +kernel
theorem dX8_odds_31 : decode cX8_odds 31 = .ok (.bipush (-3), 2) := by decide +kernel
theorem dX8_odds_33 : decode cX8_odds 33 = .ok (.invokevirtual 141, 3) := by decide +kernel
theorem dX8_odds_36 : decode cX8_odds 36 = .ok (.ireturn, 1) := by decide +kernel
theorem dX8_odds_37 : decode cX8_odds 37 = .ok (.aload_n 0, 1) := by decide +kernel
theorem dX8_odds_38 : decode cX8_odds 38 = .ok (.getfield 44, 3) := by decide +kernel
theorem dX8_odds_41 : decode cX8_odds 41 = .ok (.aload_n 0, 1) := by decide +kernel
theorem dX8_odds_42 : decode cX8_odds 42 = .ok (.getfield 10, 3) := by decide +kernel
theorem dX8_odds_45 : decode cX8_odds 45 = .ok (.iload_n 1, 1) := by decide +kernel
theorem dX8_odds_46 : decode cX8_odds 46 = .ok (.invokevirtual 144, 3) := by decide +kernel
theorem dX8_odds_49 : decode cX8_odds 49 = .ok (.aload_n 0, 1) := by decide +kernel
theorem dX8_odds_50 : decode cX8_odds 50 = .ok (.getfield 51, 3) := by decide +kernel
theorem dX8_odds_53 : decode cX8_odds 53 = .ok (.aload_n 0, 1) := by decide +kernel
theorem dX8_odds_54 : decode cX8_odds 54 = .ok (.getfield 44, 3) := by decide +kernel
theorem dX8_odds_57 : decode cX8_odds 57 = .ok (.getfield 148, 3) := by decide +kernel
theorem dX8_odds_60 : decode cX8_odds 60 = .ok (.aload_n 0, 1) := by decide +kernel
theorem dX8_odds_61 : decode cX8_odds 61 = .ok (.getfield 44, 3) := by decide +kernel
theorem dX8_odds_64 : decode cX8_odds 64 = .ok (.getfield 152, 3) := by decide +kernel
theorem dX8_odds_67 : decode cX8_odds 67 = .ok (.invokevirtual 155, 3) := by decide +kernel
theorem dX8_odds_70 : decode cX8_odds 70 = .ok (.iconst 1, 1) := by decide +kernel
theorem dX8_odds_71 : decode cX8_odds 71 = .ok (.ireturn, 1) := by decide +kernel
theorem dX8_parts_0 : decode cX8_parts 0 = .ok (.aload_n 0, 1) := by decide +kernel
theorem dX8_parts_1 : decode cX8_parts 1 = .ok (.getfield 44, 3) := by decide +kernel
theorem dX8_parts_4 : decode cX8_parts 4 = .ok (.aload_n 0, 1) := by decide +kernel
theorem dX8_parts_5 : decode cX8_parts 5 = .ok (.getfield 10, 3) := by decide +kernel
theorem dX8_parts_8 : decode cX8_parts 8 = .ok (.invokevirtual 137, 3) := by decide +kernel
theorem dX8_parts_11 : decode cX8_parts 11 = .ok (.ifCond .ne 10, 3) := by decide +kernel
theorem dX8_parts_14 : decode cX8_parts 14 = .ok (.aload_n 0, 1) := by decide +kernel
theorem dX8_parts_15 : decode cX8_parts 15 = .ok (.bipush (-3), 2) := by decide +kernel
theorem dX8_parts_17 : decode cX8_parts 17 = .ok (.invokevirtual 141, 3) := by decide +kernel
theorem dX8_parts_20 : decode cX8_parts 20 = .ok (.ireturn, 1) := by decide +kernel
theorem dX8_parts_21 : decode cX8_parts 21 = .ok (.aload_n 0, 1) := by decide +kernel
theorem dX8_parts_22 : decode cX8_parts 22 = .ok (.getfield 44, 3) := by decide +kernel
theorem dX8_parts_25 : decode cX8_parts 25 = .ok (.getfield 159, 3) := by decide +kernel
theorem dX8_parts_28 : decode cX8_parts 28 = .ok (.ireturn, 1) := by decide +kernel
theorem dX8_person_0 : decode cX8_person 0 = .ok (.iload_n 1, 1) := by decide +kernel
theorem dX8_person_1 : decode cX8_person 1 = .ok (.iconst 0, 1) := by decide +kernel
theorem dX8_person_2 : decode cX8_person 2 = .ok (.iconst 1, 1) := by decide +kernel
theorem dX8_person_3 : decode cX8_person 3 = .ok (.invokestatic 75, 3) := by decide +kernel
theorem dX8_person_6 : decode cX8_person 6 = .ok (.ifCond .eq 14, 3) := by decide +kernel
theorem dX8_person_9 : decode cX8_person 9 = .ok (.iload_n 2, 1) := by decide +kernel
theorem dX8_person_10 : decode cX8_person 10 = .ok (.iconst 0, 1) := by decide +kernel
theorem dX8_person_11 : decode cX8_person 11 = .ok (.sipush 999, 3) := by decide +kernel
theorem dX8_person_14 : decode cX8_person 14 = .ok (.invokestatic 75, 3) := by decide +kernel
theorem dX8_person_17 : decode cX8_person 17 = .ok (.ifCond .ne 10, 3) := by decide +kernel
theorem dX8_person_20 : decode cX8_person 20 = .ok (.aload_n 0, 1) := by decide +kernel
theorem dX8_person_21 : decode cX8_person 21 = .ok (.bipush (-2), 2) := by decide +kernel
theorem dX8_person_23 : decode cX8_person 23 = .ok (.invokevirtual 63, 3) := by decide +kernel
theorem dX8_person_26 : decode cX8_person 26 = .ok (.ireturn, 1) := by decide +kernel
theorem dX8_person_27 : decode cX8_person 27 = .ok (.aload_n 0, 1) := by decide +kernel
theorem dX8_person_28 : decode cX8_person 28 = .ok (.aload_n 0, 1) := by decide +kernel
theorem dX8_person_29 : decode cX8_person 29 = .ok (.getfield 10, 3) := by decide +kernel
theorem dX8_person_32 : decode cX8_person 32 = .ok (.getfield 162, 3) := by decide +kernel
theorem dX8_person_35 : decode cX8_person 35 = .ok (.iload_n 1, 1) := by decide +kernel
theorem dX8_person_36 : decode cX8_person 36 = .ok (.iload_n 2, 1) := by decide +kernel
theorem dX8_person_37 : decode cX8_person 37 = .ok (.iload_n 3, 1) := by decide +kernel
theorem dX8_person_38 : decode cX8_person 38 = .ok (.ifCond .eq 7, 3) := by decide +kernel
theorem dX8_person_41 : decode cX8_person 41 = .ok (.iconst 1, 1) := by decide +kernel
theorem dX8_person_42 : decode cX8_person 42 = .ok (.goto 4, 3) := by decide +kernel
theorem dX8_person_45 : decode cX8_person 45 = .ok (.iconst 0, 1) := by decide +kernel
theorem dX8_person_46 : decode cX8_person 46 = .ok (.iconst 0, 1) := by decide +kernel
theorem dX8_person_47 : decode cX8_person 47 = .ok (.invokevirtual 71, 3) := by decide +kernel
theorem dX8_person_50 : decode cX8_person 50 = .ok (.ireturn, 1) := by decide +kernel
theorem dX8_praise_0 : decode cX8_praise 0 = .ok (.iload_n 1, 1) := by decide +kernel
theorem dX8_praise_1 : decode cX8_praise 1 = .ok (.bipush (-99), 2) := by decide +kernel
theorem dX8_praise_3 : decode cX8_praise 3 = .ok (.bipush 99, 2) := by decide +kernel
theorem dX8_praise_5 : decode cX8_praise 5 = .ok (.invokestatic 75, 3) := by decide +kernel
theorem dX8_praise_8 : decode cX8_praise 8 = .ok (.ifCond .ne 10, 3) := by decide +kernel
theorem dX8_praise_11 : decode cX8_praise 11 = .ok (.aload_n 0, 1) := by decide +kernel
theorem dX8_praise_12 : decode cX8_praise 12 = .ok (.bipush (-100), 2) := by decide +kernel
theorem dX8_praise_14 : decode cX8_praise 14 = .ok (.invokevirtual 63, 3) := by decide +kernel
theorem dX8_praise_17 : decode cX8_praise 17 = .ok (.ireturn, 1) := by decide +kernel
theorem dX8_praise_18 : decode cX8_praise 18 = .ok (.aload_n 0, 1) := by decide +kernel
theorem dX8_praise_19 : decode cX8_praise 19 = .ok (.getfield 10, 3) := by decide +kernel
theorem dX8_praise_22 : decode cX8_praise 22 = .ok (.getfield 165, 3) := by decide +kernel
theorem dX8_praise_25 : decode cX8_praise 25 = .ok (.iconst 0, 1) := by decide +kernel
theorem dX8_praise_26 : decode cX8_praise 26 = .ok (.iconst 0, 1) := by decide +kernel
theorem dX8_praise_27 : decode cX8_praise 27 = .ok (.iload_n 1, 1) := by decide +kernel
theorem dX8_praise_28 : decode cX8_praise 28 = .ok (.invokevirtual 128, 3) := by decide +kernel
theorem dX8_praise_31 : decode cX8_praise 31 = .ok (.ireturn, 1) := by decide +kernel
theorem dX8_pairs_0 : decode cX8_pairs 0 = .ok (.iconst 0, 1) := by decide +kernel
theorem dX8_pairs_1 : decode cX8_pairs 1 = .ok (.istore_n 1, 1) := by decide +kernel
theorem dX8_pairs_2 : decode cX8_pairs 2 = .ok (.iconst 0, 1) := by decide +kernel
theorem dX8_pairs_3 : decode cX8_pairs 3 = .ok (.istore_n 2, 1) := by decide +kernel
theorem dX8_pairs_4 : decode cX8_pairs 4 = .ok (.iconst 0, 1) := by decide +kernel
theorem dX8_pairs_5 : decode cX8_pairs 5 = .ok (.istore_n 3, 1) := by decide +kernel
theorem dX8_pairs_6 : decode cX8_pairs 6 = .ok (.iload_n 3, 1) := by decide +kernel
theorem dX8_pairs_7 : decode cX8_pairs 7 = .ok (.aload_n 0, 1) := by decide +kernel
theorem dX8_pairs_8 : decode cX8_pairs 8 = .ok (.getfield 10, 3) := by decide +kernel
theorem dX8_pairs_11 : decode cX8_pairs 11 = .ok (.getfield 162, 3) := by decide +kernel
theorem dX8_pairs_14 : decode cX8_pairs 14 = .ok (.getfield 168, 3) := by decide +kernel
theorem dX8_pairs_17 : decode cX8_pairs 17 = .ok (.if_icmp .ge 93, 3) := by decide +kernel
theorem dX8_pairs_20 : decode cX8_pairs 20 = .ok (.iconst 0, 1) := by decide +kernel
theorem dX8_pairs_21 : decode cX8_pairs 21 = .ok (.istore 4, 2) := by decide +kernel
theorem dX8_pairs_23 : decode cX8_pairs 23 = .ok (.iload 4, 2) := by decide +kernel
theorem dX8_pairs_25 : decode cX8_pairs 25 = .ok (.aload_n 0, 1) := by decide +kernel
theorem dX8_pairs_26 : decode cX8_pairs 26 = .ok (.getfield 10, 3) := by decide +kernel
theorem dX8_pairs_29 : decode cX8_pairs 29 = .ok (.getfield 162, 3) := by decide +kernel
theorem dX8_pairs_32 : decode cX8_pairs 32 = .ok (.getfield 168, 3) := by decide +kernel
theorem dX8_pairs_35 : decode cX8_pairs 35 = .ok (.if_icmp .ge 69, 3) := by decide +kernel
theorem dX8_pairs_38 : decode cX8_pairs 38 = .ok (.aload_n 0, 1) := by decide +kernel
theorem dX8_pairs_39 : decode cX8_pairs 39 = .ok (.getfield 10, 3) := by decide +kernel
theorem dX8_pairs_42 : decode cX8_pairs 42 = .ok (.getfield 162, 3) := by decide +kernel
theorem dX8_pairs_45 : decode cX8_pairs 45 = .ok (.iload_n 3, 1) := by decide +kernel
theorem dX8_pairs_46 : decode cX8_pairs 46 = .ok (.iconst 0, 1) := by decide +kernel
theorem dX8_pairs_47 : decode cX8_pairs 47 = .ok (.invokevirtual 171, 3) := by decide +kernel
theorem dX8_pairs_50 : decode cX8_pairs 50 = .ok (.ifCond .ne 48, 3) := by decide +kernel
theorem dX8_pairs_53 : decode cX8_pairs 53 = .ok (.aload_n 0, 1) := by decide +kernel
theorem dX8_pairs_54 : decode cX8_pairs 54 = .ok (.getfield 10, 3) := by decide +kernel
theorem dX8_pairs_57 : decode cX8_pairs 57 = .ok (.getfield 162, 3) := by decide +kernel
theorem dX8_pairs_60 : decode cX8_pairs 60 = .ok (.iload 4, 2) := by decide +kernel
theorem dX8_pairs_62 : decode cX8_pairs 62 = .ok (.iconst 0, 1) := by decide +kernel
theorem dX8_pairs_63 : decode cX8_pairs 63 = .ok (.invokevirtual 171, 3) := by decide +kernel
theorem dX8_pairs_66 : decode cX8_pairs 66 = .ok (.iconst 1, 1) := by decide +kernel
theorem dX8_pairs_67 : decode cX8_pairs 67 = .ok (.if_icmp .ne 31, 3) := by decide +kernel
theorem dX8_pairs_70 : decode cX8_pairs 70 = .ok (.iinc 1 1, 3) := by decide +kernel
theorem dX8_pairs_73 : decode cX8_pairs 73 = .ok (.iload_n 2, 1) := by decide +kernel
theorem dX8_pairs_74 : decode cX8_pairs 74 = .ok (.iconst 1, 1) := by decide +kernel
theorem dX8_pairs_75 : decode cX8_pairs 75 = .ok (.aload_n 0, 1) := by decide +kernel
theorem dX8_pairs_76 : decode cX8_pairs 76 = .ok (.getfield 10, 3) := by decide +kernel
theorem dX8_pairs_79 : decode cX8_pairs 79 = .ok (.iload 4, 2) := by decide +kernel
theorem dX8_pairs_81 : decode cX8_pairs 81 = .ok (.invokevirtual 174, 3) := by decide +kernel
theorem dX8_pairs_84 : decode cX8_pairs 84 = .ok (.aload_n 0, 1) := by decide +kernel
theorem dX8_pairs_85 : decode cX8_pairs 85 = .ok (.getfield 10, 3) := by decide +kernel
theorem dX8_pairs_88 : decode cX8_pairs 88 = .ok (.iload_n 3, 1) := by decide +kernel
theorem dX8_pairs_89 : decode cX8_pairs 89 = .ok (.invokevirtual 174, 3) := by decide +kernel
theorem dX8_pairs_92 : decode cX8_pairs 92 = .ok (.invokestatic 177, 3) := by decide +kernel
theorem dX8_pairs_95 : decode cX8_pairs 95 = .ok (.iadd, 1) := by decide +kernel
theorem dX8_pairs_96 : decode cX8_pairs 96 = .ok (.iadd, 1) := by decide +kernel
theorem dX8_pairs_97 : decode cX8_pairs 97 = .ok (.istore_n 2, 1) := by decide +kernel
theorem dX8_pairs_98 : decode cX8_pairs 98 = .ok (.iinc 4 1, 3) := by decide +kernel
theorem dX8_pairs_101 : decode cX8_pairs 101 = .ok (.goto (-78), 3) := by decide +kernel
theorem dX8_pairs_104 : decode cX8_pairs 104 = .ok (.iinc 3 1, 3) := by decide +kernel
theorem dX8_pairs_107 : decode cX8_pairs 107 = .ok (.goto (-101), 3) := by decide +kernel
theorem dX8_pairs_110 : decode cX8_pairs 110 = .ok (.iload_n 1, 1) := by decide +kernel
theorem dX8_pairs_111 : decode cX8_pairs 111 = .ok (.ifCond .ne 10, 3) := by decide +kernel
theorem dX8_pairs_114 : decode cX8_pairs 114 = .ok (.aload_n 0, 1) := by decide +kernel
theorem dX8_pairs_115 : decode cX8_pairs 115 = .ok (.bipush (-3), 2) := by decide +kernel
theorem dX8_pairs_117 : decode cX8_pairs 117 = .ok (.invokevirtual 141, 3) := by decide +kernel
theorem dX8_pairs_120 : decode cX8_pairs 120 = .ok (.ireturn, 1) := by decide +kernel
theorem dX8_pairs_121 : decode cX8_pairs 121 = .ok (.aload_n 0, 1) := by decide +kernel
theorem dX8_pairs_122 : decode cX8_pairs 122 = .ok (.getfield 51, 3) := by decide +kernel
theorem dX8_pairs_125 : decode cX8_pairs 125 = .ok (.iload_n 2, 1) := by decide +kernel
theorem dX8_pairs_126 : decode cX8_pairs 126 = .ok (.i2l, 1) := by decide +kernel
theorem dX8_pairs_127 : decode cX8_pairs 127 = .ok (.iconst 2, 1) := by decide +kernel
theorem dX8_pairs_128 : decode cX8_pairs 128 = .ok (.iload_n 1, 1) := by decide +kernel
theorem dX8_pairs_129 : decode cX8_pairs 129 = .ok (.imul, 1) := by decide +kernel
theorem dX8_pairs_130 : decode cX8_pairs 130 = .ok (.i2l, 1) := by decide +kernel
theorem dX8_pairs_131 : decode cX8_pairs 131 = .ok (.invokevirtual 182, 3) := by decide +kernel
theorem dX8_pairs_134 : decode cX8_pairs 134 = .ok (.iconst 1, 1) := by decide +kernel
theorem dX8_pairs_135 : decode cX8_pairs 135 = .ok (.ireturn, 1) := by decide +kernel
theorem dX8_span_0 : decode cX8_span 0 = .ok (.iload_n 1, 1) := by decide +kernel
theorem dX8_span_1 : decode cX8_span 1 = .ok (.iconst 0, 1) := by decide +kernel
theorem dX8_span_2 : decode cX8_span 2 = .ok (.iconst 1, 1) := by decide +kernel
theorem dX8_span_3 : decode cX8_span 3 = .ok (.invokestatic 75, 3) := by decide +kernel
theorem dX8_span_6 : decode cX8_span 6 = .ok (.ifCond .eq 12, 3) := by decide +kernel
theorem dX8_span_9 : decode cX8_span 9 = .ok (.iload_n 2, 1) := by decide +kernel
theorem dX8_span_10 : decode cX8_span 10 = .ok (.iconst 0, 1) := by decide +kernel
theorem dX8_span_11 : decode cX8_span 11 = .ok (.iconst 2, 1) := by decide +kernel
theorem dX8_span_12 : decode cX8_span 12 = .ok (.invokestatic 75, 3) := by decide +kernel
theorem dX8_span_15 : decode cX8_span 15 = .ok (.ifCond .ne 11, 3) := by decide +kernel
theorem dX8_span_18 : decode cX8_span 18 = .ok (.aload_n 0, 1) := by decide +kernel
theorem dX8_span_19 : decode cX8_span 19 = .ok (.sipush (-1000), 3) := by decide +kernel
theorem dX8_span_22 : decode cX8_span 22 = .ok (.invokevirtual 63, 3) := by decide +kernel
theorem dX8_span_25 : decode cX8_span 25 = .ok (.ireturn, 1) := by decide +kernel
theorem dX8_span_26 : decode cX8_span 26 = .ok (.iconst 0, 1) := by decide +kernel
theorem dX8_span_27 : decode cX8_span 27 = .ok (.istore_n 3, 1) := by decide +kernel
theorem dX8_span_28 : decode cX8_span 28 = .ok (.iconst 0, 1) := by decide +kernel
theorem dX8_span_29 : decode cX8_span 29 = .ok (.istore 4, 2) := by decide +kernel
theorem dX8_span_31 : decode cX8_span 31 = .ok (.iconst 0, 1) := by decide +kernel
theorem dX8_span_32 : decode cX8_span 32 = .ok (.istore 5, 2) := by decide +kernel
theorem dX8_span_34 : decode cX8_span 34 = .ok (.iconst 0, 1) := by decide +kernel
theorem dX8_span_35 : decode cX8_span 35 = .ok (.istore 6, 2) := by decide +kernel
theorem dX8_span_37 : decode cX8_span 37 = .ok (.iconst 0, 1) := by decide +kernel
theorem dX8_span_38 : decode cX8_span 38 = .ok (.istore 7, 2) := by decide +kernel
theorem dX8_span_40 : decode cX8_span 40 = .ok (.iload 7, 2) := by decide +kernel
theorem dX8_span_42 : decode cX8_span 42 = .ok (.aload_n 0, 1) := by decide +kernel
theorem dX8_span_43 : decode cX8_span 43 = .ok (.getfield 10, 3) := by decide +kernel
theorem dX8_span_46 : decode cX8_span 46 = .ok (.getfield 162, 3) := by decide +kernel
theorem dX8_span_49 : decode cX8_span 49 = .ok (.getfield 168, 3) := by decide +kernel
theorem dX8_span_52 : decode cX8_span 52 = .ok (.if_icmp .ge 83, 3) := by decide +kernel
theorem dX8_span_55 : decode cX8_span 55 = .ok (.aload_n 0, 1) := by decide +kernel
theorem dX8_span_56 : decode cX8_span 56 = .ok (.getfield 10, 3) := by decide +kernel
theorem dX8_span_59 : decode cX8_span 59 = .ok (.getfield 162, 3) := by decide +kernel
theorem dX8_span_62 : decode cX8_span 62 = .ok (.iload 7, 2) := by decide +kernel
theorem dX8_span_64 : decode cX8_span 64 = .ok (.iconst 0, 1) := by decide +kernel
theorem dX8_span_65 : decode cX8_span 65 = .ok (.invokevirtual 171, 3) := by decide +kernel
theorem dX8_span_68 : decode cX8_span 68 = .ok (.iload_n 1, 1) := by decide +kernel
theorem dX8_span_69 : decode cX8_span 69 = .ok (.if_icmp .ne 60, 3) := by decide +kernel
theorem dX8_span_72 : decode cX8_span 72 = .ok (.aload_n 0, 1) := by decide +kernel
theorem dX8_span_73 : decode cX8_span 73 = .ok (.getfield 10, 3) := by decide +kernel
theorem dX8_span_76 : decode cX8_span 76 = .ok (.iload 7, 2) := by decide +kernel
theorem dX8_span_78 : decode cX8_span 78 = .ok (.invokevirtual 174, 3) := by decide +kernel
theorem dX8_span_81 : decode cX8_span 81 = .ok (.istore 8, 2) := by decide +kernel
theorem dX8_span_83 : decode cX8_span 83 = .ok (.iload_n 3, 1) := by decide +kernel
theorem dX8_span_84 : decode cX8_span 84 = .ok (.ifCond .ne 8, 3) := by decide +kernel
theorem dX8_span_87 : decode cX8_span 87 = .ok (.iload 8, 2) := by decide +kernel
theorem dX8_span_89 : decode cX8_span 89 = .ok (.goto 10, 3) := by decide +kernel
theorem dX8_span_92 : decode cX8_span 92 = .ok (.iload 5, 2) := by decide +kernel
theorem dX8_span_94 : decode cX8_span 94 = .ok (.iload 8, 2) := by decide +kernel
theorem dX8_span_96 : decode cX8_span 96 = .ok (.invokestatic 113, 3) := by decide +kernel
theorem dX8_span_99 : decode cX8_span 99 = .ok (.istore 5, 2) := by decide +kernel
theorem dX8_span_101 : decode cX8_span 101 = .ok (.iload_n 3, 1) := by decide +kernel
theorem dX8_span_102 : decode cX8_span 102 = .ok (.ifCond .ne 8, 3) := by decide +kernel
theorem dX8_span_105 : decode cX8_span 105 = .ok (.iload 8, 2) := by decide +kernel
theorem dX8_span_107 : decode cX8_span 107 = .ok (.goto 10, 3) := by decide +kernel
theorem dX8_span_110 : decode cX8_span 110 = .ok (.iload 6, 2) := by decide +kernel
theorem dX8_span_112 : decode cX8_span 112 = .ok (.iload 8, 2) := by decide +kernel
theorem dX8_span_114 : decode cX8_span 114 = .ok (.invokestatic 186, 3) := by decide +kernel
theorem dX8_span_117 : decode cX8_span 117 = .ok (.istore 6, 2) := by decide +kernel
theorem dX8_span_119 : decode cX8_span 119 = .ok (.iload 4, 2) := by decide +kernel
theorem dX8_span_121 : decode cX8_span 121 = .ok (.iload 8, 2) := by decide +kernel
theorem dX8_span_123 : decode cX8_span 123 = .ok (.iadd, 1) := by decide +kernel
theorem dX8_span_124 : decode cX8_span 124 = .ok (.istore 4, 2) := by decide +kernel
theorem dX8_span_126 : decode cX8_span 126 = .ok (.iinc 3 1, 3) := by decide +kernel
theorem dX8_span_129 : decode cX8_span 129 = .ok (.iinc 7 1, 3) := by decide +kernel
theorem dX8_span_132 : decode cX8_span 132 = .ok (.goto (-92), 3) := by decide +kernel
theorem dX8_span_135 : decode cX8_span 135 = .ok (.iload_n 3, 1) := by decide +kernel
theorem dX8_span_136 : decode cX8_span 136 = .ok (.ifCond .ne 11, 3) := by decide +kernel
theorem dX8_span_139 : decode cX8_span 139 = .ok (.aload_n 0, 1) := by decide +kernel
theorem dX8_span_140 : decode cX8_span 140 = .ok (.sipush (-2000), 3) := by decide +kernel
theorem dX8_span_143 : decode cX8_span 143 = .ok (.invokevirtual 141, 3) := by decide +kernel
theorem dX8_span_146 : decode cX8_span 146 = .ok (.ireturn, 1) := by decide +kernel
theorem dX8_span_147 : decode cX8_span 147 = .ok (.iload_n 2, 1) := by decide +kernel
theorem dX8_span_148 : decode cX8_span 148 = .ok (.iconst 2, 1) := by decide +kernel
theorem dX8_span_149 : decode cX8_span 149 = .ok (.if_icmp .ge 15, 3) := by decide +kernel
theorem dX8_span_152 : decode cX8_span 152 = .ok (.iload_n 2, 1) := by decide +kernel
theorem dX8_span_153 : decode cX8_span 153 = .ok (.ifCond .ne 8, 3) := by decide +kernel
theorem dX8_span_156 : decode cX8_span 156 = .ok (.iload 5, 2) := by decide +kernel
theorem dX8_span_158 : decode cX8_span 158 = .ok (.goto 5, 3) := by decide +kernel
theorem dX8_span_161 : decode cX8_span 161 = .ok (.iload 6, 2) := by decide +kernel
theorem dX8_span_163 : decode cX8_span 163 = .ok (.ireturn, 1) := by decide +kernel
theorem dX8_span_164 : decode cX8_span 164 = .ok (.aload_n 0, 1) := by decide +kernel
theorem dX8_span_165 : decode cX8_span 165 = .ok (.getfield 51, 3) := by decide +kernel
theorem dX8_span_168 : decode cX8_span 168 = .ok (.iload 4, 2) := by decide +kernel
theorem dX8_span_170 : decode cX8_span 170 = .ok (.i2l, 1) := by decide +kernel
theorem dX8_span_171 : decode cX8_span 171 = .ok (.iload_n 3, 1) := by decide +kernel
theorem dX8_span_172 : decode cX8_span 172 = .ok (.i2l, 1) := by decide +kernel
theorem dX8_span_173 : decode cX8_span 173 = .ok (.invokevirtual 182, 3) := by decide +kernel
theorem dX8_span_176 : decode cX8_span 176 = .ok (.iconst 1, 1) := by decide +kernel
theorem dX8_span_177 : decode cX8_span 177 = .ok (.ireturn, 1) := by decide +kernel
theorem dX8_thorn_0 : decode cX8_thorn 0 = .ok (.iload_n 1, 1) := by decide +kernel
theorem dX8_thorn_1 : decode cX8_thorn 1 = .ok (.iconst 1, 1) := by decide +kernel
theorem dX8_thorn_2 : decode cX8_thorn 2 = .ok (.bipush 99, 2) := by decide +kernel
theorem dX8_thorn_4 : decode cX8_thorn 4 = .ok (.invokestatic 75, 3) := by decide +kernel
theorem dX8_thorn_7 : decode cX8_thorn 7 = .ok (.ifCond .eq 32, 3) := by decide +kernel
theorem dX8_thorn_10 : decode cX8_thorn 10 = .ok (.iload_n 2, 1) := by decide +kernel
theorem dX8_thorn_11 : decode cX8_thorn 11 = .ok (.iconst 0, 1) := by decide +kernel
theorem dX8_thorn_12 : decode cX8_thorn 12 = .ok (.iconst 3, 1) := by decide +kernel
theorem dX8_thorn_13 : decode cX8_thorn 13 = .ok (.invokestatic 75, 3) := by decide +kernel
theorem dX8_thorn_16 : decode cX8_thorn 16 = .ok (.ifCond .eq 23, 3) := by decide +kernel
theorem dX8_thorn_19 : decode cX8_thorn 19 = .ok (.iload_n 3, 1) := by decide +kernel
theorem dX8_thorn_20 : decode cX8_thorn 20 = .ok (.iconst 1, 1) := by decide +kernel
theorem dX8_thorn_21 : decode cX8_thorn 21 = .ok (.bipush 30, 2) := by decide +kernel
theorem dX8_thorn_23 : decode cX8_thorn 23 = .ok (.invokestatic 75, 3) := by decide +kernel
theorem dX8_thorn_26 : decode cX8_thorn 26 = .ok (.ifCond .eq 13, 3) := by decide +kernel
theorem dX8_thorn_29 : decode cX8_thorn 29 = .ok (.iload 4, 2) := by decide +kernel
theorem dX8_thorn_31 : decode cX8_thorn 31 = .ok (.iconst 0, 1) := by decide +kernel
theorem dX8_thorn_32 : decode cX8_thorn 32 = .ok (.iconst 1, 1) := by decide +kernel
theorem dX8_thorn_33 : decode cX8_thorn 33 = .ok (.invokestatic 75, 3) := by decide +kernel
theorem dX8_thorn_36 : decode cX8_thorn 36 = .ok (.ifCond .ne 10, 3) := by decide +kernel
theorem dX8_thorn_39 : decode cX8_thorn 39 = .ok (.aload_n 0, 1) := by decide +kernel
theorem dX8_thorn_40 : decode cX8_thorn 40 = .ok (.bipush (-2), 2) := by decide +kernel
theorem dX8_thorn_42 : decode cX8_thorn 42 = .ok (.invokevirtual 63, 3) := by decide +kernel
theorem dX8_thorn_45 : decode cX8_thorn 45 = .ok (.ireturn, 1) := by decide +kernel
theorem dX8_thorn_46 : decode cX8_thorn 46 = .ok (.aload_n 0, 1) := by decide +kernel
theorem dX8_thorn_47 : decode cX8_thorn 47 = .ok (.aload_n 0, 1) := by decide +kernel
theorem dX8_thorn_48 : decode cX8_thorn 48 = .ok (.getfield 10, 3) := by decide +kernel
theorem dX8_thorn_51 : decode cX8_thorn 51 = .ok (.getfield 189, 3) := by decide +kernel
theorem dX8_thorn_54 : decode cX8_thorn 54 = .ok (.iload_n 1, 1) := by decide +kernel
theorem dX8_thorn_55 : decode cX8_thorn 55 = .ok (.iload_n 2, 1) := by decide +kernel
theorem dX8_thorn_56 : decode cX8_thorn 56 = .ok (.iload_n 3, 1) := by decide +kernel
theorem dX8_thorn_57 : decode cX8_thorn 57 = .ok (.iload 4, 2) := by decide +kernel
theorem dX8_thorn_59 : decode cX8_thorn 59 = .ok (.invokevirtual 71, 3) := by decide +kernel
theorem dX8_thorn_62 : decode cX8_thorn 62 = .ok (.ireturn, 1) := by decide +kernel
theorem dX8_kinds_0 : decode cX8_kinds 0 = .ok (.iload_n 1, 1) := by decide +kernel
theorem dX8_kinds_1 : decode cX8_kinds 1 = .ok (.iconst 0, 1) := by decide +kernel
theorem dX8_kinds_2 : decode cX8_kinds 2 = .ok (.iconst 1, 1) := by decide +kernel
theorem dX8_kinds_3 : decode cX8_kinds 3 = .ok (.invokestatic 75, 3) := by decide +kernel
theorem dX8_kinds_6 : decode cX8_kinds 6 = .ok (.ifCond .ne 10, 3) := by decide +kernel
theorem dX8_kinds_9 : decode cX8_kinds 9 = .ok (.aload_n 0, 1) := by decide +kernel
theorem dX8_kinds_10 : decode cX8_kinds 10 = .ok (.bipush (-2), 2) := by decide +kernel
theorem dX8_kinds_12 : decode cX8_kinds 12 = .ok (.invokevirtual 63, 3) := by decide +kernel
theorem dX8_kinds_15 : decode cX8_kinds 15 = .ok (.ireturn, 1) := by decide +kernel
theorem dX8_kinds_16 : decode cX8_kinds 16 = .ok (.aload_n 0, 1) := by decide +kernel
theorem dX8_kinds_17 : decode cX8_kinds 17 = .ok (.getfield 37, 3) := by decide +kernel
theorem dX8_kinds_20 : decode cX8_kinds 20 = .ok (.aload_n 0, 1) := by decide +kernel
theorem dX8_kinds_21 : decode cX8_kinds 21 = .ok (.getfield 10, 3) := by decide +kernel
theorem dX8_kinds_24 : decode cX8_kinds 24 = .ok (.getfield 189, 3) := by decide +kernel
theorem dX8_kinds_27 : decode cX8_kinds 27 = .ok (.invokevirtual 192, 3) := by decide +kernel
theorem dX8_kinds_30 : decode cX8_kinds 30 = .ok (.aload_n 0, 1) := by decide +kernel
theorem dX8_kinds_31 : decode cX8_kinds 31 = .ok (.getfield 37, 3) := by decide +kernel
theorem dX8_kinds_34 : decode cX8_kinds 34 = .ok (.getfield 196, 3) := by decide +kernel
theorem dX8_kinds_37 : decode cX8_kinds 37 = .ok (.iconst (-1), 1) := by decide +kernel
theorem dX8_kinds_38 : decode cX8_kinds 38 = .ok (.if_icmp .eq 7, 3) := by decide +kernel
theorem dX8_kinds_41 : decode cX8_kinds 41 = .ok (.iload_n 1, 1) := by decide +kernel
theorem dX8_kinds_42 : decode cX8_kinds 42 = .ok (.ifCond .ne 11, 3) := by decide +kernel
theorem dX8_kinds_45 : decode cX8_kinds 45 = .ok (.aload_n 0, 1) := by decide +kernel
theorem dX8_kinds_46 : decode cX8_kinds 46 = .ok (.getfield 37, 3) := by decide +kernel
theorem dX8_kinds_49 : decode cX8_kinds 49 = .ok (.getfield 196, 3) := by decide +kernel
theorem dX8_kinds_52 : decode cX8_kinds 52 = .ok (.ireturn, 1) := by decide +kernel
theorem dX8_kinds_53 : decode cX8_kinds 53 = .ok (.aload_n 0, 1) := by decide +kernel
theorem dX8_kinds_54 : decode cX8_kinds 54 = .ok (.getfield 37, 3) := by decide +kernel
theorem dX8_kinds_57 : decode cX8_kinds 57 = .ok (.getfield 199, 3) := by decide +kernel
theorem dX8_kinds_60 : decode cX8_kinds 60 = .ok (.ifCond .eq 7, 3) := by decide +kernel
theorem dX8_kinds_63 : decode cX8_kinds 63 = .ok (.iconst 1, 1) := by decide +kernel
theorem dX8_kinds_64 : decode cX8_kinds 64 = .ok (.goto 4, 3) := by decide +kernel
theorem dX8_kinds_67 : decode cX8_kinds 67 = .ok (.iconst 0, 1) := by decide +kernel
theorem dX8_kinds_68 : decode cX8_kinds 68 = .ok (.ireturn, 1) := by decide +kernel
theorem dX8_land_0 : decode cX8_land 0 = .ok (.iload_n 1, 1) := by decide +kernel
theorem dX8_land_1 : decode cX8_land 1 = .ok (.iconst 0, 1) := by decide +kernel
theorem dX8_land_2 : decode cX8_land 2 = .ok (.iconst 3, 1) := by decide +kernel
theorem dX8_land_3 : decode cX8_land 3 = .ok (.invokestatic 75, 3) := by decide +kernel
theorem dX8_land_6 : decode cX8_land 6 = .ok (.ifCond .ne 10, 3) := by decide +kernel
theorem dX8_land_9 : decode cX8_land 9 = .ok (.aload_n 0, 1) := by decide +kernel
theorem dX8_land_10 : decode cX8_land 10 = .ok (.bipush (-2), 2) := by decide +kernel
theorem dX8_land_12 : decode cX8_land 12 = .ok (.invokevirtual 63, 3) := by decide +kernel
theorem dX8_land_15 : decode cX8_land 15 = .ok (.ireturn, 1) := by decide +kernel
theorem dX8_land_16 : decode cX8_land 16 = .ok (.iconst 0, 1) := by decide +kernel
theorem dX8_land_17 : decode cX8_land 17 = .ok (.istore_n 2, 1) := by decide +kernel
theorem dX8_land_18 : decode cX8_land 18 = .ok (.iconst 0, 1) := by decide +kernel
theorem dX8_land_19 : decode cX8_land 19 = .ok (.istore_n 3, 1) := by decide +kernel
theorem dX8_land_20 : decode cX8_land 20 = .ok (.iconst 0, 1) := by decide +kernel
theorem dX8_land_21 : decode cX8_land 21 = .ok (.istore 4, 2) := by decide +kernel
theorem dX8_land_23 : decode cX8_land 23 = .ok (.iload 4, 2) := by decide +kernel
theorem dX8_land_25 : decode cX8_land 25 = .ok (.aload_n 0, 1) := by decide +kernel
theorem dX8_land_26 : decode cX8_land 26 = .ok (.getfield 10, 3) := by decide +kernel
theorem dX8_land_29 : decode cX8_land 29 = .ok (.getfield 189, 3) := by decide +kernel
theorem dX8_land_32 : decode cX8_land 32 = .ok (.getfield 168, 3) := by decide +kernel
theorem dX8_land_35 : decode cX8_land 35 = .ok (.if_icmp .ge 45, 3) := by decide +kernel
theorem dX8_land_38 : decode cX8_land 38 = .ok (.aload_n 0, 1) := by decide +kernel
theorem dX8_land_39 : decode cX8_land 39 = .ok (.getfield 10, 3) := by decide +kernel
theorem dX8_land_42 : decode cX8_land 42 = .ok (.getfield 189, 3) := by decide +kernel
theorem dX8_land_45 : decode cX8_land 45 = .ok (.iload 4, 2) := by decide +kernel
theorem dX8_land_47 : decode cX8_land 47 = .ok (.iconst 1, 1) := by decide +kernel
theorem dX8_land_48 : decode cX8_land 48 = .ok (.invokevirtual 171, 3) := by decide +kernel
theorem dX8_land_51 : decode cX8_land 51 = .ok (.iload_n 1, 1) := by decide +kernel
theorem dX8_land_52 : decode cX8_land 52 = .ok (.if_icmp .ne 22, 3) := by decide +kernel
theorem dX8_land_55 : decode cX8_land 55 = .ok (.iinc 2 1, 3) := by decide +kernel
theorem dX8_land_58 : decode cX8_land 58 = .ok (.iload_n 3, 1) := by decide +kernel
theorem dX8_land_59 : decode cX8_land 59 = .ok (.aload_n 0, 1) := by decide +kernel
theorem dX8_land_60 : decode cX8_land 60 = .ok (.getfield 10, 3) := by decide +kernel
theorem dX8_land_63 : decode cX8_land 63 = .ok (.getfield 189, 3) := by decide +kernel
theorem dX8_land_66 : decode cX8_land 66 = .ok (.iload 4, 2) := by decide +kernel
theorem dX8_land_68 : decode cX8_land 68 = .ok (.iconst 0, 1) := by decide +kernel
theorem dX8_land_69 : decode cX8_land 69 = .ok (.invokevirtual 171, 3) := by decide +kernel
theorem dX8_land_72 : decode cX8_land 72 = .ok (.iadd, 1) := by decide +kernel
theorem dX8_land_73 : decode cX8_land 73 = .ok (.istore_n 3, 1) := by decide +kernel
theorem dX8_land_74 : decode cX8_land 74 = .ok (.iinc 4 1, 3) := by decide +kernel
theorem dX8_land_77 : decode cX8_land 77 = .ok (.goto (-54), 3) := by decide +kernel
theorem dX8_land_80 : decode cX8_land 80 = .ok (.iload_n 2, 1) := by decide +kernel
theorem dX8_land_81 : decode cX8_land 81 = .ok (.ifCond .ne 10, 3) := by decide +kernel
theorem dX8_land_84 : decode cX8_land 84 = .ok (.aload_n 0, 1) := by decide +kernel
theorem dX8_land_85 : decode cX8_land 85 = .ok (.bipush (-3), 2) := by decide +kernel
theorem dX8_land_87 : decode cX8_land 87 = .ok (.invokevirtual 141, 3) := by decide +kernel
theorem dX8_land_90 : decode cX8_land 90 = .ok (.ireturn, 1) := by decide +kernel
theorem dX8_land_91 : decode cX8_land 91 = .ok (.aload_n 0, 1) := by decide +kernel
theorem dX8_land_92 : decode cX8_land 92 = .ok (.getfield 51, 3) := by decide +kernel
theorem dX8_land_95 : decode cX8_land 95 = .ok (.iload_n 3, 1) := by decide +kernel
theorem dX8_land_96 : decode cX8_land 96 = .ok (.i2l, 1) := by decide +kernel
theorem dX8_land_97 : decode cX8_land 97 = .ok (.iload_n 2, 1) := by decide +kernel
theorem dX8_land_98 : decode cX8_land 98 = .ok (.i2l, 1) := by decide +kernel
theorem dX8_land_99 : decode cX8_land 99 = .ok (.invokevirtual 182, 3) := by decide +kernel
theorem dX8_land_102 : decode cX8_land 102 = .ok (.iconst 1, 1) := by decide +kernel
theorem dX8_land_103 : decode cX8_land 103 = .ok (.ireturn, 1) := by decide +kernel
theorem dX8_butt_0 : decode cX8_butt 0 = .ok (.iload_n 1, 1) := by decide +kernel
theorem dX8_butt_1 : decode cX8_butt 1 = .ok (.iconst 1, 1) := by decide +kernel
theorem dX8_butt_2 : decode cX8_butt 2 = .ok (.bipush 30, 2) := by decide +kernel
theorem dX8_butt_4 : decode cX8_butt 4 = .ok (.invokestatic 75, 3) := by decide +kernel
theorem dX8_butt_7 : decode cX8_butt 7 = .ok (.ifCond .ne 10, 3) := by decide +kernel
theorem dX8_butt_10 : decode cX8_butt 10 = .ok (.aload_n 0, 1) := by decide +kernel
theorem dX8_butt_11 : decode cX8_butt 11 = .ok (.bipush (-2), 2) := by decide +kernel
theorem dX8_butt_13 : decode cX8_butt 13 = .ok (.invokevirtual 63, 3) := by decide +kernel
theorem dX8_butt_16 : decode cX8_butt 16 = .ok (.ireturn, 1) := by decide +kernel
theorem dX8_butt_17 : decode cX8_butt 17 = .ok (.aload_n 0, 1) := by decide +kernel
theorem dX8_butt_18 : decode cX8_butt 18 = .ok (.aload_n 0, 1) := by decide +kernel
theorem dX8_butt_19 : decode cX8_butt 19 = .ok (.getfield 10, 3) := by decide +kernel
theorem dX8_butt_22 : decode cX8_butt 22 = .ok (.getfield 203, 3) := by decide +kernel
theorem dX8_butt_25 : decode cX8_butt 25 = .ok (.iload_n 1, 1) := by decide +kernel
theorem dX8_butt_26 : decode cX8_butt 26 = .ok (.iconst 0, 1) := by decide +kernel
theorem dX8_butt_27 : decode cX8_butt 27 = .ok (.iconst 0, 1) := by decide +kernel
theorem dX8_butt_28 : decode cX8_butt 28 = .ok (.iconst 0, 1) := by decide +kernel
theorem dX8_butt_29 : decode cX8_butt 29 = .ok (.invokevirtual 71, 3) := by decide +kernel
theorem dX8_butt_32 : decode cX8_butt 32 = .ok (.ireturn, 1) := by decide +kernel
theorem dX8_play_0 : decode cX8_play 0 = .ok (.iload_n 1, 1) := by decide +kernel
theorem dX8_play_1 : decode cX8_play 1 = .ok (.iconst 0, 1) := by decide +kernel
theorem dX8_play_2 : decode cX8_play 2 = .ok (.bipush 9, 2) := by decide +kernel
theorem dX8_play_4 : decode cX8_play 4 = .ok (.invokestatic 75, 3) := by decide +kernel
theorem dX8_play_7 : decode cX8_play 7 = .ok (.ifCond .ne 10, 3) := by decide +kernel
theorem dX8_play_10 : decode cX8_play 10 = .ok (.aload_n 0, 1) := by decide +kernel
theorem dX8_play_11 : decode cX8_play 11 = .ok (.bipush (-2), 2) := by decide +kernel
theorem dX8_play_13 : decode cX8_play 13 = .ok (.invokevirtual 63, 3) := by decide +kernel
theorem dX8_play_16 : decode cX8_play 16 = .ok (.ireturn, 1) := by decide +kernel
theorem dX8_play_17 : decode cX8_play 17 = .ok (.aload_n 0, 1) := by decide +kernel
theorem dX8_play_18 : decode cX8_play 18 = .ok (.getfield 10, 3) := by decide +kernel
theorem dX8_play_21 : decode cX8_play 21 = .ok (.getfield 206, 3) := by decide +kernel
theorem dX8_play_24 : decode cX8_play 24 = .ok (.iconst 0, 1) := by decide +kernel
theorem dX8_play_25 : decode cX8_play 25 = .ok (.iconst 0, 1) := by decide +kernel
theorem dX8_play_26 : decode cX8_play 26 = .ok (.iload_n 1, 1) := by decide +kernel
theorem dX8_play_27 : decode cX8_play 27 = .ok (.invokevirtual 128, 3) := by decide +kernel
theorem dX8_play_30 : decode cX8_play 30 = .ok (.ireturn, 1) := by decide +kernel
theorem dX8_which_0 : decode cX8_which 0 = .ok (.iload_n 1, 1) := by decide +kernel
theorem dX8_which_1 : decode cX8_which 1 = .ok (.iconst (-1), 1) := by decide +kernel
theorem dX8_which_2 : decode cX8_which 2 = .ok (.if_icmp .ne 7, 3) := by decide +kernel
theorem dX8_which_5 : decode cX8_which 5 = .ok (.iconst 1, 1) := by decide +kernel
theorem dX8_which_6 : decode cX8_which 6 = .ok (.goto 4, 3) := by decide +kernel
theorem dX8_which_9 : decode cX8_which 9 = .ok (.iconst 0, 1) := by decide +kernel
theorem dX8_which_10 : decode cX8_which 10 = .ok (.istore_n 3, 1) := by decide +kernel
theorem dX8_which_11 : decode cX8_which 11 = .ok (.aload_n 0, 1) := by decide +kernel
theorem dX8_which_12 : decode cX8_which 12 = .ok (.getfield 10, 3) := by decide +kernel
theorem dX8_which_15 : decode cX8_which 15 = .ok (.getfield 203, 3) := by decide +kernel
theorem dX8_which_18 : decode cX8_which 18 = .ok (.iload_n 1, 1) := by decide +kernel
theorem dX8_which_19 : decode cX8_which 19 = .ok (.invokevirtual 209, 3) := by decide +kernel
theorem dX8_which_22 : decode cX8_which 22 = .ok (.ifCond .eq 27, 3) := by decide +kernel
theorem dX8_which_25 : decode cX8_which 25 = .ok (.aload_n 0, 1) := by decide +kernel
theorem dX8_which_26 : decode cX8_which 26 = .ok (.getfield 10, 3) := by decide +kernel
theorem dX8_which_29 : decode cX8_which 29 = .ok (.getfield 189, 3) := by decide +kernel
theorem dX8_which_32 : decode cX8_which 32 = .ok (.iload_n 2, 1) := by decide +kernel
theorem dX8_which_33 : decode cX8_which 33 = .ok (.invokevirtual 209, 3) := by decide +kernel
theorem dX8_which_36 : decode cX8_which 36 = .ok (.ifCond .eq 13, 3) := by decide +kernel
theorem dX8_which_39 : decode cX8_which 39 = .ok (.iload_n 2, 1) := by decide +kernel
theorem dX8_which_40 : decode cX8_which 40 = .ok (.bipush 6, 2) := by decide +kernel
theorem dX8_which_42 : decode cX8_which 42 = .ok (.if_icmp .ge 7, 3) := by decide +kernel
theorem dX8_which_45 : decode cX8_which 45 = .ok (.iconst 1, 1) := by decide +kernel
theorem dX8_which_46 : decode cX8_which 46 = .ok (.goto 4, 3) := by decide +kernel
theorem dX8_which_49 : decode cX8_which 49 = .ok (.iconst 0, 1) := by decide +kernel
theorem dX8_which_50 : decode cX8_which 50 = .ok (.istore 4, 2) := by decide +kernel
theorem dX8_which_52 : decode cX8_which 52 = .ok (.iload_n 3, 1) := by decide +kernel
theorem dX8_which_53 : decode cX8_which 53 = .ok (.ifCond .ne 15, 3) := by decide +kernel
theorem dX8_which_56 : decode cX8_which 56 = .ok (.iload 4, 2) := by decide +kernel
theorem dX8_which_58 : decode cX8_which 58 = .ok (.ifCond .ne 10, 3) := by decide +kernel
theorem dX8_which_61 : decode cX8_which 61 = .ok (.aload_n 0, 1) := by decide +kernel
theorem dX8_which_62 : decode cX8_which 62 = .ok (.bipush (-2), 2) := by decide +kernel
theorem dX8_which_64 : decode cX8_which 64 = .ok (.invokevirtual 63, 3) := by decide +kernel
theorem dX8_which_67 : decode cX8_which 67 = .ok (.ireturn, 1) := by decide +kernel
theorem dX8_which_68 : decode cX8_which 68 = .ok (.aload_n 0, 1) := by decide +kernel
theorem dX8_which_69 : decode cX8_which 69 = .ok (.getfield 10, 3) := by decide +kernel
theorem dX8_which_72 : decode cX8_which 72 = .ok (.getfield 203, 3) := by decide +kernel
theorem dX8_which_75 : decode cX8_which 75 = .ok (.getfield 168, 3) := by decide +kernel
theorem dX8_which_78 : decode cX8_which 78 = .ok (.ifCond .ne 7, 3) := by decide +kernel
theorem dX8_which_81 : decode cX8_which 81 = .ok (.iconst 0, 1) := by decide +kernel
theorem dX8_which_82 : decode cX8_which 82 = .ok (.goto 16, 3) := by decide +kernel
theorem dX8_which_85 : decode cX8_which 85 = .ok (.aload_n 0, 1) := by decide +kernel
theorem dX8_which_86 : decode cX8_which 86 = .ok (.getfield 37, 3) := by decide +kernel
theorem dX8_which_89 : decode cX8_which 89 = .ok (.aload_n 0, 1) := by decide +kernel
theorem dX8_which_90 : decode cX8_which 90 = .ok (.getfield 10, 3) := by decide +kernel
theorem dX8_which_93 : decode cX8_which 93 = .ok (.iconst (-1), 1) := by decide +kernel
theorem dX8_which_94 : decode cX8_which 94 = .ok (.iconst (-1), 1) := by decide +kernel
theorem dX8_which_95 : decode cX8_which 95 = .ok (.invokevirtual 213, 3) := by decide +kernel
theorem dX8_which_98 : decode cX8_which 98 = .ok (.istore 5, 2) := by decide +kernel
theorem dX8_which_100 : decode cX8_which 100 = .ok (.iload 5, 2) := by decide +kernel
theorem dX8_which_102 : decode cX8_which 102 = .ok (.ifCond .ne 10, 3) := by decide +kernel
theorem dX8_which_105 : decode cX8_which 105 = .ok (.aload_n 0, 1) := by decide +kernel
theorem dX8_which_106 : decode cX8_which 106 = .ok (.bipush (-3), 2) := by decide +kernel
theorem dX8_which_108 : decode cX8_which 108 = .ok (.invokevirtual 141, 3) := by decide +kernel
theorem dX8_which_111 : decode cX8_which 111 = .ok (.ireturn, 1) := by decide +kernel
theorem dX8_which_112 : decode cX8_which 112 = .ok (.iload_n 3, 1) := by decide +kernel
theorem dX8_which_113 : decode cX8_which 113 = .ok (.ifCond .eq 6, 3) := by decide +kernel
theorem dX8_which_116 : decode cX8_which 116 = .ok (.iload 5, 2) := by decide +kernel
theorem dX8_which_118 : decode cX8_which 118 = .ok (.ireturn, 1) := by decide +kernel
theorem dX8_which_119 : decode cX8_which 119 = .ok (.aload_n 0, 1) := by decide +kernel
theorem dX8_which_120 : decode cX8_which 120 = .ok (.getfield 51, 3) := by decide +kernel
theorem dX8_which_123 : decode cX8_which 123 = .ok (.aload_n 0, 1) := by decide +kernel
theorem dX8_which_124 : decode cX8_which 124 = .ok (.getfield 37, 3) := by decide +kernel
theorem dX8_which_127 : decode cX8_which 127 = .ok (.aload_n 0, 1) := by decide +kernel
theorem dX8_which_128 : decode cX8_which 128 = .ok (.getfield 10, 3) := by decide +kernel
theorem dX8_which_131 : decode cX8_which 131 = .ok (.iload_n 1, 1) := by decide +kernel
theorem dX8_which_132 : decode cX8_which 132 = .ok (.iload_n 2, 1) := by decide +kernel
theorem dX8_which_133 : decode cX8_which 133 = .ok (.invokevirtual 213, 3) := by decide +kernel
theorem dX8_which_136 : decode cX8_which 136 = .ok (.i2l, 1) := by decide +kernel
theorem dX8_which_137 : decode cX8_which 137 = .ok (.iload 5, 2) := by decide +kernel
theorem dX8_which_139 : decode cX8_which 139 = .ok (.i2l, 1) := by decide +kernel
theorem dX8_which_140 : decode cX8_which 140 = .ok (.invokevirtual 182, 3) := by decide +kernel
theorem dX8_which_143 : decode cX8_which 143 = .ok (.iconst 1, 1) := by decide +kernel
theorem dX8_which_144 : decode cX8_which 144 = .ok (.ireturn, 1) := by decide +kernel
theorem dX8_hands_0 : decode cX8_hands 0 = .ok (.aload_n 0, 1) := by decide +kernel
theorem dX8_hands_1 : decode cX8_hands 1 = .ok (.getfield 10, 3) := by decide +kernel
theorem dX8_hands_4 : decode cX8_hands 4 = .ok (.getfield 189, 3) := by decide +kernel
theorem dX8_hands_7 : decode cX8_hands 7 = .ok (.iload_n 1, 1) := by decide +kernel
theorem dX8_hands_8 : decode cX8_hands 8 = .ok (.invokevirtual 209, 3) := by decide +kernel
theorem dX8_hands_11 : decode cX8_hands 11 = .ok (.ifCond .eq 23, 3) := by decide +kernel
theorem dX8_hands_14 : decode cX8_hands 14 = .ok (.iload_n 2, 1) := by decide +kernel
theorem dX8_hands_15 : decode cX8_hands 15 = .ok (.iconst 0, 1) := by decide +kernel
theorem dX8_hands_16 : decode cX8_hands 16 = .ok (.bipush 10, 2) := by decide +kernel
theorem dX8_hands_18 : decode cX8_hands 18 = .ok (.invokestatic 75, 3) := by decide +kernel
theorem dX8_hands_21 : decode cX8_hands 21 = .ok (.ifCond .eq 13, 3) := by decide +kernel
theorem dX8_hands_24 : decode cX8_hands 24 = .ok (.iload_n 3, 1) := by decide +kernel
theorem dX8_hands_25 : decode cX8_hands 25 = .ok (.iconst 0, 1) := by decide +kernel
theorem dX8_hands_26 : decode cX8_hands 26 = .ok (.bipush 10, 2) := by decide +kernel
theorem dX8_hands_28 : decode cX8_hands 28 = .ok (.invokestatic 75, 3) := by decide +kernel
theorem dX8_hands_31 : decode cX8_hands 31 = .ok (.ifCond .ne 10, 3) := by decide +kernel
theorem dX8_hands_34 : decode cX8_hands 34 = .ok (.aload_n 0, 1) := by decide +kernel
theorem dX8_hands_35 : decode cX8_hands 35 = .ok (.bipush (-2), 2) := by decide +kernel
theorem dX8_hands_37 : decode cX8_hands 37 = .ok (.invokevirtual 63, 3) := by decide +kernel
theorem dX8_hands_40 : decode cX8_hands 40 = .ok (.ireturn, 1) := by decide +kernel
theorem dX8_hands_41 : decode cX8_hands 41 = .ok (.aload_n 0, 1) := by decide +kernel
theorem dX8_hands_42 : decode cX8_hands 42 = .ok (.getfield 10, 3) := by decide +kernel
theorem dX8_hands_45 : decode cX8_hands 45 = .ok (.getfield 189, 3) := by decide +kernel
theorem dX8_hands_48 : decode cX8_hands 48 = .ok (.iload_n 1, 1) := by decide +kernel
theorem dX8_hands_49 : decode cX8_hands 49 = .ok (.iconst 3, 1) := by decide +kernel
theorem dX8_hands_50 : decode cX8_hands 50 = .ok (.invokevirtual 171, 3) := by decide +kernel
theorem dX8_hands_53 : decode cX8_hands 53 = .ok (.iconst 1, 1) := by decide +kernel
theorem dX8_hands_54 : decode cX8_hands 54 = .ok (.if_icmp .ne 7, 3) := by decide +kernel
theorem dX8_hands_57 : decode cX8_hands 57 = .ok (.iconst 1, 1) := by decide +kernel
theorem dX8_hands_58 : decode cX8_hands 58 = .ok (.goto 4, 3) := by decide +kernel
theorem dX8_hands_61 : decode cX8_hands 61 = .ok (.iconst 0, 1) := by decide +kernel
theorem dX8_hands_62 : decode cX8_hands 62 = .ok (.istore 4, 2) := by decide +kernel
theorem dX8_hands_64 : decode cX8_hands 64 = .ok (.iload_n 2, 1) := by decide +kernel
theorem dX8_hands_65 : decode cX8_hands 65 = .ok (.iload 4, 2) := by decide +kernel
theorem dX8_hands_67 : decode cX8_hands 67 = .ok (.ifCond .eq 7, 3) := by decide +kernel
theorem dX8_hands_70 : decode cX8_hands 70 = .ok (.iload_n 3, 1) := by decide +kernel
theorem dX8_hands_71 : decode cX8_hands 71 = .ok (.goto 7, 3) := by decide +kernel
theorem dX8_hands_74 : decode cX8_hands 74 = .ok (.bipush 10, 2) := by decide +kernel
theorem dX8_hands_76 : decode cX8_hands 76 = .ok (.iload_n 3, 1) := by decide +kernel
theorem dX8_hands_77 : decode cX8_hands 77 = .ok (.isub, 1) := by decide +kernel
theorem dX8_hands_78 : decode cX8_hands 78 = .ok (.imul, 1) := by decide +kernel
theorem dX8_hands_79 : decode cX8_hands 79 = .ok (.istore 5, 2) := by decide +kernel
theorem dX8_hands_81 : decode cX8_hands 81 = .ok (.bipush 10, 2) := by decide +kernel
theorem dX8_hands_83 : decode cX8_hands 83 = .ok (.iload_n 2, 1) := by decide +kernel
theorem dX8_hands_84 : decode cX8_hands 84 = .ok (.isub, 1) := by decide +kernel
theorem dX8_hands_85 : decode cX8_hands 85 = .ok (.iload 4, 2) := by decide +kernel
theorem dX8_hands_87 : decode cX8_hands 87 = .ok (.ifCond .eq 10, 3) := by decide +kernel
theorem dX8_hands_90 : decode cX8_hands 90 = .ok (.bipush 10, 2) := by decide +kernel
theorem dX8_hands_92 : decode cX8_hands 92 = .ok (.iload_n 3, 1) := by decide +kernel
theorem dX8_hands_93 : decode cX8_hands 93 = .ok (.isub, 1) := by decide +kernel
theorem dX8_hands_94 : decode cX8_hands 94 = .ok (.goto 4, 3) := by decide +kernel
theorem dX8_hands_97 : decode cX8_hands 97 = .ok (.iload_n 3, 1) := by decide +kernel
theorem dX8_hands_98 : decode cX8_hands 98 = .ok (.imul, 1) := by decide +kernel
theorem dX8_hands_99 : decode cX8_hands 99 = .ok (.istore 6, 2) := by decide +kernel
theorem dX8_hands_101 : decode cX8_hands 101 = .ok (.iload 5, 2) := by decide +kernel
theorem dX8_hands_103 : decode cX8_hands 103 = .ok (.iload 6, 2) := by decide +kernel
theorem dX8_hands_105 : decode cX8_hands 105 = .ok (.iadd, 1) := by decide +kernel
theorem dX8_hands_106 : decode cX8_hands 106 = .ok (.ifCond .ne 10, 3) := by decide +kernel
theorem dX8_hands_109 : decode cX8_hands 109 = .ok (.aload_n 0, 1) := by decide +kernel
theorem dX8_hands_110 : decode cX8_hands 110 = .ok (.bipush (-3), 2) := by decide +kernel
theorem dX8_hands_112 : decode cX8_hands 112 = .ok (.invokevirtual 141, 3) := by decide +kernel
theorem dX8_hands_115 : decode cX8_hands 115 = .ok (.ireturn, 1) := by decide +kernel
theorem dX8_hands_116 : decode cX8_hands 116 = .ok (.aload_n 0, 1) := by decide +kernel
theorem dX8_hands_117 : decode cX8_hands 117 = .ok (.getfield 51, 3) := by decide +kernel
theorem dX8_hands_120 : decode cX8_hands 120 = .ok (.iload 5, 2) := by decide +kernel
theorem dX8_hands_122 : decode cX8_hands 122 = .ok (.i2l, 1) := by decide +kernel
theorem dX8_hands_123 : decode cX8_hands 123 = .ok (.iload 5, 2) := by decide +kernel
theorem dX8_hands_125 : decode cX8_hands 125 = .ok (.iload 6, 2) := by decide +kernel
theorem dX8_hands_127 : decode cX8_hands 127 = .ok (.iadd, 1) := by decide +kernel
theorem dX8_hands_128 : decode cX8_hands 128 = .ok (.i2l, 1) := by decide +kernel
theorem dX8_hands_129 : decode cX8_hands 129 = .ok (.invokevirtual 182, 3) := by decide +kernel
theorem dX8_hands_132 : decode cX8_hands 132 = .ok (.iconst 1, 1) := by decide +kernel
theorem dX8_hands_133 : decode cX8_hands 133 = .ok (.ireturn, 1) := by decide +kernel
theorem dX8_known_0 : decode cX8_known 0 = .ok (.iload_n 1, 1) := by decide +kernel
theorem dX8_known_1 : decode cX8_known 1 = .ok (.iconst 0, 1) := by decide +kernel
theorem dX8_known_2 : decode cX8_known 2 = .ok (.iconst 2, 1) := by decide +kernel
theorem dX8_known_3 : decode cX8_known 3 = .ok (.invokestatic 75, 3) := by decide +kernel
theorem dX8_known_6 : decode cX8_known 6 = .ok (.ifCond .eq 22, 3) := by decide +kernel
theorem dX8_known_9 : decode cX8_known 9 = .ok (.iload_n 2, 1) := by decide +kernel
theorem dX8_known_10 : decode cX8_known 10 = .ok (.iconst 0, 1) := by decide +kernel
theorem dX8_known_11 : decode cX8_known 11 = .ok (.iconst 5, 1) := by decide +kernel
theorem dX8_known_12 : decode cX8_known 12 = .ok (.invokestatic 75, 3) := by decide +kernel
theorem dX8_known_15 : decode cX8_known 15 = .ok (.ifCond .eq 13, 3) := by decide +kernel
theorem dX8_known_18 : decode cX8_known 18 = .ok (.iload_n 3, 1) := by decide +kernel
theorem dX8_known_19 : decode cX8_known 19 = .ok (.iconst 0, 1) := by decide +kernel
theorem dX8_known_20 : decode cX8_known 20 = .ok (.bipush 99, 2) := by decide +kernel
theorem dX8_known_22 : decode cX8_known 22 = .ok (.invokestatic 75, 3) := by decide +kernel
theorem dX8_known_25 : decode cX8_known 25 = .ok (.ifCond .ne 10, 3) := by decide +kernel
theorem dX8_known_28 : decode cX8_known 28 = .ok (.aload_n 0, 1) := by decide +kernel
theorem dX8_known_29 : decode cX8_known 29 = .ok (.bipush (-2), 2) := by decide +kernel
theorem dX8_known_31 : decode cX8_known 31 = .ok (.invokevirtual 63, 3) := by decide +kernel
theorem dX8_known_34 : decode cX8_known 34 = .ok (.ireturn, 1) := by decide +kernel
theorem dX8_known_35 : decode cX8_known 35 = .ok (.aload_n 0, 1) := by decide +kernel
theorem dX8_known_36 : decode cX8_known 36 = .ok (.getfield 10, 3) := by decide +kernel
theorem dX8_known_39 : decode cX8_known 39 = .ok (.getfield 217, 3) := by decide +kernel
theorem dX8_known_42 : decode cX8_known 42 = .ok (.iload_n 1, 1) := by decide +kernel
theorem dX8_known_43 : decode cX8_known 43 = .ok (.iconst 1, 1) := by decide +kernel
theorem dX8_known_44 : decode cX8_known 44 = .ok (.iload_n 2, 1) := by decide +kernel
theorem dX8_known_45 : decode cX8_known 45 = .ok (.iadd, 1) := by decide +kernel
theorem dX8_known_46 : decode cX8_known 46 = .ok (.iload_n 3, 1) := by decide +kernel
theorem dX8_known_47 : decode cX8_known 47 = .ok (.invokevirtual 128, 3) := by decide +kernel
theorem dX8_known_50 : decode cX8_known 50 = .ok (.ireturn, 1) := by decide +kernel
theorem dX8_prior_0 : decode cX8_prior 0 = .ok (.iload_n 1, 1) := by decide +kernel
theorem dX8_prior_1 : decode cX8_prior 1 = .ok (.iconst 0, 1) := by decide +kernel
theorem dX8_prior_2 : decode cX8_prior 2 = .ok (.iconst 2, 1) := by decide +kernel
theorem dX8_prior_3 : decode cX8_prior 3 = .ok (.invokestatic 75, 3) := by decide +kernel
theorem dX8_prior_6 : decode cX8_prior 6 = .ok (.ifCond .eq 13, 3) := by decide +kernel
theorem dX8_prior_9 : decode cX8_prior 9 = .ok (.iload_n 2, 1) := by decide +kernel
theorem dX8_prior_10 : decode cX8_prior 10 = .ok (.iconst 0, 1) := by decide +kernel
theorem dX8_prior_11 : decode cX8_prior 11 = .ok (.bipush 9, 2) := by decide +kernel
theorem dX8_prior_13 : decode cX8_prior 13 = .ok (.invokestatic 75, 3) := by decide +kernel
theorem dX8_prior_16 : decode cX8_prior 16 = .ok (.ifCond .ne 10, 3) := by decide +kernel
theorem dX8_prior_19 : decode cX8_prior 19 = .ok (.aload_n 0, 1) := by decide +kernel
theorem dX8_prior_20 : decode cX8_prior 20 = .ok (.bipush (-2), 2) := by decide +kernel
theorem dX8_prior_22 : decode cX8_prior 22 = .ok (.invokevirtual 63, 3) := by decide +kernel
theorem dX8_prior_25 : decode cX8_prior 25 = .ok (.ireturn, 1) := by decide +kernel
theorem dX8_prior_26 : decode cX8_prior 26 = .ok (.aload_n 0, 1) := by decide +kernel
theorem dX8_prior_27 : decode cX8_prior 27 = .ok (.getfield 10, 3) := by decide +kernel
theorem dX8_prior_30 : decode cX8_prior 30 = .ok (.getfield 217, 3) := by decide +kernel
theorem dX8_prior_33 : decode cX8_prior 33 = .ok (.iload_n 1, 1) := by decide +kernel
theorem dX8_prior_34 : decode cX8_prior 34 = .ok (.iconst 0, 1) := by decide +kernel
theorem dX8_prior_35 : decode cX8_prior 35 = .ok (.iload_n 2, 1) := by decide +kernel
theorem dX8_prior_36 : decode cX8_prior 36 = .ok (.invokevirtual 128, 3) := by decide +kernel
theorem dX8_prior_39 : decode cX8_prior 39 = .ok (.ireturn, 1) := by decide +kernel
theorem dX8_tip_0 : decode cX8_tip 0 = .ok (.iload_n 1, 1) := by decide +kernel
theorem dX8_tip_1 : decode cX8_tip 1 = .ok (.iconst 0, 1) := by decide +kernel
theorem dX8_tip_2 : decode cX8_tip 2 = .ok (.iconst 5, 1) := by decide +kernel
theorem dX8_tip_3 : decode cX8_tip 3 = .ok (.invokestatic 75, 3) := by decide +kernel
theorem dX8_tip_6 : decode cX8_tip 6 = .ok (.ifCond .eq 12, 3) := by decide +kernel
theorem dX8_tip_9 : decode cX8_tip 9 = .ok (.iload_n 2, 1) := by decide +kernel
theorem dX8_tip_10 : decode cX8_tip 10 = .ok (.iconst 0, 1) := by decide +kernel
theorem dX8_tip_11 : decode cX8_tip 11 = .ok (.iconst 2, 1) := by decide +kernel
theorem dX8_tip_12 : decode cX8_tip 12 = .ok (.invokestatic 75, 3) := by decide +kernel
theorem dX8_tip_15 : decode cX8_tip 15 = .ok (.ifCond .ne 10, 3) := by decide +kernel
theorem dX8_tip_18 : decode cX8_tip 18 = .ok (.aload_n 0, 1) := by decide +kernel
theorem dX8_tip_19 : decode cX8_tip 19 = .ok (.bipush (-2), 2) := by decide +kernel
theorem dX8_tip_21 : decode cX8_tip 21 = .ok (.invokevirtual 63, 3) := by decide +kernel
theorem dX8_tip_24 : decode cX8_tip 24 = .ok (.ireturn, 1) := by decide +kernel
theorem dX8_tip_25 : decode cX8_tip 25 = .ok (.lconst 0, 1) := by decide +kernel
theorem dX8_tip_26 : decode cX8_tip 26 = .ok (.lstore_n 3, 1) := by decide +kernel
theorem dX8_tip_27 : decode cX8_tip 27 = .ok (.iconst 0, 1) := by decide +kernel
theorem dX8_tip_28 : decode cX8_tip 28 = .ok (.istore 5, 2) := by decide +kernel
theorem dX8_tip_30 : decode cX8_tip 30 = .ok (.iload 5, 2) := by decide +kernel
theorem dX8_tip_32 : decode cX8_tip 32 = .ok (.iconst 3, 1) := by decide +kernel
theorem dX8_tip_33 : decode cX8_tip 33 = .ok (.if_icmp .ge 22, 3) := by decide +kernel
theorem dX8_tip_36 : decode cX8_tip 36 = .ok (.lload_n 3, 1) := by decide +kernel
theorem dX8_tip_37 : decode cX8_tip 37 = .ok (.aload_n 0, 1) := by decide +kernel
theorem dX8_tip_38 : decode cX8_tip 38 = .ok (.getfield 10, 3) := by decide +kernel
theorem dX8_tip_41 : decode cX8_tip 41 = .ok (.iload 5, 2) := by decide +kernel
theorem dX8_tip_43 : decode cX8_tip 43 = .ok (.iload_n 1, 1) := by decide +kernel
theorem dX8_tip_44 : decode cX8_tip 44 = .ok (.invokevirtual 220, 3) := by decide +kernel
theorem dX8_tip_47 : decode cX8_tip 47 = .ok (.ladd, 1) := by decide +kernel
theorem dX8_tip_48 : decode cX8_tip 48 = .ok (.lstore_n 3, 1) := by decide +kernel
theorem dX8_tip_49 : decode cX8_tip 49 = .ok (.iinc 5 1, 3) := by decide +kernel
theorem dX8_tip_52 : decode cX8_tip 52 = .ok (.goto (-22), 3) := by decide +kernel
theorem dX8_tip_55 : decode cX8_tip 55 = .ok (.lload_n 3, 1) := by decide +kernel
theorem dX8_tip_56 : decode cX8_tip 56 = .ok (.lconst 0, 1) := by decide +kernel
theorem dX8_tip_57 : decode cX8_tip 57 = .ok (.lcmp, 1) := by decide +kernel
theorem dX8_tip_58 : decode cX8_tip 58 = .ok (.ifCond .ne 10, 3) := by decide +kernel
theorem dX8_tip_61 : decode cX8_tip 61 = .ok (.aload_n 0, 1) := by decide +kernel
theorem dX8_tip_62 : decode cX8_tip 62 = .ok (.bipush (-3), 2) := by decide +kernel
theorem dX8_tip_64 : decode cX8_tip 64 = .ok (.invokevirtual 141, 3) := by decide +kernel
theorem dX8_tip_67 : decode cX8_tip 67 = .ok (.ireturn, 1) := by decide +kernel
theorem dX8_tip_68 : decode cX8_tip 68 = .ok (.aload_n 0, 1) := by decide +kernel
theorem dX8_tip_69 : decode cX8_tip 69 = .ok (.getfield 51, 3) := by decide +kernel
theorem dX8_tip_72 : decode cX8_tip 72 = .ok (.aload_n 0, 1) := by decide +kernel
theorem dX8_tip_73 : decode cX8_tip 73 = .ok (.getfield 10, 3) := by decide +kernel
theorem dX8_tip_76 : decode cX8_tip 76 = .ok (.iload_n 2, 1) := by decide +kernel
theorem dX8_tip_77 : decode cX8_tip 77 = .ok (.iload_n 1, 1) := by decide +kernel
theorem dX8_tip_78 : decode cX8_tip 78 = .ok (.invokevirtual 220, 3) := by decide +kernel
theorem dX8_tip_81 : decode cX8_tip 81 = .ok (.lload_n 3, 1) := by decide +kernel
theorem dX8_tip_82 : decode cX8_tip 82 = .ok (.invokevirtual 182, 3) := by decide +kernel
theorem dX8_tip_85 : decode cX8_tip 85 = .ok (.iconst 1, 1) := by decide +kernel
theorem dX8_tip_86 : decode cX8_tip 86 = .ok (.ireturn, 1) := by decide +kernel
theorem dX8_layer_0 : decode cX8_layer 0 = .ok (.iload_n 1, 1) := by decide +kernel
theorem dX8_layer_1 : decode cX8_layer 1 = .ok (.iconst 0, 1) := by decide +kernel
theorem dX8_layer_2 : decode cX8_layer 2 = .ok (.bipush 7, 2) := by decide +kernel
theorem dX8_layer_4 : decode cX8_layer 4 = .ok (.invokestatic 75, 3) := by decide +kernel
theorem dX8_layer_7 : decode cX8_layer 7 = .ok (.ifCond .eq 22, 3) := by decide +kernel
theorem dX8_layer_10 : decode cX8_layer 10 = .ok (.iload_n 2, 1) := by decide +kernel
theorem dX8_layer_11 : decode cX8_layer 11 = .ok (.iconst 0, 1) := by decide +kernel
theorem dX8_layer_12 : decode cX8_layer 12 = .ok (.iconst 1, 1) := by decide +kernel
theorem dX8_layer_13 : decode cX8_layer 13 = .ok (.invokestatic 75, 3) := by decide +kernel
theorem dX8_layer_16 : decode cX8_layer 16 = .ok (.ifCond .eq 13, 3) := by decide +kernel
theorem dX8_layer_19 : decode cX8_layer 19 = .ok (.iload_n 3, 1) := by decide +kernel
theorem dX8_layer_20 : decode cX8_layer 20 = .ok (.iconst 0, 1) := by decide +kernel
theorem dX8_layer_21 : decode cX8_layer 21 = .ok (.bipush 99, 2) := by decide +kernel
theorem dX8_layer_23 : decode cX8_layer 23 = .ok (.invokestatic 75, 3) := by decide +kernel
theorem dX8_layer_26 : decode cX8_layer 26 = .ok (.ifCond .ne 10, 3) := by decide +kernel
theorem dX8_layer_29 : decode cX8_layer 29 = .ok (.aload_n 0, 1) := by decide +kernel
theorem dX8_layer_30 : decode cX8_layer 30 = .ok (.bipush (-2), 2) := by decide +kernel
theorem dX8_layer_32 : decode cX8_layer 32 = .ok (.invokevirtual 63, 3) := by decide +kernel
theorem dX8_layer_35 : decode cX8_layer 35 = .ok (.ireturn, 1) := by decide +kernel
theorem dX8_layer_36 : decode cX8_layer 36 = .ok (.aload_n 0, 1) := by decide +kernel
theorem dX8_layer_37 : decode cX8_layer 37 = .ok (.getfield 10, 3) := by decide +kernel
theorem dX8_layer_40 : decode cX8_layer 40 = .ok (.getfield 224, 3) := by decide +kernel
theorem dX8_layer_43 : decode cX8_layer 43 = .ok (.iload_n 1, 1) := by decide +kernel
theorem dX8_layer_44 : decode cX8_layer 44 = .ok (.iload_n 2, 1) := by decide +kernel
theorem dX8_layer_45 : decode cX8_layer 45 = .ok (.iload_n 3, 1) := by decide +kernel
theorem dX8_layer_46 : decode cX8_layer 46 = .ok (.invokevirtual 128, 3) := by decide +kernel
theorem dX8_layer_49 : decode cX8_layer 49 = .ok (.ireturn, 1) := by decide +kernel
theorem dX8_came_0 : decode cX8_came 0 = .ok (.iload_n 1, 1) := by decide +kernel
theorem dX8_came_1 : decode cX8_came 1 = .ok (.iconst 0, 1) := by decide +kernel
theorem dX8_came_2 : decode cX8_came 2 = .ok (.iconst 2, 1) := by decide +kernel
theorem dX8_came_3 : decode cX8_came 3 = .ok (.invokestatic 75, 3) := by decide +kernel
theorem dX8_came_6 : decode cX8_came 6 = .ok (.ifCond .ne 10, 3) := by decide +kernel
theorem dX8_came_9 : decode cX8_came 9 = .ok (.aload_n 0, 1) := by decide +kernel
theorem dX8_came_10 : decode cX8_came 10 = .ok (.bipush (-2), 2) := by decide +kernel
theorem dX8_came_12 : decode cX8_came 12 = .ok (.invokevirtual 63, 3) := by decide +kernel
theorem dX8_came_15 : decode cX8_came 15 = .ok (.ireturn, 1) := by decide +kernel
theorem dX8_came_16 : decode cX8_came 16 = .ok (.iconst 0, 1) := by decide +kernel
theorem dX8_came_17 : decode cX8_came 17 = .ok (.istore_n 2, 1) := by decide +kernel
theorem dX8_came_18 : decode cX8_came 18 = .ok (.iconst 0, 1) := by decide +kernel
theorem dX8_came_19 : decode cX8_came 19 = .ok (.istore_n 3, 1) := by decide +kernel
theorem dX8_came_20 : decode cX8_came 20 = .ok (.aload_n 0, 1) := by decide +kernel
theorem dX8_came_21 : decode cX8_came 21 = .ok (.getfield 10, 3) := by decide +kernel
theorem dX8_came_24 : decode cX8_came 24 = .ok (.iconst 0, 1) := by decide +kernel
theorem dX8_came_25 : decode cX8_came 25 = .ok (.invokevirtual 227, 3) := by decide +kernel
theorem dX8_came_28 : decode cX8_came 28 = .ok (.istore 4, 2) := by decide +kernel
theorem dX8_came_30 : decode cX8_came 30 = .ok (.iconst 1, 1) := by decide +kernel
theorem dX8_came_31 : decode cX8_came 31 = .ok (.istore 5, 2) := by decide +kernel
theorem dX8_came_33 : decode cX8_came 33 = .ok (.iload 5, 2) := by decide +kernel
theorem dX8_came_35 : decode cX8_came 35 = .ok (.bipush 8, 2) := by decide +kernel
theorem dX8_came_37 : decode cX8_came 37 = .ok (.if_icmp .gt 44, 3) := by decide +kernel
theorem dX8_came_40 : decode cX8_came 40 = .ok (.aload_n 0, 1) := by decide +kernel
theorem dX8_came_41 : decode cX8_came 41 = .ok (.getfield 10, 3) := by decide +kernel
theorem dX8_came_44 : decode cX8_came 44 = .ok (.iload 5, 2) := by decide +kernel
theorem dX8_came_46 : decode cX8_came 46 = .ok (.invokevirtual 227, 3) := by decide +kernel
theorem dX8_came_49 : decode cX8_came 49 = .ok (.istore 6, 2) := by decide +kernel
theorem dX8_came_51 : decode cX8_came 51 = .ok (.iload 6, 2) := by decide +kernel
theorem dX8_came_53 : decode cX8_came 53 = .ok (.iload 4, 2) := by decide +kernel
theorem dX8_came_55 : decode cX8_came 55 = .ok (.if_icmp .ge 10, 3) := by decide +kernel
theorem dX8_came_58 : decode cX8_came 58 = .ok (.iload 6, 2) := by decide +kernel
theorem dX8_came_60 : decode cX8_came 60 = .ok (.istore 4, 2) := by decide +kernel
theorem dX8_came_62 : decode cX8_came 62 = .ok (.iload 5, 2) := by decide +kernel
theorem dX8_came_64 : decode cX8_came 64 = .ok (.istore_n 2, 1) := by decide +kernel
theorem dX8_came_65 : decode cX8_came 65 = .ok (.iload 6, 2) := by decide +kernel
theorem dX8_came_67 : decode cX8_came 67 = .ok (.iload 4, 2) := by decide +kernel
theorem dX8_came_69 : decode cX8_came 69 = .ok (.if_icmp .ne 6, 3) := by decide +kernel
theorem dX8_came_72 : decode cX8_came 72 = .ok (.iload 5, 2) := by decide +kernel
theorem dX8_came_74 : decode cX8_came 74 = .ok (.istore_n 3, 1) := by decide +kernel
theorem dX8_came_75 : decode cX8_came 75 = .ok (.iinc 5 1, 3) := by decide +kernel
theorem dX8_came_78 : decode cX8_came 78 = .ok (.goto (-45), 3) := by decide +kernel
theorem dX8_came_81 : decode cX8_came 81 = .ok (.iload_n 1, 1) := by decide +kernel
theorem dX8_came_82 : decode cX8_came 82 = .ok (.iconst 2, 1) := by decide +kernel
theorem dX8_came_83 : decode cX8_came 83 = .ok (.if_icmp .ne 6, 3) := by decide +kernel
theorem dX8_came_86 : decode cX8_came 86 = .ok (.iload 4, 2) := by decide +kernel
theorem dX8_came_88 : decode cX8_came 88 = .ok (.ireturn, 1) := by decide +kernel
theorem dX8_came_89 : decode cX8_came 89 = .ok (.iload_n 1, 1) := by decide +kernel
theorem dX8_came_90 : decode cX8_came 90 = .ok (.ifCond .ne 7, 3) := by decide +kernel
theorem dX8_came_93 : decode cX8_came 93 = .ok (.iload_n 2, 1) := by decide +kernel
theorem dX8_came_94 : decode cX8_came 94 = .ok (.goto 4, 3) := by decide +kernel
theorem dX8_came_97 : decode cX8_came 97 = .ok (.iload_n 3, 1) := by decide +kernel
theorem dX8_came_98 : decode cX8_came 98 = .ok (.ireturn, 1) := by decide +kernel
theorem dX8_type_0 : decode cX8_type 0 = .ok (.iload_n 3, 1) := by decide +kernel
theorem dX8_type_1 : decode cX8_type 1 = .ok (.iconst 1, 1) := by decide +kernel
theorem dX8_type_2 : decode cX8_type 2 = .ok (.bipush 8, 2) := by decide +kernel
theorem dX8_type_4 : decode cX8_type 4 = .ok (.invokestatic 75, 3) := by decide +kernel
theorem dX8_type_7 : decode cX8_type 7 = .ok (.ifCond .ne 10, 3) := by decide +kernel
theorem dX8_type_10 : decode cX8_type 10 = .ok (.aload_n 0, 1) := by decide +kernel
theorem dX8_type_11 : decode cX8_type 11 = .ok (.bipush (-2), 2) := by decide +kernel
theorem dX8_type_13 : decode cX8_type 13 = .ok (.invokevirtual 63, 3) := by decide +kernel
theorem dX8_type_16 : decode cX8_type 16 = .ok (.ireturn, 1) := by decide +kernel
theorem dX8_type_17 : decode cX8_type 17 = .ok (.aload_n 0, 1) := by decide +kernel
theorem dX8_type_18 : decode cX8_type 18 = .ok (.getfield 10, 3) := by decide +kernel
theorem dX8_type_21 : decode cX8_type 21 = .ok (.getfield 230, 3) := by decide +kernel
theorem dX8_type_24 : decode cX8_type 24 = .ok (.getfield 168, 3) := by decide +kernel
theorem dX8_type_27 : decode cX8_type 27 = .ok (.iload_n 3, 1) := by decide +kernel
theorem dX8_type_28 : decode cX8_type 28 = .ok (.iadd, 1) := by decide +kernel
theorem dX8_type_29 : decode cX8_type 29 = .ok (.sipush 200, 3) := by decide +kernel
theorem dX8_type_32 : decode cX8_type 32 = .ok (.if_icmp .le 8, 3) := by decide +kernel
theorem dX8_type_35 : decode cX8_type 35 = .ok (.aload_n 0, 1) := by decide +kernel
theorem dX8_type_36 : decode cX8_type 36 = .ok (.invokevirtual 233, 3) := by decide +kernel
theorem dX8_type_39 : decode cX8_type 39 = .ok (.ireturn, 1) := by decide +kernel
theorem dX8_type_40 : decode cX8_type 40 = .ok (.iload_n 3, 1) := by decide +kernel
theorem dX8_type_41 : decode cX8_type 41 = .ok (.iconst 1, 1) := by decide +kernel
theorem dX8_type_42 : decode cX8_type 42 = .ok (.isub, 1) := by decide +kernel
theorem dX8_type_43 : decode cX8_type 43 = .ok (.istore 4, 2) := by decide +kernel
theorem dX8_type_45 : decode cX8_type 45 = .ok (.iload 4, 2) := by decide +kernel
theorem dX8_type_47 : decode cX8_type 47 = .ok (.ifCond .lt 35, 3) := by decide +kernel
theorem dX8_type_50 : decode cX8_type 50 = .ok (.aload_n 0, 1) := by decide +kernel
theorem dX8_type_51 : decode cX8_type 51 = .ok (.getfield 10, 3) := by decide +kernel
theorem dX8_type_54 : decode cX8_type 54 = .ok (.getfield 230, 3) := by decide +kernel
theorem dX8_type_57 : decode cX8_type 57 = .ok (.lload_n 1, 1) := by decide +kernel
theorem dX8_type_58 : decode cX8_type 58 = .ok (.bipush 8, 2) := by decide +kernel
theorem dX8_type_60 : decode cX8_type 60 = .ok (.iload 4, 2) := by decide +kernel
theorem dX8_type_62 : decode cX8_type 62 = .ok (.imul, 1) := by decide +kernel
theorem dX8_type_63 : decode cX8_type 63 = .ok (.lshr, 1) := by decide +kernel
theorem dX8_type_64 : decode cX8_type 64 = .ok (.l2i, 1) := by decide +kernel
theorem dX8_type_65 : decode cX8_type 65 = .ok (.sipush 255, 3) := by decide +kernel
theorem dX8_type_68 : decode cX8_type 68 = .ok (.iand, 1) := by decide +kernel
theorem dX8_type_69 : decode cX8_type 69 = .ok (.iconst 0, 1) := by decide +kernel
theorem dX8_type_70 : decode cX8_type 70 = .ok (.iconst 0, 1) := by decide +kernel
theorem dX8_type_71 : decode cX8_type 71 = .ok (.iconst 0, 1) := by decide +kernel
theorem dX8_type_72 : decode cX8_type 72 = .ok (.invokevirtual 237, 3) := by decide +kernel
theorem dX8_type_75 : decode cX8_type 75 = .ok (.pop, 1) := by decide +kernel
theorem dX8_type_76 : decode cX8_type 76 = .ok (.iinc 4 (-1), 3) := by decide +kernel
theorem dX8_type_79 : decode cX8_type 79 = .ok (.goto (-34), 3) := by decide +kernel
theorem dX8_type_82 : decode cX8_type 82 = .ok (.aload_n 0, 1) := by decide +kernel
theorem dX8_type_83 : decode cX8_type 83 = .ok (.getfield 10, 3) := by decide +kernel
theorem dX8_type_86 : decode cX8_type 86 = .ok (.getfield 230, 3) := by decide +kernel
theorem dX8_type_89 : decode cX8_type 89 = .ok (.getfield 168, 3) := by decide +kernel
theorem dX8_type_92 : decode cX8_type 92 = .ok (.ireturn, 1) := by decide +kernel
theorem dX8_clear_0 : decode cX8_clear 0 = .ok (.aload_n 0, 1) := by decide +kernel
theorem dX8_clear_1 : decode cX8_clear 1 = .ok (.getfield 10, 3) := by decide +kernel
theorem dX8_clear_4 : decode cX8_clear 4 = .ok (.getfield 230, 3) := by decide +kernel
theorem dX8_clear_7 : decode cX8_clear 7 = .ok (.getfield 168, 3) := by decide +kernel
theorem dX8_clear_10 : decode cX8_clear 10 = .ok (.istore_n 1, 1) := by decide +kernel
theorem dX8_clear_11 : decode cX8_clear 11 = .ok (.aload_n 0, 1) := by decide +kernel
theorem dX8_clear_12 : decode cX8_clear 12 = .ok (.getfield 10, 3) := by decide +kernel
theorem dX8_clear_15 : decode cX8_clear 15 = .ok (.getfield 230, 3) := by decide +kernel
theorem dX8_clear_18 : decode cX8_clear 18 = .ok (.iconst 0, 1) := by decide +kernel
theorem dX8_clear_19 : decode cX8_clear 19 = .ok (.putfield 168, 3) := by decide +kernel
theorem dX8_clear_22 : decode cX8_clear 22 = .ok (.iload_n 1, 1) := by decide +kernel
theorem dX8_clear_23 : decode cX8_clear 23 = .ok (.ireturn, 1) := by decide +kernel
theorem dX8_fault_0 : decode cX8_fault 0 = .ok (.aload_n 0, 1) := by decide +kernel
theorem dX8_fault_1 : decode cX8_fault 1 = .ok (.getfield 30, 3) := by decide +kernel
theorem dX8_fault_4 : decode cX8_fault 4 = .ok (.aload_n 0, 1) := by decide +kernel
theorem dX8_fault_5 : decode cX8_fault 5 = .ok (.getfield 10, 3) := by decide +kernel
theorem dX8_fault_8 : decode cX8_fault 8 = .ok (.getfield 230, 3) := by decide +kernel
theorem dX8_fault_11 : decode cX8_fault 11 = .ok (.invokevirtual 241, 3) := by decide +kernel
theorem dX8_fault_14 : decode cX8_fault 14 = .ok (.ireturn, 1) := by decide +kernel
theorem dX8_plan_0 : decode cX8_plan 0 = .ok (.iload_n 1, 1) := by decide +kernel
theorem dX8_plan_1 : decode cX8_plan 1 = .ok (.iconst (-1), 1) := by decide +kernel
theorem dX8_plan_2 : decode cX8_plan 2 = .ok (.if_icmp .ge 10, 3) := by decide +kernel
theorem dX8_plan_5 : decode cX8_plan 5 = .ok (.aload_n 0, 1) := by decide +kernel
theorem dX8_plan_6 : decode cX8_plan 6 = .ok (.bipush (-10), 2) := by decide +kernel
theorem dX8_plan_8 : decode cX8_plan 8 = .ok (.invokevirtual 63, 3) := by decide +kernel
theorem dX8_plan_11 : decode cX8_plan 11 = .ok (.ireturn, 1) := by decide +kernel
theorem dX8_plan_12 : decode cX8_plan 12 = .ok (.aload_n 0, 1) := by decide +kernel
theorem dX8_plan_13 : decode cX8_plan 13 = .ok (.getfield 30, 3) := by decide +kernel
theorem dX8_plan_16 : decode cX8_plan 16 = .ok (.aload_n 0, 1) := by decide +kernel
theorem dX8_plan_17 : decode cX8_plan 17 = .ok (.getfield 10, 3) := by decide +kernel
theorem dX8_plan_20 : decode cX8_plan 20 = .ok (.getfield 230, 3) := by decide +kernel
theorem dX8_plan_23 : decode cX8_plan 23 = .ok (.invokevirtual 241, 3) := by decide +kernel
theorem dX8_plan_26 : decode cX8_plan 26 = .ok (.iconst (-1), 1) := by decide +kernel
theorem dX8_plan_27 : decode cX8_plan 27 = .ok (.if_icmp .eq 10, 3) := by decide +kernel
theorem dX8_plan_30 : decode cX8_plan 30 = .ok (.aload_n 0, 1) := by decide +kernel
theorem dX8_plan_31 : decode cX8_plan 31 = .ok (.bipush (-20), 2) := by decide +kernel
theorem dX8_plan_33 : decode cX8_plan 33 = .ok (.invokevirtual 141, 3) := by decide +kernel
theorem dX8_plan_36 : decode cX8_plan 36 = .ok (.ireturn, 1) := by decide +kernel
theorem dX8_plan_37 : decode cX8_plan 37 = .ok (.iload_n 1, 1) := by decide +kernel
theorem dX8_plan_38 : decode cX8_plan 38 = .ok (.iconst (-1), 1) := by decide +kernel
theorem dX8_plan_39 : decode cX8_plan 39 = .ok (.if_icmp .ne 14, 3) := by decide +kernel
theorem dX8_plan_42 : decode cX8_plan 42 = .ok (.aload_n 0, 1) := by decide +kernel
theorem dX8_plan_43 : decode cX8_plan 43 = .ok (.getfield 30, 3) := by decide +kernel
theorem dX8_plan_46 : decode cX8_plan 46 = .ok (.getfield 245, 3) := by decide +kernel
theorem dX8_plan_49 : decode cX8_plan 49 = .ok (.getfield 168, 3) := by decide +kernel
theorem dX8_plan_52 : decode cX8_plan 52 = .ok (.ireturn, 1) := by decide +kernel
theorem dX8_plan_53 : decode cX8_plan 53 = .ok (.aload_n 0, 1) := by decide +kernel
theorem dX8_plan_54 : decode cX8_plan 54 = .ok (.getfield 30, 3) := by decide +kernel
theorem dX8_plan_57 : decode cX8_plan 57 = .ok (.getfield 245, 3) := by decide +kernel
theorem dX8_plan_60 : decode cX8_plan 60 = .ok (.iload_n 1, 1) := by decide +kernel
theorem dX8_plan_61 : decode cX8_plan 61 = .ok (.invokevirtual 209, 3) := by decide +kernel
theorem dX8_plan_64 : decode cX8_plan 64 = .ok (.ifCond .ne 6, 3) := by decide +kernel
theorem dX8_plan_67 : decode cX8_plan 67 = .ok (.bipush (-5), 2) := by decide +kernel
theorem dX8_plan_69 : decode cX8_plan 69 = .ok (.ireturn, 1) := by decide +kernel
theorem dX8_plan_70 : decode cX8_plan 70 = .ok (.aload_n 0, 1) := by decide +kernel
theorem dX8_plan_71 : decode cX8_plan 71 = .ok (.getfield 30, 3) := by decide +kernel
theorem dX8_plan_74 : decode cX8_plan 74 = .ok (.getfield 245, 3) := by decide +kernel
theorem dX8_plan_77 : decode cX8_plan 77 = .ok (.iload_n 1, 1) := by decide +kernel
theorem dX8_plan_78 : decode cX8_plan 78 = .ok (.aload_n 0, 1) := by decide +kernel
theorem dX8_plan_79 : decode cX8_plan 79 = .ok (.getfield 23, 3) := by decide +kernel
theorem dX8_plan_82 : decode cX8_plan 82 = .ok (.getfield 90, 3) := by decide +kernel
theorem dX8_plan_85 : decode cX8_plan 85 = .ok (.iconst 0, 1) := by decide +kernel
theorem dX8_plan_86 : decode cX8_plan 86 = .ok (.invokevirtual 248, 3) := by decide +kernel
theorem dX8_plan_89 : decode cX8_plan 89 = .ok (.aload_n 0, 1) := by decide +kernel
theorem dX8_plan_90 : decode cX8_plan 90 = .ok (.getfield 23, 3) := by decide +kernel
theorem dX8_plan_93 : decode cX8_plan 93 = .ok (.iconst 0, 1) := by decide +kernel
theorem dX8_plan_94 : decode cX8_plan 94 = .ok (.invokevirtual 93, 3) := by decide +kernel
theorem dX8_plan_97 : decode cX8_plan 97 = .ok (.aload_n 0, 1) := by decide +kernel
theorem dX8_plan_98 : decode cX8_plan 98 = .ok (.getfield 23, 3) := by decide +kernel
theorem dX8_plan_101 : decode cX8_plan 101 = .ok (.getfield 119, 3) := by decide +kernel
theorem dX8_plan_104 : decode cX8_plan 104 = .ok (.ireturn, 1) := by decide +kernel
theorem dX8_sign_0 : decode cX8_sign 0 = .ok (.iload_n 1, 1) := by decide +kernel
theorem dX8_sign_1 : decode cX8_sign 1 = .ok (.iconst 0, 1) := by decide +kernel
theorem dX8_sign_2 : decode cX8_sign 2 = .ok (.iconst 2, 1) := by decide +kernel
theorem dX8_sign_3 : decode cX8_sign 3 = .ok (.invokestatic 75, 3) := by decide +kernel
theorem dX8_sign_6 : decode cX8_sign 6 = .ok (.ifCond .ne 10, 3) := by decide +kernel
theorem dX8_sign_9 : decode cX8_sign 9 = .ok (.aload_n 0, 1) := by decide +kernel
theorem dX8_sign_10 : decode cX8_sign 10 = .ok (.bipush (-2), 2) := by decide +kernel
theorem dX8_sign_12 : decode cX8_sign 12 = .ok (.invokevirtual 63, 3) := by decide +kernel
theorem dX8_sign_15 : decode cX8_sign 15 = .ok (.ireturn, 1) := by decide +kernel
theorem dX8_sign_16 : decode cX8_sign 16 = .ok (.iload_n 1, 1) := by decide +kernel
theorem dX8_sign_17 : decode cX8_sign 17 = .ok (.ifCond .ne 11, 3) := by decide +kernel
theorem dX8_sign_20 : decode cX8_sign 20 = .ok (.aload_n 0, 1) := by decide +kernel
theorem dX8_sign_21 : decode cX8_sign 21 = .ok (.getfield 51, 3) := by decide +kernel
theorem dX8_sign_24 : decode cX8_sign 24 = .ok (.getfield 252, 3) := by decide +kernel
theorem dX8_sign_27 : decode cX8_sign 27 = .ok (.ireturn, 1) := by decide +kernel
theorem dX8_sign_28 : decode cX8_sign 28 = .ok (.iload_n 1, 1) := by decide +kernel
theorem dX8_sign_29 : decode cX8_sign 29 = .ok (.iconst 1, 1) := by decide +kernel
theorem dX8_sign_30 : decode cX8_sign 30 = .ok (.if_icmp .ne 16, 3) := by decide +kernel
theorem dX8_sign_33 : decode cX8_sign 33 = .ok (.aload_n 0, 1) := by decide +kernel
theorem dX8_sign_34 : decode cX8_sign 34 = .ok (.getfield 51, 3) := by decide +kernel
theorem dX8_sign_37 : decode cX8_sign 37 = .ok (.getfield 255, 3) := by decide +kernel
theorem dX8_sign_40 : decode cX8_sign 40 = .ok (.getfield 258, 3) := by decide +kernel
theorem dX8_sign_43 : decode cX8_sign 43 = .ok (.goto 13, 3) := by decide +kernel
theorem dX8_sign_46 : decode cX8_sign 46 = .ok (.aload_n 0, 1) := by decide +kernel
theorem dX8_sign_47 : decode cX8_sign 47 = .ok (.getfield 51, 3) := by decide +kernel
theorem dX8_sign_50 : decode cX8_sign 50 = .ok (.getfield 263, 3) := by decide +kernel
theorem dX8_sign_53 : decode cX8_sign 53 = .ok (.getfield 258, 3) := by decide +kernel
theorem dX8_sign_56 : decode cX8_sign 56 = .ok (.ireturn, 1) := by decide +kernel
theorem dX8_limb_0 : decode cX8_limb 0 = .ok (.iload_n 1, 1) := by decide +kernel
theorem dX8_limb_1 : decode cX8_limb 1 = .ok (.iconst 0, 1) := by decide +kernel
theorem dX8_limb_2 : decode cX8_limb 2 = .ok (.iconst 1, 1) := by decide +kernel
theorem dX8_limb_3 : decode cX8_limb 3 = .ok (.invokestatic 75, 3) := by decide +kernel
theorem dX8_limb_6 : decode cX8_limb 6 = .ok (.ifCond .eq 7, 3) := by decide +kernel
theorem dX8_limb_9 : decode cX8_limb 9 = .ok (.iload_n 2, 1) := by decide +kernel
theorem dX8_limb_10 : decode cX8_limb 10 = .ok (.ifCond .ge 10, 3) := by decide +kernel
theorem dX8_limb_13 : decode cX8_limb 13 = .ok (.aload_n 0, 1) := by decide +kernel
theorem dX8_limb_14 : decode cX8_limb 14 = .ok (.bipush (-2), 2) := by decide +kernel
theorem dX8_limb_16 : decode cX8_limb 16 = .ok (.invokevirtual 63, 3) := by decide +kernel
theorem dX8_limb_19 : decode cX8_limb 19 = .ok (.ireturn, 1) := by decide +kernel
theorem dX8_limb_20 : decode cX8_limb 20 = .ok (.iload_n 1, 1) := by decide +kernel
theorem dX8_limb_21 : decode cX8_limb 21 = .ok (.ifCond .ne 13, 3) := by decide +kernel
theorem dX8_limb_24 : decode cX8_limb 24 = .ok (.aload_n 0, 1) := by decide +kernel
theorem dX8_limb_25 : decode cX8_limb 25 = .ok (.getfield 51, 3) := by decide +kernel
theorem dX8_limb_28 : decode cX8_limb 28 = .ok (.getfield 255, 3) := by decide +kernel
theorem dX8_limb_31 : decode cX8_limb 31 = .ok (.goto 10, 3) := by decide +kernel
theorem dX8_limb_34 : decode cX8_limb 34 = .ok (.aload_n 0, 1) := by decide +kernel
theorem dX8_limb_35 : decode cX8_limb 35 = .ok (.getfield 51, 3) := by decide +kernel
theorem dX8_limb_38 : decode cX8_limb 38 = .ok (.getfield 263, 3) := by decide +kernel
theorem dX8_limb_41 : decode cX8_limb 41 = .ok (.astore_n 3, 1) := by decide +kernel
theorem dX8_limb_42 : decode cX8_limb 42 = .ok (.iload_n 2, 1) := by decide +kernel
theorem dX8_limb_43 : decode cX8_limb 43 = .ok (.aload_n 3, 1) := by decide +kernel
theorem dX8_limb_44 : decode cX8_limb 44 = .ok (.getfield 258, 3) := by decide +kernel
theorem dX8_limb_47 : decode cX8_limb 47 = .ok (.if_icmp .ge 11, 3) := by decide +kernel
theorem dX8_limb_50 : decode cX8_limb 50 = .ok (.aload_n 3, 1) := by decide +kernel
theorem dX8_limb_51 : decode cX8_limb 51 = .ok (.iload_n 2, 1) := by decide +kernel
theorem dX8_limb_52 : decode cX8_limb 52 = .ok (.invokevirtual 266, 3) := by decide +kernel
theorem dX8_limb_55 : decode cX8_limb 55 = .ok (.goto 4, 3) := by decide +kernel
theorem dX8_limb_58 : decode cX8_limb 58 = .ok (.iconst (-1), 1) := by decide +kernel
theorem dX8_limb_59 : decode cX8_limb 59 = .ok (.ireturn, 1) := by decide +kernel
theorem dX8_image_0 : decode cX8_image 0 = .ok (.iload_n 1, 1) := by decide +kernel
theorem dX8_image_1 : decode cX8_image 1 = .ok (.iconst 0, 1) := by decide +kernel
theorem dX8_image_2 : decode cX8_image 2 = .ok (.iconst 1, 1) := by decide +kernel
theorem dX8_image_3 : decode cX8_image 3 = .ok (.invokestatic 75, 3) := by decide +kernel
theorem dX8_image_6 : decode cX8_image 6 = .ok (.ifCond .ne 10, 3) := by decide +kernel
theorem dX8_image_9 : decode cX8_image 9 = .ok (.aload_n 0, 1) := by decide +kernel
theorem dX8_image_10 : decode cX8_image 10 = .ok (.bipush (-2), 2) := by decide +kernel
theorem dX8_image_12 : decode cX8_image 12 = .ok (.invokevirtual 63, 3) := by decide +kernel
theorem dX8_image_15 : decode cX8_image 15 = .ok (.ireturn, 1) := by decide +kernel
theorem dX8_image_16 : decode cX8_image 16 = .ok (.aload_n 0, 1) := by decide +kernel
theorem dX8_image_17 : decode cX8_image 17 = .ok (.getfield 16, 3) := by decide +kernel
theorem dX8_image_20 : decode cX8_image 20 = .ok (.iload_n 1, 1) := by decide +kernel
theorem dX8_image_21 : decode cX8_image 21 = .ok (.aaload, 1) := by decide +kernel
theorem dX8_image_22 : decode cX8_image 22 = .ok (.ifnonnull 16, 3) := by decide +kernel
theorem dX8_image_25 : decode cX8_image 25 = .ok (.aload_n 0, 1) := by decide +kernel
theorem dX8_image_26 : decode cX8_image 26 = .ok (.getfield 16, 3) := by decide +kernel
theorem dX8_image_29 : decode cX8_image 29 = .ok (.iload_n 1, 1) := by decide +kernel
theorem dX8_image_30 : decode cX8_image 30 = .ok (.new 7, 3) := by decide +kernel
theorem dX8_image_33 : decode cX8_image 33 = .ok (.dup, 1) := by decide +kernel
theorem dX8_image_34 : decode cX8_image 34 = .ok (.invokespecial 9, 3) := by decide +kernel
theorem dX8_image_37 : decode cX8_image 37 = .ok (.aastore, 1) := by decide +kernel
theorem dX8_image_38 : decode cX8_image 38 = .ok (.aload_n 0, 1) := by decide +kernel
theorem dX8_image_39 : decode cX8_image 39 = .ok (.getfield 16, 3) := by decide +kernel
theorem dX8_image_42 : decode cX8_image 42 = .ok (.iload_n 1, 1) := by decide +kernel
theorem dX8_image_43 : decode cX8_image 43 = .ok (.aaload, 1) := by decide +kernel
theorem dX8_image_44 : decode cX8_image 44 = .ok (.aload_n 0, 1) := by decide +kernel
theorem dX8_image_45 : decode cX8_image 45 = .ok (.getfield 10, 3) := by decide +kernel
theorem dX8_image_48 : decode cX8_image 48 = .ok (.invokevirtual 269, 3) := by decide +kernel
theorem dX8_image_51 : decode cX8_image 51 = .ok (.iconst 1, 1) := by decide +kernel
theorem dX8_image_52 : decode cX8_image 52 = .ok (.ireturn, 1) := by decide +kernel
theorem dX8_from_0 : decode cX8_from 0 = .ok (.iload_n 1, 1) := by decide +kernel
theorem dX8_from_1 : decode cX8_from 1 = .ok (.iconst 0, 1) := by decide +kernel
theorem dX8_from_2 : decode cX8_from 2 = .ok (.iconst 1, 1) := by decide +kernel
theorem dX8_from_3 : decode cX8_from 3 = .ok (.invokestatic 75, 3) := by decide +kernel
theorem dX8_from_6 : decode cX8_from 6 = .ok (.ifCond .ne 10, 3) := by decide +kernel
theorem dX8_from_9 : decode cX8_from 9 = .ok (.aload_n 0, 1) := by decide +kernel
theorem dX8_from_10 : decode cX8_from 10 = .ok (.bipush (-2), 2) := by decide +kernel
theorem dX8_from_12 : decode cX8_from 12 = .ok (.invokevirtual 63, 3) := by decide +kernel
theorem dX8_from_15 : decode cX8_from 15 = .ok (.ireturn, 1) := by decide +kernel
theorem dX8_from_16 : decode cX8_from 16 = .ok (.aload_n 0, 1) := by decide +kernel
theorem dX8_from_17 : decode cX8_from 17 = .ok (.getfield 16, 3) := by decide +kernel
theorem dX8_from_20 : decode cX8_from 20 = .ok (.iload_n 1, 1) := by decide +kernel
theorem dX8_from_21 : decode cX8_from 21 = .ok (.aaload, 1) := by decide +kernel
theorem dX8_from_22 : decode cX8_from 22 = .ok (.ifnonnull 10, 3) := by decide +kernel
theorem dX8_from_25 : decode cX8_from 25 = .ok (.aload_n 0, 1) := by decide +kernel
theorem dX8_from_26 : decode cX8_from 26 = .ok (.bipush (-3), 2) := by decide +kernel
theorem dX8_from_28 : decode cX8_from 28 = .ok (.invokevirtual 141, 3) := by decide +kernel
theorem dX8_from_31 : decode cX8_from 31 = .ok (.ireturn, 1) := by decide +kernel
theorem dX8_from_32 : decode cX8_from 32 = .ok (.aload_n 0, 1) := by decide +kernel
theorem dX8_from_33 : decode cX8_from 33 = .ok (.getfield 10, 3) := by decide +kernel
theorem dX8_from_36 : decode cX8_from 36 = .ok (.aload_n 0, 1) := by decide +kernel
theorem dX8_from_37 : decode cX8_from 37 = .ok (.getfield 16, 3) := by decide +kernel
theorem dX8_from_40 : decode cX8_from 40 = .ok (.iload_n 1, 1) := by decide +kernel
theorem dX8_from_41 : decode cX8_from 41 = .ok (.aaload, 1) := by decide +kernel
theorem dX8_from_42 : decode cX8_from 42 = .ok (.invokevirtual 269, 3) := by decide +kernel
theorem dX8_from_45 : decode cX8_from 45 = .ok (.iconst 1, 1) := by decide +kernel
theorem dX8_from_46 : decode cX8_from 46 = .ok (.ireturn, 1) := by decide +kernel
theorem dX8_status_0 : decode cX8_status 0 = .ok (.iload_n 1, 1) := by decide +kernel
theorem dX8_status_1 : decode cX8_status 1 = .ok (.iconst 0, 1) := by decide +kernel
theorem dX8_status_2 : decode cX8_status 2 = .ok (.iconst 2, 1) := by decide +kernel
theorem dX8_status_3 : decode cX8_status 3 = .ok (.invokestatic 75, 3) := by decide +kernel
theorem dX8_status_6 : decode cX8_status 6 = .ok (.ifCond .ne 9, 3) := by decide +kernel
theorem dX8_status_9 : decode cX8_status 9 = .ok (.aload_n 0, 1) := by decide +kernel
theorem dX8_status_10 : decode cX8_status 10 = .ok (.iconst (-1), 1) := by decide +kernel
theorem dX8_status_11 : decode cX8_status 11 = .ok (.invokevirtual 63, 3) := by decide +kernel
theorem dX8_status_14 : decode cX8_status 14 = .ok (.ireturn, 1) := by decide +kernel
theorem dX8_status_15 : decode cX8_status 15 = .ok (.aload_n 0, 1) := by decide +kernel
theorem dX8_status_16 : decode cX8_status 16 = .ok (.getfield 55, 3) := by decide +kernel
theorem dX8_status_19 : decode cX8_status 19 = .ok (.iload_n 1, 1) := by decide +kernel
theorem dX8_status_20 : decode cX8_status 20 = .ok (.iaload, 1) := by decide +kernel
theorem dX8_status_21 : decode cX8_status 21 = .ok (.ireturn, 1) := by decide +kernel
theorem dX8_count_0 : decode cX8_count 0 = .ok (.iload_n 1, 1) := by decide +kernel
theorem dX8_count_1 : decode cX8_count 1 = .ok (.iconst 0, 1) := by decide +kernel
theorem dX8_count_2 : decode cX8_count 2 = .ok (.bipush 6, 2) := by decide +kernel
theorem dX8_count_4 : decode cX8_count 4 = .ok (.invokestatic 75, 3) := by decide +kernel
theorem dX8_count_7 : decode cX8_count 7 = .ok (.ifCond .ne 10, 3) := by decide +kernel
theorem dX8_count_10 : decode cX8_count 10 = .ok (.aload_n 0, 1) := by decide +kernel
theorem dX8_count_11 : decode cX8_count 11 = .ok (.bipush (-2), 2) := by decide +kernel
theorem dX8_count_13 : decode cX8_count 13 = .ok (.invokevirtual 63, 3) := by decide +kernel
theorem dX8_count_16 : decode cX8_count 16 = .ok (.ireturn, 1) := by decide +kernel
theorem dX8_count_17 : decode cX8_count 17 = .ok (.aload_n 0, 1) := by decide +kernel
theorem dX8_count_18 : decode cX8_count 18 = .ok (.getfield 10, 3) := by decide +kernel
theorem dX8_count_21 : decode cX8_count 21 = .ok (.iload_n 1, 1) := by decide +kernel
theorem dX8_count_22 : decode cX8_count 22 = .ok (.invokevirtual 273, 3) := by decide +kernel
theorem dX8_count_25 : decode cX8_count 25 = .ok (.ireturn, 1) := by decide +kernel
theorem dX8_digest_0 : decode cX8_digest 0 = .ok (.ldc2_w 276, 3) := by decide +kernel
theorem dX8_digest_3 : decode cX8_digest 3 = .ok (.lstore_n 1, 1) := by decide +kernel
theorem dX8_digest_4 : decode cX8_digest 4 = .ok (.iconst 0, 1) := by decide +kernel
theorem dX8_digest_5 : decode cX8_digest 5 = .ok (.istore_n 3, 1) := by decide +kernel
theorem dX8_digest_6 : decode cX8_digest 6 = .ok (.iload_n 3, 1) := by decide +kernel
theorem dX8_digest_7 : decode cX8_digest 7 = .ok (.bipush 6, 2) := by decide +kernel
theorem dX8_digest_9 : decode cX8_digest 9 = .ok (.if_icmp .gt 23, 3) := by decide +kernel
theorem dX8_digest_12 : decode cX8_digest 12 = .ok (.lload_n 1, 1) := by decide +kernel
theorem dX8_digest_13 : decode cX8_digest 13 = .ok (.aload_n 0, 1) := by decide +kernel
theorem dX8_digest_14 : decode cX8_digest 14 = .ok (.getfield 10, 3) := by decide +kernel
theorem dX8_digest_17 : decode cX8_digest 17 = .ok (.iload_n 3, 1) := by decide +kernel
theorem dX8_digest_18 : decode cX8_digest 18 = .ok (.invokevirtual 273, 3) := by decide +kernel
theorem dX8_digest_21 : decode cX8_digest 21 = .ok (.i2l, 1) := by decide +kernel
theorem dX8_digest_22 : decode cX8_digest 22 = .ok (.invokestatic 278, 3) := by decide +kernel
theorem dX8_digest_25 : decode cX8_digest 25 = .ok (.lstore_n 1, 1) := by decide +kernel
theorem dX8_digest_26 : decode cX8_digest 26 = .ok (.iinc 3 1, 3) := by decide +kernel
theorem dX8_digest_29 : decode cX8_digest 29 = .ok (.goto (-23), 3) := by decide +kernel
theorem dX8_digest_32 : decode cX8_digest 32 = .ok (.aload_n 0, 1) := by decide +kernel
theorem dX8_digest_33 : decode cX8_digest 33 = .ok (.getfield 51, 3) := by decide +kernel
theorem dX8_digest_36 : decode cX8_digest 36 = .ok (.aload_n 0, 1) := by decide +kernel
theorem dX8_digest_37 : decode cX8_digest 37 = .ok (.getfield 10, 3) := by decide +kernel
theorem dX8_digest_40 : decode cX8_digest 40 = .ok (.lload_n 1, 1) := by decide +kernel
theorem dX8_digest_41 : decode cX8_digest 41 = .ok (.invokevirtual 282, 3) := by decide +kernel
theorem dX8_digest_44 : decode cX8_digest 44 = .ok (.invokevirtual 286, 3) := by decide +kernel
theorem dX8_digest_47 : decode cX8_digest 47 = .ok (.lstore_n 1, 1) := by decide +kernel
theorem dX8_digest_48 : decode cX8_digest 48 = .ok (.lload_n 1, 1) := by decide +kernel
theorem dX8_digest_49 : decode cX8_digest 49 = .ok (.lreturn, 1) := by decide +kernel
theorem dX8_bad_0 : decode cX8_bad 0 = .ok (.aload_n 0, 1) := by decide +kernel
theorem dX8_bad_1 : decode cX8_bad 1 = .ok (.getfield 55, 3) := by decide +kernel
theorem dX8_bad_4 : decode cX8_bad 4 = .ok (.iconst 0, 1) := by decide +kernel
theorem dX8_bad_5 : decode cX8_bad 5 = .ok (.dup2, 1) := by decide +kernel
theorem dX8_bad_6 : decode cX8_bad 6 = .ok (.iaload, 1) := by decide +kernel
theorem dX8_bad_7 : decode cX8_bad 7 = .ok (.iconst 1, 1) := by decide +kernel
theorem dX8_bad_8 : decode cX8_bad 8 = .ok (.iadd, 1) := by decide +kernel
theorem dX8_bad_9 : decode cX8_bad 9 = .ok (.iastore, 1) := by decide +kernel
theorem dX8_bad_10 : decode cX8_bad 10 = .ok (.iload_n 1, 1) := by decide +kernel
theorem dX8_bad_11 : decode cX8_bad 11 = .ok (.ireturn, 1) := by decide +kernel
theorem dX8_no_0 : decode cX8_no 0 = .ok (.aload_n 0, 1) := by decide +kernel
theorem dX8_no_1 : decode cX8_no 1 = .ok (.getfield 55, 3) := by decide +kernel
theorem dX8_no_4 : decode cX8_no 4 = .ok (.iconst 1, 1) := by decide +kernel
theorem dX8_no_5 : decode cX8_no 5 = .ok (.dup2, 1) := by decide +kernel
theorem dX8_no_6 : decode cX8_no 6 = .ok (.iaload, 1) := by decide +kernel
theorem dX8_no_7 : decode cX8_no 7 = .ok (.iconst 1, 1) := by decide +kernel
theorem dX8_no_8 : decode cX8_no 8 = .ok (.iadd, 1) := by decide +kernel
theorem dX8_no_9 : decode cX8_no 9 = .ok (.iastore, 1) := by decide +kernel
theorem dX8_no_10 : decode cX8_no 10 = .ok (.iload_n 1, 1) := by decide +kernel
theorem dX8_no_11 : decode cX8_no 11 = .ok (.ireturn, 1) := by decide +kernel
theorem dX8_full_0 : decode cX8_full 0 = .ok (.aload_n 0, 1) := by decide +kernel
theorem dX8_full_1 : decode cX8_full 1 = .ok (.getfield 55, 3) := by decide +kernel
theorem dX8_full_4 : decode cX8_full 4 = .ok (.iconst 2, 1) := by decide +kernel
theorem dX8_full_5 : decode cX8_full 5 = .ok (.dup2, 1) := by decide +kernel
theorem dX8_full_6 : decode cX8_full 6 = .ok (.iaload, 1) := by decide +kernel
theorem dX8_full_7 : decode cX8_full 7 = .ok (.iconst 1, 1) := by decide +kernel
theorem dX8_full_8 : decode cX8_full 8 = .ok (.iadd, 1) := by decide +kernel
theorem dX8_full_9 : decode cX8_full 9 = .ok (.iastore, 1) := by decide +kernel
theorem dX8_full_10 : decode cX8_full 10 = .ok (.bipush (-4), 2) := by decide +kernel
theorem dX8_full_12 : decode cX8_full 12 = .ok (.ireturn, 1) := by decide +kernel
theorem dX8_added_0 : decode cX8_added 0 = .ok (.aload_n 1, 1) := by decide +kernel
theorem dX8_added_1 : decode cX8_added 1 = .ok (.invokevirtual 287, 3) := by decide +kernel
theorem dX8_added_4 : decode cX8_added 4 = .ok (.ifCond .eq 10, 3) := by decide +kernel
theorem dX8_added_7 : decode cX8_added 7 = .ok (.aload_n 0, 1) := by decide +kernel
theorem dX8_added_8 : decode cX8_added 8 = .ok (.invokevirtual 233, 3) := by decide +kernel
theorem dX8_added_11 : decode cX8_added 11 = .ok (.goto 13, 3) := by decide +kernel
theorem dX8_added_14 : decode cX8_added 14 = .ok (.aload_n 1, 1) := by decide +kernel
theorem dX8_added_15 : decode cX8_added 15 = .ok (.iload_n 2, 1) := by decide +kernel
theorem dX8_added_16 : decode cX8_added 16 = .ok (.iload_n 3, 1) := by decide +kernel
theorem dX8_added_17 : decode cX8_added 17 = .ok (.iload 4, 2) := by decide +kernel
theorem dX8_added_19 : decode cX8_added 19 = .ok (.iload 5, 2) := by decide +kernel
theorem dX8_added_21 : decode cX8_added 21 = .ok (.invokevirtual 237, 3) := by decide +kernel
theorem dX8_added_24 : decode cX8_added 24 = .ok (.ireturn, 1) := by decide +kernel
theorem dX8_ready_0 : decode cX8_ready 0 = .ok (.aload_n 0, 1) := by decide +kernel
theorem dX8_ready_1 : decode cX8_ready 1 = .ok (.getfield 10, 3) := by decide +kernel
theorem dX8_ready_4 : decode cX8_ready 4 = .ok (.getfield 67, 3) := by decide +kernel
theorem dX8_ready_7 : decode cX8_ready 7 = .ok (.iload_n 1, 1) := by decide +kernel
theorem dX8_ready_8 : decode cX8_ready 8 = .ok (.invokevirtual 209, 3) := by decide +kernel
theorem dX8_ready_11 : decode cX8_ready 11 = .ok (.ifCond .eq 41, 3) := by decide +kernel
theorem dX8_ready_14 : decode cX8_ready 14 = .ok (.aload_n 0, 1) := by decide +kernel
theorem dX8_ready_15 : decode cX8_ready 15 = .ok (.getfield 10, 3) := by decide +kernel
theorem dX8_ready_18 : decode cX8_ready 18 = .ok (.getfield 79, 3) := by decide +kernel
theorem dX8_ready_21 : decode cX8_ready 21 = .ok (.iload_n 2, 1) := by decide +kernel
theorem dX8_ready_22 : decode cX8_ready 22 = .ok (.invokevirtual 209, 3) := by decide +kernel
theorem dX8_ready_25 : decode cX8_ready 25 = .ok (.ifCond .eq 27, 3) := by decide +kernel
theorem dX8_ready_28 : decode cX8_ready 28 = .ok (.aload_n 0, 1) := by decide +kernel
theorem dX8_ready_29 : decode cX8_ready 29 = .ok (.getfield 10, 3) := by decide +kernel
theorem dX8_ready_32 : decode cX8_ready 32 = .ok (.getfield 82, 3) := by decide +kernel
theorem dX8_ready_35 : decode cX8_ready 35 = .ok (.iload_n 3, 1) := by decide +kernel
theorem dX8_ready_36 : decode cX8_ready 36 = .ok (.invokevirtual 209, 3) := by decide +kernel
theorem dX8_ready_39 : decode cX8_ready 39 = .ok (.ifCond .eq 13, 3) := by decide +kernel
theorem dX8_ready_42 : decode cX8_ready 42 = .ok (.bipush 12, 2) := by decide +kernel
theorem dX8_ready_44 : decode cX8_ready 44 = .ok (.iload 4, 2) := by decide +kernel
theorem dX8_ready_46 : decode cX8_ready 46 = .ok (.invokestatic 59, 3) := by decide +kernel
theorem dX8_ready_49 : decode cX8_ready 49 = .ok (.ifCond .ne 5, 3) := by decide +kernel
theorem dX8_ready_52 : decode cX8_ready 52 = .ok (.iconst 0, 1) := by decide +kernel
theorem dX8_ready_53 : decode cX8_ready 53 = .ok (.ireturn, 1) := by decide +kernel
theorem dX8_ready_54 : decode cX8_ready 54 = .ok (.aload_n 0, 1) := by decide +kernel
theorem dX8_ready_55 : decode cX8_ready 55 = .ok (.getfield 10, 3) := by decide +kernel
theorem dX8_ready_58 : decode cX8_ready 58 = .ok (.getfield 67, 3) := by decide +kernel
theorem dX8_ready_61 : decode cX8_ready 61 = .ok (.iload_n 1, 1) := by decide +kernel
theorem dX8_ready_62 : decode cX8_ready 62 = .ok (.aload_n 0, 1) := by decide +kernel
theorem dX8_ready_63 : decode cX8_ready 63 = .ok (.getfield 23, 3) := by decide +kernel
theorem dX8_ready_66 : decode cX8_ready 66 = .ok (.getfield 90, 3) := by decide +kernel
theorem dX8_ready_69 : decode cX8_ready 69 = .ok (.iconst 0, 1) := by decide +kernel
theorem dX8_ready_70 : decode cX8_ready 70 = .ok (.invokevirtual 248, 3) := by decide +kernel
theorem dX8_ready_73 : decode cX8_ready 73 = .ok (.aload_n 0, 1) := by decide +kernel
theorem dX8_ready_74 : decode cX8_ready 74 = .ok (.getfield 10, 3) := by decide +kernel
theorem dX8_ready_77 : decode cX8_ready 77 = .ok (.getfield 79, 3) := by decide +kernel
theorem dX8_ready_80 : decode cX8_ready 80 = .ok (.iload_n 2, 1) := by decide +kernel
theorem dX8_ready_81 : decode cX8_ready 81 = .ok (.aload_n 0, 1) := by decide +kernel
theorem dX8_ready_82 : decode cX8_ready 82 = .ok (.getfield 23, 3) := by decide +kernel
theorem dX8_ready_85 : decode cX8_ready 85 = .ok (.getfield 90, 3) := by decide +kernel
theorem dX8_ready_88 : decode cX8_ready 88 = .ok (.iconst 3, 1) := by decide +kernel
theorem dX8_ready_89 : decode cX8_ready 89 = .ok (.invokevirtual 248, 3) := by decide +kernel
theorem dX8_ready_92 : decode cX8_ready 92 = .ok (.aload_n 0, 1) := by decide +kernel
theorem dX8_ready_93 : decode cX8_ready 93 = .ok (.getfield 10, 3) := by decide +kernel
theorem dX8_ready_96 : decode cX8_ready 96 = .ok (.getfield 82, 3) := by decide +kernel
theorem dX8_ready_99 : decode cX8_ready 99 = .ok (.iload_n 3, 1) := by decide +kernel
theorem dX8_ready_100 : decode cX8_ready 100 = .ok (.aload_n 0, 1) := by decide +kernel
theorem dX8_ready_101 : decode cX8_ready 101 = .ok (.getfield 23, 3) := by decide +kernel
theorem dX8_ready_104 : decode cX8_ready 104 = .ok (.getfield 90, 3) := by decide +kernel
theorem dX8_ready_107 : decode cX8_ready 107 = .ok (.bipush 6, 2) := by decide +kernel
theorem dX8_ready_109 : decode cX8_ready 109 = .ok (.invokevirtual 248, 3) := by decide +kernel
theorem dX8_ready_112 : decode cX8_ready 112 = .ok (.aload_n 0, 1) := by decide +kernel
theorem dX8_ready_113 : decode cX8_ready 113 = .ok (.getfield 23, 3) := by decide +kernel
theorem dX8_ready_116 : decode cX8_ready 116 = .ok (.getfield 90, 3) := by decide +kernel
theorem dX8_ready_119 : decode cX8_ready 119 = .ok (.bipush 10, 2) := by decide +kernel
theorem dX8_ready_121 : decode cX8_ready 121 = .ok (.iconst 0, 1) := by decide +kernel
theorem dX8_ready_122 : decode cX8_ready 122 = .ok (.iastore, 1) := by decide +kernel
theorem dX8_ready_123 : decode cX8_ready 123 = .ok (.aload_n 0, 1) := by decide +kernel
theorem dX8_ready_124 : decode cX8_ready 124 = .ok (.getfield 23, 3) := by decide +kernel
theorem dX8_ready_127 : decode cX8_ready 127 = .ok (.getfield 90, 3) := by decide +kernel
theorem dX8_ready_130 : decode cX8_ready 130 = .ok (.bipush 11, 2) := by decide +kernel
theorem dX8_ready_132 : decode cX8_ready 132 = .ok (.iconst 0, 1) := by decide +kernel
theorem dX8_ready_133 : decode cX8_ready 133 = .ok (.iastore, 1) := by decide +kernel
theorem dX8_ready_134 : decode cX8_ready 134 = .ok (.aload_n 0, 1) := by decide +kernel
theorem dX8_ready_135 : decode cX8_ready 135 = .ok (.getfield 23, 3) := by decide +kernel
theorem dX8_ready_138 : decode cX8_ready 138 = .ok (.getfield 90, 3) := by decide +kernel
theorem dX8_ready_141 : decode cX8_ready 141 = .ok (.bipush 12, 2) := by decide +kernel
theorem dX8_ready_143 : decode cX8_ready 143 = .ok (.iload 4, 2) := by decide +kernel
theorem dX8_ready_145 : decode cX8_ready 145 = .ok (.iastore, 1) := by decide +kernel
theorem dX8_ready_146 : decode cX8_ready 146 = .ok (.iconst 1, 1) := by decide +kernel
theorem dX8_ready_147 : decode cX8_ready 147 = .ok (.ireturn, 1) := by decide +kernel
theorem dX8_within_0 : decode cX8_within 0 = .ok (.iload_n 0, 1) := by decide +kernel
theorem dX8_within_1 : decode cX8_within 1 = .ok (.iload_n 1, 1) := by decide +kernel
theorem dX8_within_2 : decode cX8_within 2 = .ok (.if_icmp .lt 12, 3) := by decide +kernel
theorem dX8_within_5 : decode cX8_within 5 = .ok (.iload_n 0, 1) := by decide +kernel
theorem dX8_within_6 : decode cX8_within 6 = .ok (.iload_n 2, 1) := by decide +kernel
theorem dX8_within_7 : decode cX8_within 7 = .ok (.if_icmp .gt 7, 3) := by decide +kernel
theorem dX8_within_10 : decode cX8_within 10 = .ok (.iconst 1, 1) := by decide +kernel
theorem dX8_within_11 : decode cX8_within 11 = .ok (.goto 4, 3) := by decide +kernel
theorem dX8_within_14 : decode cX8_within 14 = .ok (.iconst 0, 1) := by decide +kernel
theorem dX8_within_15 : decode cX8_within 15 = .ok (.ireturn, 1) := by decide +kernel
theorem dX8_fits_0 : decode cX8_fits 0 = .ok (.iload_n 0, 1) := by decide +kernel
theorem dX8_fits_1 : decode cX8_fits 1 = .ok (.ifCond .lt 30, 3) := by decide +kernel
theorem dX8_fits_4 : decode cX8_fits 4 = .ok (.iload_n 0, 1) := by decide +kernel
theorem dX8_fits_5 : decode cX8_fits 5 = .ok (.bipush 13, 2) := by decide +kernel
theorem dX8_fits_7 : decode cX8_fits 7 = .ok (.if_icmp .ge 24, 3) := by decide +kernel
theorem dX8_fits_10 : decode cX8_fits 10 = .ok (.iload_n 1, 1) := by decide +kernel
theorem dX8_fits_11 : decode cX8_fits 11 = .ok (.getstatic 107, 3) := by decide +kernel
theorem dX8_fits_14 : decode cX8_fits 14 = .ok (.iload_n 0, 1) := by decide +kernel
theorem dX8_fits_15 : decode cX8_fits 15 = .ok (.iaload, 1) := by decide +kernel
theorem dX8_fits_16 : decode cX8_fits 16 = .ok (.getstatic 110, 3) := by decide +kernel
theorem dX8_fits_19 : decode cX8_fits 19 = .ok (.iload_n 0, 1) := by decide +kernel
theorem dX8_fits_20 : decode cX8_fits 20 = .ok (.iaload, 1) := by decide +kernel
theorem dX8_fits_21 : decode cX8_fits 21 = .ok (.invokestatic 75, 3) := by decide +kernel
theorem dX8_fits_24 : decode cX8_fits 24 = .ok (.ifCond .eq 7, 3) := by decide +kernel
theorem dX8_fits_27 : decode cX8_fits 27 = .ok (.iconst 1, 1) := by decide +kernel
theorem dX8_fits_28 : decode cX8_fits 28 = .ok (.goto 4, 3) := by decide +kernel
theorem dX8_fits_31 : decode cX8_fits 31 = .ok (.iconst 0, 1) := by decide +kernel
theorem dX8_fits_32 : decode cX8_fits 32 = .ok (.ireturn, 1) := by decide +kernel
theorem dX8_divided_0 : decode cX8_divided 0 = .ok (.iload_n 1, 1) := by decide +kernel
theorem dX8_divided_1 : decode cX8_divided 1 = .ok (.ifCond .ne 7, 3) := by decide +kernel
theorem dX8_divided_4 : decode cX8_divided 4 = .ok (.iconst 0, 1) := by decide +kernel
theorem dX8_divided_5 : decode cX8_divided 5 = .ok (.goto 6, 3) := by decide +kernel
theorem dX8_divided_8 : decode cX8_divided 8 = .ok (.iload_n 0, 1) := by decide +kernel
theorem dX8_divided_9 : decode cX8_divided 9 = .ok (.iload_n 1, 1) := by decide +kernel
theorem dX8_divided_10 : decode cX8_divided 10 = .ok (.idiv, 1) := by decide +kernel
theorem dX8_divided_11 : decode cX8_divided 11 = .ok (.ireturn, 1) := by decide +kernel
theorem dX8_mixed_0 : decode cX8_mixed 0 = .ok (.ldc2_w 291, 3) := by decide +kernel
theorem dX8_mixed_3 : decode cX8_mixed 3 = .ok (.lload_n 0, 1) := by decide +kernel
theorem dX8_mixed_4 : decode cX8_mixed 4 = .ok (.lmul, 1) := by decide +kernel
theorem dX8_mixed_5 : decode cX8_mixed 5 = .ok (.lload_n 2, 1) := by decide +kernel
theorem dX8_mixed_6 : decode cX8_mixed 6 = .ok (.ladd, 1) := by decide +kernel
theorem dX8_mixed_7 : decode cX8_mixed 7 = .ok (.lreturn, 1) := by decide +kernel
theorem dX9_init_0 : decode cX9_init 0 = .ok (.aload_n 0, 1) := by decide +kernel
theorem dX9_init_1 : decode cX9_init 1 = .ok (.invokespecial 1, 3) := by decide +kernel
theorem dX9_init_4 : decode cX9_init 4 = .ok (.aload_n 0, 1) := by decide +kernel
theorem dX9_init_5 : decode cX9_init 5 = .ok (.sipush 398, 3) := by decide +kernel
theorem dX9_init_8 : decode cX9_init 8 = .ok (.newarray .int, 2) := by decide +kernel
theorem dX9_init_10 : decode cX9_init 10 = .ok (.putfield 7, 3) := by decide +kernel
theorem dX9_init_13 : decode cX9_init 13 = .ok (.aload_n 0, 1) := by decide +kernel
theorem dX9_init_14 : decode cX9_init 14 = .ok (.sipush 796, 3) := by decide +kernel
theorem dX9_init_17 : decode cX9_init 17 = .ok (.newarray .int, 2) := by decide +kernel
theorem dX9_init_19 : decode cX9_init 19 = .ok (.putfield 13, 3) := by decide +kernel
theorem dX9_init_22 : decode cX9_init 22 = .ok (.aload_n 0, 1) := by decide +kernel
theorem dX9_init_23 : decode cX9_init 23 = .ok (.iconst 2, 1) := by decide +kernel
theorem dX9_init_24 : decode cX9_init 24 = .ok (.newarray .boolean, 2) := by decide +kernel
theorem dX9_init_26 : decode cX9_init 26 = .ok (.putfield 16, 3) := by decide +kernel
theorem dX9_init_29 : decode cX9_init 29 = .ok (.aload_n 0, 1) := by decide +kernel
theorem dX9_init_30 : decode cX9_init 30 = .ok (.iconst 3, 1) := by decide +kernel
theorem dX9_init_31 : decode cX9_init 31 = .ok (.newarray .int, 2) := by decide +kernel
theorem dX9_init_33 : decode cX9_init 33 = .ok (.putfield 20, 3) := by decide +kernel
theorem dX9_init_36 : decode cX9_init 36 = .ok (.aload_n 0, 1) := by decide +kernel
theorem dX9_init_37 : decode cX9_init 37 = .ok (.sipush 640, 3) := by decide +kernel
theorem dX9_init_40 : decode cX9_init 40 = .ok (.newarray .long, 2) := by decide +kernel
theorem dX9_init_42 : decode cX9_init 42 = .ok (.putfield 23, 3) := by decide +kernel
theorem dX9_init_45 : decode cX9_init 45 = .ok (.aload_n 0, 1) := by decide +kernel
theorem dX9_init_46 : decode cX9_init 46 = .ok (.bipush 10, 2) := by decide +kernel
theorem dX9_init_48 : decode cX9_init 48 = .ok (.newarray .int, 2) := by decide +kernel
theorem dX9_init_50 : decode cX9_init 50 = .ok (.putfield 27, 3) := by decide +kernel
theorem dX9_init_53 : decode cX9_init 53 = .ok (.aload_n 0, 1) := by decide +kernel
theorem dX9_init_54 : decode cX9_init 54 = .ok (.bipush 64, 2) := by decide +kernel
theorem dX9_init_56 : decode cX9_init 56 = .ok (.newarray .int, 2) := by decide +kernel
theorem dX9_init_58 : decode cX9_init 58 = .ok (.putfield 30, 3) := by decide +kernel
theorem dX9_init_61 : decode cX9_init 61 = .ok (.aload_n 0, 1) := by decide +kernel
theorem dX9_init_62 : decode cX9_init 62 = .ok (.bipush 12, 2) := by decide +kernel
theorem dX9_init_64 : decode cX9_init 64 = .ok (.newarray .int, 2) := by decide +kernel
theorem dX9_init_66 : decode cX9_init 66 = .ok (.putfield 33, 3) := by decide +kernel
theorem dX9_init_69 : decode cX9_init 69 = .ok (.iconst 0, 1) := by decide +kernel
theorem dX9_init_70 : decode cX9_init 70 = .ok (.istore_n 1, 1) := by decide +kernel
theorem dX9_init_71 : decode cX9_init 71 = .ok (.iload_n 1, 1) := by decide +kernel
theorem dX9_init_72 : decode cX9_init 72 = .ok (.iconst 4, 1) := by decide +kernel
theorem dX9_init_73 : decode cX9_init 73 = .ok (.if_icmp .ge 36, 3) := by decide +kernel
theorem dX9_init_76 : decode cX9_init 76 = .ok (.aload_n 0, 1) := by decide +kernel
theorem dX9_init_77 : decode cX9_init 77 = .ok (.getfield 7, 3) := by decide +kernel
theorem dX9_init_80 : decode cX9_init 80 = .ok (.bipush 40, 2) := by decide +kernel
theorem dX9_init_82 : decode cX9_init 82 = .ok (.iconst 2, 1) := by decide +kernel
theorem dX9_init_83 : decode cX9_init 83 = .ok (.iload_n 1, 1) := by decide +kernel
theorem dX9_init_84 : decode cX9_init 84 = .ok (.imul, 1) := by decide +kernel
theorem dX9_init_85 : decode cX9_init 85 = .ok (.iadd, 1) := by decide +kernel
theorem dX9_init_86 : decode cX9_init 86 = .ok (.bipush 10, 2) := by decide +kernel
theorem dX9_init_88 : decode cX9_init 88 = .ok (.iastore, 1) := by decide +kernel
theorem dX9_init_89 : decode cX9_init 89 = .ok (.aload_n 0, 1) := by decide +kernel
theorem dX9_init_90 : decode cX9_init 90 = .ok (.getfield 7, 3) := by decide +kernel
theorem dX9_init_93 : decode cX9_init 93 = .ok (.bipush 40, 2) := by decide +kernel
theorem dX9_init_95 : decode cX9_init 95 = .ok (.iconst 2, 1) := by decide +kernel
theorem dX9_init_96 : decode cX9_init 96 = .ok (.iload_n 1, 1) := by decide +kernel
theorem dX9_init_97 : decode cX9_init 97 = .ok (.imul, 1) := by decide +kernel
theorem dX9_init_98 : decode cX9_init 98 = .ok (.iadd, 1) := by decide +kernel
theorem dX9_init_99 : decode cX9_init 99 = .ok (.iconst 1, 1) := by decide +kernel
theorem dX9_init_100 : decode cX9_init 100 = .ok (.iadd, 1) := by decide +kernel
theorem dX9_init_101 : decode cX9_init 101 = .ok (.iconst 1, 1) := by decide +kernel
theorem dX9_init_102 : decode cX9_init 102 = .ok (.iastore, 1) := by decide +kernel
theorem dX9_init_103 : decode cX9_init 103 = .ok (.iinc 1 1, 3) := by decide +kernel
theorem dX9_init_106 : decode cX9_init 106 = .ok (.goto (-35), 3) := by decide +kernel
theorem dX9_init_109 : decode cX9_init 109 = .ok (.aload_n 0, 1) := by decide +kernel
theorem dX9_init_110 : decode cX9_init 110 = .ok (.getfield 7, 3) := by decide +kernel
theorem dX9_init_113 : decode cX9_init 113 = .ok (.sipush 153, 3) := by decide +kernel
theorem dX9_init_116 : decode cX9_init 116 = .ok (.iconst 1, 1) := by decide +kernel
theorem dX9_init_117 : decode cX9_init 117 = .ok (.iastore, 1) := by decide +kernel
theorem dX9_init_118 : decode cX9_init 118 = .ok (.iconst 0, 1) := by decide +kernel
theorem dX9_init_119 : decode cX9_init 119 = .ok (.istore_n 1, 1) := by decide +kernel
theorem dX9_init_120 : decode cX9_init 120 = .ok (.iload_n 1, 1) := by decide +kernel
theorem dX9_init_121 : decode cX9_init 121 = .ok (.iconst 3, 1) := by decide +kernel
theorem dX9_init_122 : decode cX9_init 122 = .ok (.if_icmp .ge 23, 3) := by decide +kernel
theorem dX9_init_125 : decode cX9_init 125 = .ok (.aload_n 0, 1) := by decide +kernel
theorem dX9_init_126 : decode cX9_init 126 = .ok (.getfield 7, 3) := by decide +kernel
theorem dX9_init_129 : decode cX9_init 129 = .ok (.sipush 154, 3) := by decide +kernel
theorem dX9_init_132 : decode cX9_init 132 = .ok (.bipush 7, 2) := by decide +kernel
theorem dX9_init_134 : decode cX9_init 134 = .ok (.iload_n 1, 1) := by decide +kernel
theorem dX9_init_135 : decode cX9_init 135 = .ok (.imul, 1) := by decide +kernel
theorem dX9_init_136 : decode cX9_init 136 = .ok (.iadd, 1) := by decide +kernel
theorem dX9_init_137 : decode cX9_init 137 = .ok (.iconst 1, 1) := by decide +kernel
theorem dX9_init_138 : decode cX9_init 138 = .ok (.iastore, 1) := by decide +kernel
theorem dX9_init_139 : decode cX9_init 139 = .ok (.iinc 1 1, 3) := by decide +kernel
theorem dX9_init_142 : decode cX9_init 142 = .ok (.goto (-22), 3) := by decide +kernel
theorem dX9_init_145 : decode cX9_init 145 = .ok (.aload_n 0, 1) := by decide +kernel
theorem dX9_init_146 : decode cX9_init 146 = .ok (.iconst 1, 1) := by decide +kernel
theorem dX9_init_147 : decode cX9_init 147 = .ok (.lconst 1, 1) := by decide +kernel
theorem dX9_init_148 : decode cX9_init 148 = .ok (.invokevirtual 36, 3) := by decide +kernel
theorem dX9_init_151 : decode cX9_init 151 = .ok (.return_, 1) := by decide +kernel
theorem dX9_in_0 : decode cX9_in 0 = .ok (.lload_n 0, 1) := by decide +kernel
theorem dX9_in_1 : decode cX9_in 1 = .ok (.lload_n 2, 1) := by decide +kernel
theorem dX9_in_2 : decode cX9_in 2 = .ok (.lcmp, 1) := by decide +kernel
theorem dX9_in_3 : decode cX9_in 3 = .ok (.ifCond .lt 14, 3) := by decide +kernel
theorem dX9_in_6 : decode cX9_in 6 = .ok (.lload_n 0, 1) := by decide +kernel
theorem dX9_in_7 : decode cX9_in 7 = .ok (.lload 4, 2) := by decide +kernel
theorem dX9_in_9 : decode cX9_in 9 = .ok (.lcmp, 1) := by decide +kernel
theorem dX9_in_10 : decode cX9_in 10 = .ok (.ifCond .gt 7, 3) := by decide +kernel
theorem dX9_in_13 : decode cX9_in 13 = .ok (.iconst 1, 1) := by decide +kernel
theorem dX9_in_14 : decode cX9_in 14 = .ok (.goto 4, 3) := by decide +kernel
theorem dX9_in_17 : decode cX9_in 17 = .ok (.iconst 0, 1) := by decide +kernel
theorem dX9_in_18 : decode cX9_in 18 = .ok (.ireturn, 1) := by decide +kernel
theorem dX9_bad_0 : decode cX9_bad 0 = .ok (.aload_n 0, 1) := by decide +kernel
theorem dX9_bad_1 : decode cX9_bad 1 = .ok (.getfield 20, 3) := by decide +kernel
theorem dX9_bad_4 : decode cX9_bad 4 = .ok (.iconst 0, 1) := by decide +kernel
theorem dX9_bad_5 : decode cX9_bad 5 = .ok (.dup2, 1) := by decide +kernel
theorem dX9_bad_6 : decode cX9_bad 6 = .ok (.iaload, 1) := by decide +kernel
theorem dX9_bad_7 : decode cX9_bad 7 = .ok (.iconst 1, 1) := by decide +kernel
theorem dX9_bad_8 : decode cX9_bad 8 = .ok (.iadd, 1) := by decide +kernel
theorem dX9_bad_9 : decode cX9_bad 9 = .ok (.iastore, 1) := by decide +kernel
theorem dX9_bad_10 : decode cX9_bad 10 = .ok (.iload_n 1, 1) := by decide +kernel
theorem dX9_bad_11 : decode cX9_bad 11 = .ok (.ireturn, 1) := by decide +kernel
theorem dX9_no_0 : decode cX9_no 0 = .ok (.aload_n 0, 1) := by decide +kernel
theorem dX9_no_1 : decode cX9_no 1 = .ok (.getfield 20, 3) := by decide +kernel
theorem dX9_no_4 : decode cX9_no 4 = .ok (.iconst 1, 1) := by decide +kernel
theorem dX9_no_5 : decode cX9_no 5 = .ok (.dup2, 1) := by decide +kernel
theorem dX9_no_6 : decode cX9_no 6 = .ok (.iaload, 1) := by decide +kernel
theorem dX9_no_7 : decode cX9_no 7 = .ok (.iconst 1, 1) := by decide +kernel
theorem dX9_no_8 : decode cX9_no 8 = .ok (.iadd, 1) := by decide +kernel
theorem dX9_no_9 : decode cX9_no 9 = .ok (.iastore, 1) := by decide +kernel
theorem dX9_no_10 : decode cX9_no 10 = .ok (.iload_n 1, 1) := by decide +kernel
theorem dX9_no_11 : decode cX9_no 11 = .ok (.ireturn, 1) := by decide +kernel
theorem dX9_full_0 : decode cX9_full 0 = .ok (.aload_n 0, 1) := by decide +kernel
theorem dX9_full_1 : decode cX9_full 1 = .ok (.getfield 20, 3) := by decide +kernel
theorem dX9_full_4 : decode cX9_full 4 = .ok (.iconst 2, 1) := by decide +kernel
theorem dX9_full_5 : decode cX9_full 5 = .ok (.dup2, 1) := by decide +kernel
theorem dX9_full_6 : decode cX9_full 6 = .ok (.iaload, 1) := by decide +kernel
theorem dX9_full_7 : decode cX9_full 7 = .ok (.iconst 1, 1) := by decide +kernel
theorem dX9_full_8 : decode cX9_full 8 = .ok (.iadd, 1) := by decide +kernel
theorem dX9_full_9 : decode cX9_full 9 = .ok (.iastore, 1) := by decide +kernel
theorem dX9_full_10 : decode cX9_full 10 = .ok (.bipush (-4), 2) := by decide +kernel
theorem dX9_full_12 : decode cX9_full 12 = .ok (.ireturn, 1) := by decide +kernel
theorem dX9_set_0 : decode cX9_set 0 = .ok (.lload_n 2, 1) := by decide +kernel
theorem dX9_set_1 : decode cX9_set 1 = .ok (.lstore 4, 2) := by decide +kernel
theorem dX9_set_3 : decode cX9_set 3 = .ok (.aload_n 0, 1) := by decide +kernel
theorem dX9_set_4 : decode cX9_set 4 = .ok (.getfield 27, 3) := by decide +kernel
theorem dX9_set_7 : decode cX9_set 7 = .ok (.iload_n 1, 1) := by decide +kernel
theorem dX9_set_8 : decode cX9_set 8 = .ok (.iconst 0, 1) := by decide +kernel
theorem dX9_set_9 : decode cX9_set 9 = .ok (.iastore, 1) := by decide +kernel
theorem dX9_set_10 : decode cX9_set 10 = .ok (.lload 4, 2) := by decide +kernel
theorem dX9_set_12 : decode cX9_set 12 = .ok (.lconst 0, 1) := by decide +kernel
theorem dX9_set_13 : decode cX9_set 13 = .ok (.lcmp, 1) := by decide +kernel
theorem dX9_set_14 : decode cX9_set 14 = .ok (.ifCond .le 46, 3) := by decide +kernel
theorem dX9_set_17 : decode cX9_set 17 = .ok (.aload_n 0, 1) := by decide +kernel
theorem dX9_set_18 : decode cX9_set 18 = .ok (.getfield 23, 3) := by decide +kernel
theorem dX9_set_21 : decode cX9_set 21 = .ok (.bipush 64, 2) := by decide +kernel
theorem dX9_set_23 : decode cX9_set 23 = .ok (.iload_n 1, 1) := by decide +kernel
theorem dX9_set_24 : decode cX9_set 24 = .ok (.imul, 1) := by decide +kernel
theorem dX9_set_25 : decode cX9_set 25 = .ok (.aload_n 0, 1) := by decide +kernel
theorem dX9_set_26 : decode cX9_set 26 = .ok (.getfield 27, 3) := by decide +kernel
theorem dX9_set_29 : decode cX9_set 29 = .ok (.iload_n 1, 1) := by decide +kernel
theorem dX9_set_30 : decode cX9_set 30 = .ok (.iaload, 1) := by decide +kernel
theorem dX9_set_31 : decode cX9_set 31 = .ok (.iadd, 1) := by decide +kernel
theorem dX9_set_32 : decode cX9_set 32 = .ok (.lload 4, 2) := by decide +kernel
theorem dX9_set_34 : decode cX9_set 34 = .ok (.ldc2_w 40, 3) := by decide +kernel
theorem dX9_set_37 : decode cX9_set 37 = .ok (.lrem, 1) := by decide +kernel
theorem dX9_set_38 : decode cX9_set 38 = .ok (.lastore, 1) := by decide +kernel
theorem dX9_set_39 : decode cX9_set 39 = .ok (.lload 4, 2) := by decide +kernel
theorem dX9_set_41 : decode cX9_set 41 = .ok (.ldc2_w 40, 3) := by decide +kernel
theorem dX9_set_44 : decode cX9_set 44 = .ok (.ldiv, 1) := by decide +kernel
theorem dX9_set_45 : decode cX9_set 45 = .ok (.lstore 4, 2) := by decide +kernel
theorem dX9_set_47 : decode cX9_set 47 = .ok (.aload_n 0, 1) := by decide +kernel
theorem dX9_set_48 : decode cX9_set 48 = .ok (.getfield 27, 3) := by decide +kernel
theorem dX9_set_51 : decode cX9_set 51 = .ok (.iload_n 1, 1) := by decide +kernel
theorem dX9_set_52 : decode cX9_set 52 = .ok (.dup2, 1) := by decide +kernel
theorem dX9_set_53 : decode cX9_set 53 = .ok (.iaload, 1) := by decide +kernel
theorem dX9_set_54 : decode cX9_set 54 = .ok (.iconst 1, 1) := by decide +kernel
theorem dX9_set_55 : decode cX9_set 55 = .ok (.iadd, 1) := by decide +kernel
theorem dX9_set_56 : decode cX9_set 56 = .ok (.iastore, 1) := by decide +kernel
theorem dX9_set_57 : decode cX9_set 57 = .ok (.goto (-47), 3) := by decide +kernel
theorem dX9_set_60 : decode cX9_set 60 = .ok (.return_, 1) := by decide +kernel
theorem dX9_copy_0 : decode cX9_copy 0 = .ok (.iconst 0, 1) := by decide +kernel
theorem dX9_copy_1 : decode cX9_copy 1 = .ok (.istore_n 3, 1) := by decide +kernel
theorem dX9_copy_2 : decode cX9_copy 2 = .ok (.iload_n 3, 1) := by decide +kernel
theorem dX9_copy_3 : decode cX9_copy 3 = .ok (.aload_n 0, 1) := by decide +kernel
theorem dX9_copy_4 : decode cX9_copy 4 = .ok (.getfield 27, 3) := by decide +kernel
theorem dX9_copy_7 : decode cX9_copy 7 = .ok (.iload_n 2, 1) := by decide +kernel
theorem dX9_copy_8 : decode cX9_copy 8 = .ok (.iaload, 1) := by decide +kernel
theorem dX9_copy_9 : decode cX9_copy 9 = .ok (.if_icmp .ge 31, 3) := by decide +kernel
theorem dX9_copy_12 : decode cX9_copy 12 = .ok (.aload_n 0, 1) := by decide +kernel
theorem dX9_copy_13 : decode cX9_copy 13 = .ok (.getfield 23, 3) := by decide +kernel
theorem dX9_copy_16 : decode cX9_copy 16 = .ok (.bipush 64, 2) := by decide +kernel
theorem dX9_copy_18 : decode cX9_copy 18 = .ok (.iload_n 1, 1) := by decide +kernel
theorem dX9_copy_19 : decode cX9_copy 19 = .ok (.imul, 1) := by decide +kernel
theorem dX9_copy_20 : decode cX9_copy 20 = .ok (.iload_n 3, 1) := by decide +kernel
theorem dX9_copy_21 : decode cX9_copy 21 = .ok (.iadd, 1) := by decide +kernel
theorem dX9_copy_22 : decode cX9_copy 22 = .ok (.aload_n 0, 1) := by decide +kernel
theorem dX9_copy_23 : decode cX9_copy 23 = .ok (.getfield 23, 3) := by decide +kernel
theorem dX9_copy_26 : decode cX9_copy 26 = .ok (.bipush 64, 2) := by decide +kernel
theorem dX9_copy_28 : decode cX9_copy 28 = .ok (.iload_n 2, 1) := by decide +kernel
theorem dX9_copy_29 : decode cX9_copy 29 = .ok (.imul, 1) := by decide +kernel
theorem dX9_copy_30 : decode cX9_copy 30 = .ok (.iload_n 3, 1) := by decide +kernel
theorem dX9_copy_31 : decode cX9_copy 31 = .ok (.iadd, 1) := by decide +kernel
theorem dX9_copy_32 : decode cX9_copy 32 = .ok (.laload, 1) := by decide +kernel
theorem dX9_copy_33 : decode cX9_copy 33 = .ok (.lastore, 1) := by decide +kernel
theorem dX9_copy_34 : decode cX9_copy 34 = .ok (.iinc 3 1, 3) := by decide +kernel
theorem dX9_copy_37 : decode cX9_copy 37 = .ok (.goto (-35), 3) := by decide +kernel
theorem dX9_copy_40 : decode cX9_copy 40 = .ok (.aload_n 0, 1) := by decide +kernel
theorem dX9_copy_41 : decode cX9_copy 41 = .ok (.getfield 27, 3) := by decide +kernel
theorem dX9_copy_44 : decode cX9_copy 44 = .ok (.iload_n 1, 1) := by decide +kernel
theorem dX9_copy_45 : decode cX9_copy 45 = .ok (.aload_n 0, 1) := by decide +kernel
theorem dX9_copy_46 : decode cX9_copy 46 = .ok (.getfield 27, 3) := by decide +kernel
theorem dX9_copy_49 : decode cX9_copy 49 = .ok (.iload_n 2, 1) := by decide +kernel
theorem dX9_copy_50 : decode cX9_copy 50 = .ok (.iaload, 1) := by decide +kernel
theorem dX9_copy_51 : decode cX9_copy 51 = .ok (.iastore, 1) := by decide +kernel
theorem dX9_copy_52 : decode cX9_copy 52 = .ok (.return_, 1) := by decide +kernel
theorem dX9_trim_0 : decode cX9_trim 0 = .ok (.aload_n 0, 1) := by decide +kernel
theorem dX9_trim_1 : decode cX9_trim 1 = .ok (.getfield 27, 3) := by decide +kernel
theorem dX9_trim_4 : decode cX9_trim 4 = .ok (.iload_n 1, 1) := by decide +kernel
theorem dX9_trim_5 : decode cX9_trim 5 = .ok (.iaload, 1) := by decide +kernel
theorem dX9_trim_6 : decode cX9_trim 6 = .ok (.ifCond .le 39, 3) := by decide +kernel
theorem dX9_trim_9 : decode cX9_trim 9 = .ok (.aload_n 0, 1) := by decide +kernel
theorem dX9_trim_10 : decode cX9_trim 10 = .ok (.getfield 23, 3) := by decide +kernel
theorem dX9_trim_13 : decode cX9_trim 13 = .ok (.bipush 64, 2) := by decide +kernel
theorem dX9_trim_15 : decode cX9_trim 15 = .ok (.iload_n 1, 1) := by decide +kernel
theorem dX9_trim_16 : decode cX9_trim 16 = .ok (.imul, 1) := by decide +kernel
theorem dX9_trim_17 : decode cX9_trim 17 = .ok (.aload_n 0, 1) := by decide +kernel
theorem dX9_trim_18 : decode cX9_trim 18 = .ok (.getfield 27, 3) := by decide +kernel
theorem dX9_trim_21 : decode cX9_trim 21 = .ok (.iload_n 1, 1) := by decide +kernel
theorem dX9_trim_22 : decode cX9_trim 22 = .ok (.iaload, 1) := by decide +kernel
theorem dX9_trim_23 : decode cX9_trim 23 = .ok (.iadd, 1) := by decide +kernel
theorem dX9_trim_24 : decode cX9_trim 24 = .ok (.iconst 1, 1) := by decide +kernel
theorem dX9_trim_25 : decode cX9_trim 25 = .ok (.isub, 1) := by decide +kernel
theorem dX9_trim_26 : decode cX9_trim 26 = .ok (.laload, 1) := by decide +kernel
theorem dX9_trim_27 : decode cX9_trim 27 = .ok (.lconst 0, 1) := by decide +kernel
theorem dX9_trim_28 : decode cX9_trim 28 = .ok (.lcmp, 1) := by decide +kernel
theorem dX9_trim_29 : decode cX9_trim 29 = .ok (.ifCond .ne 16, 3) := by decide +kernel
theorem dX9_trim_32 : decode cX9_trim 32 = .ok (.aload_n 0, 1) := by decide +kernel
theorem dX9_trim_33 : decode cX9_trim 33 = .ok (.getfield 27, 3) := by decide +kernel
theorem dX9_trim_36 : decode cX9_trim 36 = .ok (.iload_n 1, 1) := by decide +kernel
theorem dX9_trim_37 : decode cX9_trim 37 = .ok (.dup2, 1) := by decide +kernel
theorem dX9_trim_38 : decode cX9_trim 38 = .ok (.iaload, 1) := by decide +kernel
theorem dX9_trim_39 : decode cX9_trim 39 = .ok (.iconst 1, 1) := by decide +kernel
theorem dX9_trim_40 : decode cX9_trim 40 = .ok (.isub, 1) := by decide +kernel
theorem dX9_trim_41 : decode cX9_trim 41 = .ok (.iastore, 1) := by decide +kernel
theorem dX9_trim_42 : decode cX9_trim 42 = .ok (.goto (-42), 3) := by decide +kernel
theorem dX9_trim_45 : decode cX9_trim 45 = .ok (.return_, 1) := by decide +kernel
theorem dX9_times_0 : decode cX9_times 0 = .ok (.lconst 0, 1) := by decide +kernel
theorem dX9_times_1 : decode cX9_times 1 = .ok (.lstore 4, 2) := by decide +kernel
theorem dX9_times_3 : decode cX9_times 3 = .ok (.iconst 0, 1) := by decide +kernel
theorem dX9_times_4 : decode cX9_times 4 = .ok (.istore 6, 2) := by decide +kernel
theorem dX9_times_6 : decode cX9_times 6 = .ok (.iload 6, 2) := by decide +kernel
theorem dX9_times_8 : decode cX9_times 8 = .ok (.aload_n 0, 1) := by decide +kernel
theorem dX9_times_9 : decode cX9_times 9 = .ok (.getfield 27, 3) := by decide +kernel
theorem dX9_times_12 : decode cX9_times 12 = .ok (.iload_n 1, 1) := by decide +kernel
theorem dX9_times_13 : decode cX9_times 13 = .ok (.iaload, 1) := by decide +kernel
theorem dX9_times_14 : decode cX9_times 14 = .ok (.if_icmp .ge 54, 3) := by decide +kernel
theorem dX9_times_17 : decode cX9_times 17 = .ok (.aload_n 0, 1) := by decide +kernel
theorem dX9_times_18 : decode cX9_times 18 = .ok (.getfield 23, 3) := by decide +kernel
theorem dX9_times_21 : decode cX9_times 21 = .ok (.bipush 64, 2) := by decide +kernel
theorem dX9_times_23 : decode cX9_times 23 = .ok (.iload_n 1, 1) := by decide +kernel
theorem dX9_times_24 : decode cX9_times 24 = .ok (.imul, 1) := by decide +kernel
theorem dX9_times_25 : decode cX9_times 25 = .ok (.iload 6, 2) := by decide +kernel
theorem dX9_times_27 : decode cX9_times 27 = .ok (.iadd, 1) := by decide +kernel
theorem dX9_times_28 : decode cX9_times 28 = .ok (.laload, 1) := by decide +kernel
theorem dX9_times_29 : decode cX9_times 29 = .ok (.lload_n 2, 1) := by decide +kernel
theorem dX9_times_30 : decode cX9_times 30 = .ok (.lmul, 1) := by decide +kernel
theorem dX9_times_31 : decode cX9_times 31 = .ok (.lload 4, 2) := by decide +kernel
theorem dX9_times_33 : decode cX9_times 33 = .ok (.ladd, 1) := by decide +kernel
theorem dX9_times_34 : decode cX9_times 34 = .ok (.lstore 7, 2) := by decide +kernel
theorem dX9_times_36 : decode cX9_times 36 = .ok (.aload_n 0, 1) := by decide +kernel
theorem dX9_times_37 : decode cX9_times 37 = .ok (.getfield 23, 3) := by decide +kernel
theorem dX9_times_40 : decode cX9_times 40 = .ok (.bipush 64, 2) := by decide +kernel
theorem dX9_times_42 : decode cX9_times 42 = .ok (.iload_n 1, 1) := by decide +kernel
theorem dX9_times_43 : decode cX9_times 43 = .ok (.imul, 1) := by decide +kernel
theorem dX9_times_44 : decode cX9_times 44 = .ok (.iload 6, 2) := by decide +kernel
theorem dX9_times_46 : decode cX9_times 46 = .ok (.iadd, 1) := by decide +kernel
theorem dX9_times_47 : decode cX9_times 47 = .ok (.lload 7, 2) := by decide +kernel
theorem dX9_times_49 : decode cX9_times 49 = .ok (.ldc2_w 40, 3) := by decide +kernel
theorem dX9_times_52 : decode cX9_times 52 = .ok (.lrem, 1) := by decide +kernel
theorem dX9_times_53 : decode cX9_times 53 = .ok (.lastore, 1) := by decide +kernel
theorem dX9_times_54 : decode cX9_times 54 = .ok (.lload 7, 2) := by decide +kernel
theorem dX9_times_56 : decode cX9_times 56 = .ok (.ldc2_w 40, 3) := by decide +kernel
theorem dX9_times_59 : decode cX9_times 59 = .ok (.ldiv, 1) := by decide +kernel
theorem dX9_times_60 : decode cX9_times 60 = .ok (.lstore 4, 2) := by decide +kernel
theorem dX9_times_62 : decode cX9_times 62 = .ok (.iinc 6 1, 3) := by decide +kernel
theorem dX9_times_65 : decode cX9_times 65 = .ok (.goto (-59), 3) := by decide +kernel
theorem dX9_times_68 : decode cX9_times 68 = .ok (.lload 4, 2) := by decide +kernel
theorem dX9_times_70 : decode cX9_times 70 = .ok (.lconst 0, 1) := by decide +kernel
theorem dX9_times_71 : decode cX9_times 71 = .ok (.lcmp, 1) := by decide +kernel
theorem dX9_times_72 : decode cX9_times 72 = .ok (.ifCond .le 31, 3) := by decide +kernel
theorem dX9_times_75 : decode cX9_times 75 = .ok (.aload_n 0, 1) := by decide +kernel
theorem dX9_times_76 : decode cX9_times 76 = .ok (.getfield 23, 3) := by decide +kernel
theorem dX9_times_79 : decode cX9_times 79 = .ok (.bipush 64, 2) := by decide +kernel
theorem dX9_times_81 : decode cX9_times 81 = .ok (.iload_n 1, 1) := by decide +kernel
theorem dX9_times_82 : decode cX9_times 82 = .ok (.imul, 1) := by decide +kernel
theorem dX9_times_83 : decode cX9_times 83 = .ok (.aload_n 0, 1) := by decide +kernel
theorem dX9_times_84 : decode cX9_times 84 = .ok (.getfield 27, 3) := by decide +kernel
theorem dX9_times_87 : decode cX9_times 87 = .ok (.iload_n 1, 1) := by decide +kernel
theorem dX9_times_88 : decode cX9_times 88 = .ok (.iaload, 1) := by decide +kernel
theorem dX9_times_89 : decode cX9_times 89 = .ok (.iadd, 1) := by decide +kernel
theorem dX9_times_90 : decode cX9_times 90 = .ok (.lload 4, 2) := by decide +kernel
theorem dX9_times_92 : decode cX9_times 92 = .ok (.lastore, 1) := by decide +kernel
theorem dX9_times_93 : decode cX9_times 93 = .ok (.aload_n 0, 1) := by decide +kernel
theorem dX9_times_94 : decode cX9_times 94 = .ok (.getfield 27, 3) := by decide +kernel
theorem dX9_times_97 : decode cX9_times 97 = .ok (.iload_n 1, 1) := by decide +kernel
theorem dX9_times_98 : decode cX9_times 98 = .ok (.dup2, 1) := by decide +kernel
theorem dX9_times_99 : decode cX9_times 99 = .ok (.iaload, 1) := by decide +kernel
theorem dX9_times_100 : decode cX9_times 100 = .ok (.iconst 1, 1) := by decide +kernel
theorem dX9_times_101 : decode cX9_times 101 = .ok (.iadd, 1) := by decide +kernel
theorem dX9_times_102 : decode cX9_times 102 = .ok (.iastore, 1) := by decide +kernel
theorem dX9_times_103 : decode cX9_times 103 = .ok (.aload_n 0, 1) := by decide +kernel
theorem dX9_times_104 : decode cX9_times 104 = .ok (.iload_n 1, 1) := by decide +kernel
theorem dX9_times_105 : decode cX9_times 105 = .ok (.invokevirtual 42, 3) := by decide +kernel
theorem dX9_times_108 : decode cX9_times 108 = .ok (.return_, 1) := by decide +kernel
theorem dX9_compare_0 : decode cX9_compare 0 = .ok (.aload_n 0, 1) := by decide +kernel
theorem dX9_compare_1 : decode cX9_compare 1 = .ok (.getfield 27, 3) := by decide +kernel
theorem dX9_compare_4 : decode cX9_compare 4 = .ok (.iload_n 1, 1) := by decide +kernel
theorem dX9_compare_5 : decode cX9_compare 5 = .ok (.iaload, 1) := by decide +kernel
theorem dX9_compare_6 : decode cX9_compare 6 = .ok (.aload_n 0, 1) := by decide +kernel
theorem dX9_compare_7 : decode cX9_compare 7 = .ok (.getfield 27, 3) := by decide +kernel
theorem dX9_compare_10 : decode cX9_compare 10 = .ok (.iload_n 2, 1) := by decide +kernel
theorem dX9_compare_11 : decode cX9_compare 11 = .ok (.iaload, 1) := by decide +kernel
theorem dX9_compare_12 : decode cX9_compare 12 = .ok (.if_icmp .eq 24, 3) := by decide +kernel
theorem dX9_compare_15 : decode cX9_compare 15 = .ok (.aload_n 0, 1) := by decide +kernel
theorem dX9_compare_16 : decode cX9_compare 16 = .ok (.getfield 27, 3) := by decide +kernel
theorem dX9_compare_19 : decode cX9_compare 19 = .ok (.iload_n 1, 1) := by decide +kernel
theorem dX9_compare_20 : decode cX9_compare 20 = .ok (.iaload, 1) := by decide +kernel
theorem dX9_compare_21 : decode cX9_compare 21 = .ok (.aload_n 0, 1) := by decide +kernel
theorem dX9_compare_22 : decode cX9_compare 22 = .ok (.getfield 27, 3) := by decide +kernel
theorem dX9_compare_25 : decode cX9_compare 25 = .ok (.iload_n 2, 1) := by decide +kernel
theorem dX9_compare_26 : decode cX9_compare 26 = .ok (.iaload, 1) := by decide +kernel
theorem dX9_compare_27 : decode cX9_compare 27 = .ok (.if_icmp .ge 7, 3) := by decide +kernel
theorem dX9_compare_30 : decode cX9_compare 30 = .ok (.iconst (-1), 1) := by decide +kernel
theorem dX9_compare_31 : decode cX9_compare 31 = .ok (.goto 4, 3) := by decide +kernel
theorem dX9_compare_34 : decode cX9_compare 34 = .ok (.iconst 1, 1) := by decide +kernel
theorem dX9_compare_35 : decode cX9_compare 35 = .ok (.ireturn, 1) := by decide +kernel
theorem dX9_compare_36 : decode cX9_compare 36 = .ok (.aload_n 0, 1) := by decide +kernel
theorem dX9_compare_37 : decode cX9_compare 37 = .ok (.getfield 27, 3) := by decide +kernel
theorem dX9_compare_40 : decode cX9_compare 40 = .ok (.iload_n 1, 1) := by decide +kernel
theorem dX9_compare_41 : decode cX9_compare 41 = .ok (.iaload, 1) := by decide +kernel
theorem dX9_compare_42 : decode cX9_compare 42 = .ok (.iconst 1, 1) := by decide +kernel
theorem dX9_compare_43 : decode cX9_compare 43 = .ok (.isub, 1) := by decide +kernel
theorem dX9_compare_44 : decode cX9_compare 44 = .ok (.istore_n 3, 1) := by decide +kernel
theorem dX9_compare_45 : decode cX9_compare 45 = .ok (.iload_n 3, 1) := by decide +kernel
theorem dX9_compare_46 : decode cX9_compare 46 = .ok (.ifCond .lt 54, 3) := by decide +kernel
theorem dX9_compare_49 : decode cX9_compare 49 = .ok (.aload_n 0, 1) := by decide +kernel
theorem dX9_compare_50 : decode cX9_compare 50 = .ok (.getfield 23, 3) := by decide +kernel
theorem dX9_compare_53 : decode cX9_compare 53 = .ok (.bipush 64, 2) := by decide +kernel
theorem dX9_compare_55 : decode cX9_compare 55 = .ok (.iload_n 1, 1) := by decide +kernel
theorem dX9_compare_56 : decode cX9_compare 56 = .ok (.imul, 1) := by decide +kernel
theorem dX9_compare_57 : decode cX9_compare 57 = .ok (.iload_n 3, 1) := by decide +kernel
theorem dX9_compare_58 : decode cX9_compare 58 = .ok (.iadd, 1) := by decide +kernel
theorem dX9_compare_59 : decode cX9_compare 59 = .ok (.laload, 1) := by decide +kernel
theorem dX9_compare_60 : decode cX9_compare 60 = .ok (.aload_n 0, 1) := by decide +kernel
theorem dX9_compare_61 : decode cX9_compare 61 = .ok (.getfield 23, 3) := by decide +kernel
theorem dX9_compare_64 : decode cX9_compare 64 = .ok (.bipush 64, 2) := by decide +kernel
theorem dX9_compare_66 : decode cX9_compare 66 = .ok (.iload_n 2, 1) := by decide +kernel
theorem dX9_compare_67 : decode cX9_compare 67 = .ok (.imul, 1) := by decide +kernel
theorem dX9_compare_68 : decode cX9_compare 68 = .ok (.iload_n 3, 1) := by decide +kernel
theorem dX9_compare_69 : decode cX9_compare 69 = .ok (.iadd, 1) := by decide +kernel
theorem dX9_compare_70 : decode cX9_compare 70 = .ok (.laload, 1) := by decide +kernel
theorem dX9_compare_71 : decode cX9_compare 71 = .ok (.lsub, 1) := by decide +kernel
theorem dX9_compare_72 : decode cX9_compare 72 = .ok (.lstore 4, 2) := by decide +kernel
theorem dX9_compare_74 : decode cX9_compare 74 = .ok (.lload 4, 2) := by decide +kernel
theorem dX9_compare_76 : decode cX9_compare 76 = .ok (.lconst 0, 1) := by decide +kernel
theorem dX9_compare_77 : decode cX9_compare 77 = .ok (.lcmp, 1) := by decide +kernel
theorem dX9_compare_78 : decode cX9_compare 78 = .ok (.ifCond .eq 16, 3) := by decide +kernel
theorem dX9_compare_81 : decode cX9_compare 81 = .ok (.lload 4, 2) := by decide +kernel
theorem dX9_compare_83 : decode cX9_compare 83 = .ok (.lconst 0, 1) := by decide +kernel
theorem dX9_compare_84 : decode cX9_compare 84 = .ok (.lcmp, 1) := by decide +kernel
theorem dX9_compare_85 : decode cX9_compare 85 = .ok (.ifCond .ge 7, 3) := by decide +kernel
theorem dX9_compare_88 : decode cX9_compare 88 = .ok (.iconst (-1), 1) := by decide +kernel
theorem dX9_compare_89 : decode cX9_compare 89 = .ok (.goto 4, 3) := by decide +kernel
theorem dX9_compare_92 : decode cX9_compare 92 = .ok (.iconst 1, 1) := by decide +kernel
theorem dX9_compare_93 : decode cX9_compare 93 = .ok (.ireturn, 1) := by decide +kernel
theorem dX9_compare_94 : decode cX9_compare 94 = .ok (.iinc 3 (-1), 3) := by decide +kernel
theorem dX9_compare_97 : decode cX9_compare 97 = .ok (.goto (-52), 3) := by decide +kernel
theorem dX9_compare_100 : decode cX9_compare 100 = .ok (.iconst 0, 1) := by decide +kernel
theorem dX9_compare_101 : decode cX9_compare 101 = .ok (.ireturn, 1) := by decide +kernel
theorem dX9_add_0 : decode cX9_add 0 = .ok (.lconst 0, 1) := by decide +kernel
theorem dX9_add_1 : decode cX9_add 1 = .ok (.lstore_n 3, 1) := by decide +kernel
theorem dX9_add_2 : decode cX9_add 2 = .ok (.aload_n 0, 1) := by decide +kernel
theorem dX9_add_3 : decode cX9_add 3 = .ok (.getfield 27, 3) := by decide +kernel
theorem dX9_add_6 : decode cX9_add 6 = .ok (.iload_n 1, 1) := by decide +kernel
theorem dX9_add_7 : decode cX9_add 7 = .ok (.iaload, 1) := by decide +kernel
theorem dX9_add_8 : decode cX9_add 8 = .ok (.aload_n 0, 1) := by decide +kernel
theorem dX9_add_9 : decode cX9_add 9 = .ok (.getfield 27, 3) := by decide +kernel
theorem dX9_add_12 : decode cX9_add 12 = .ok (.iload_n 2, 1) := by decide +kernel
theorem dX9_add_13 : decode cX9_add 13 = .ok (.iaload, 1) := by decide +kernel
theorem dX9_add_14 : decode cX9_add 14 = .ok (.if_icmp .le 12, 3) := by decide +kernel
theorem dX9_add_17 : decode cX9_add 17 = .ok (.aload_n 0, 1) := by decide +kernel
theorem dX9_add_18 : decode cX9_add 18 = .ok (.getfield 27, 3) := by decide +kernel
theorem dX9_add_21 : decode cX9_add 21 = .ok (.iload_n 1, 1) := by decide +kernel
theorem dX9_add_22 : decode cX9_add 22 = .ok (.iaload, 1) := by decide +kernel
theorem dX9_add_23 : decode cX9_add 23 = .ok (.goto 9, 3) := by decide +kernel
theorem dX9_add_26 : decode cX9_add 26 = .ok (.aload_n 0, 1) := by decide +kernel
theorem dX9_add_27 : decode cX9_add 27 = .ok (.getfield 27, 3) := by decide +kernel
theorem dX9_add_30 : decode cX9_add 30 = .ok (.iload_n 2, 1) := by decide +kernel
theorem dX9_add_31 : decode cX9_add 31 = .ok (.iaload, 1) := by decide +kernel
theorem dX9_add_32 : decode cX9_add 32 = .ok (.istore 5, 2) := by decide +kernel
theorem dX9_add_34 : decode cX9_add 34 = .ok (.iconst 0, 1) := by decide +kernel
theorem dX9_add_35 : decode cX9_add 35 = .ok (.istore 6, 2) := by decide +kernel
theorem dX9_add_37 : decode cX9_add 37 = .ok (.iload 6, 2) := by decide +kernel
theorem dX9_add_39 : decode cX9_add 39 = .ok (.iload 5, 2) := by decide +kernel
theorem dX9_add_41 : decode cX9_add 41 = .ok (.if_icmp .ge 93, 3) := by decide +kernel
theorem dX9_add_44 : decode cX9_add 44 = .ok (.iload 6, 2) := by decide +kernel
theorem dX9_add_46 : decode cX9_add 46 = .ok (.aload_n 0, 1) := by decide +kernel
theorem dX9_add_47 : decode cX9_add 47 = .ok (.getfield 27, 3) := by decide +kernel
theorem dX9_add_50 : decode cX9_add 50 = .ok (.iload_n 1, 1) := by decide +kernel
theorem dX9_add_51 : decode cX9_add 51 = .ok (.iaload, 1) := by decide +kernel
theorem dX9_add_52 : decode cX9_add 52 = .ok (.if_icmp .ge 18, 3) := by decide +kernel
theorem dX9_add_55 : decode cX9_add 55 = .ok (.aload_n 0, 1) := by decide +kernel
theorem dX9_add_56 : decode cX9_add 56 = .ok (.getfield 23, 3) := by decide +kernel
theorem dX9_add_59 : decode cX9_add 59 = .ok (.bipush 64, 2) := by decide +kernel
theorem dX9_add_61 : decode cX9_add 61 = .ok (.iload_n 1, 1) := by decide +kernel
theorem dX9_add_62 : decode cX9_add 62 = .ok (.imul, 1) := by decide +kernel
theorem dX9_add_63 : decode cX9_add 63 = .ok (.iload 6, 2) := by decide +kernel
theorem dX9_add_65 : decode cX9_add 65 = .ok (.iadd, 1) := by decide +kernel
theorem dX9_add_66 : decode cX9_add 66 = .ok (.laload, 1) := by decide +kernel
theorem dX9_add_67 : decode cX9_add 67 = .ok (.goto 4, 3) := by decide +kernel
theorem dX9_add_70 : decode cX9_add 70 = .ok (.lconst 0, 1) := by decide +kernel
theorem dX9_add_71 : decode cX9_add 71 = .ok (.iload 6, 2) := by decide +kernel
theorem dX9_add_73 : decode cX9_add 73 = .ok (.aload_n 0, 1) := by decide +kernel
theorem dX9_add_74 : decode cX9_add 74 = .ok (.getfield 27, 3) := by decide +kernel
theorem dX9_add_77 : decode cX9_add 77 = .ok (.iload_n 2, 1) := by decide +kernel
theorem dX9_add_78 : decode cX9_add 78 = .ok (.iaload, 1) := by decide +kernel
theorem dX9_add_79 : decode cX9_add 79 = .ok (.if_icmp .ge 18, 3) := by decide +kernel
theorem dX9_add_82 : decode cX9_add 82 = .ok (.aload_n 0, 1) := by decide +kernel
theorem dX9_add_83 : decode cX9_add 83 = .ok (.getfield 23, 3) := by decide +kernel
theorem dX9_add_86 : decode cX9_add 86 = .ok (.bipush 64, 2) := by decide +kernel
theorem dX9_add_88 : decode cX9_add 88 = .ok (.iload_n 2, 1) := by decide +kernel
theorem dX9_add_89 : decode cX9_add 89 = .ok (.imul, 1) := by decide +kernel
theorem dX9_add_90 : decode cX9_add 90 = .ok (.iload 6, 2) := by decide +kernel
theorem dX9_add_92 : decode cX9_add 92 = .ok (.iadd, 1) := by decide +kernel
theorem dX9_add_93 : decode cX9_add 93 = .ok (.laload, 1) := by decide +kernel
theorem dX9_add_94 : decode cX9_add 94 = .ok (.goto 4, 3) := by decide +kernel
theorem dX9_add_97 : decode cX9_add 97 = .ok (.lconst 0, 1) := by decide +kernel
theorem dX9_add_98 : decode cX9_add 98 = .ok (.ladd, 1) := by decide +kernel
theorem dX9_add_99 : decode cX9_add 99 = .ok (.lload_n 3, 1) := by decide +kernel
theorem dX9_add_100 : decode cX9_add 100 = .ok (.ladd, 1) := by decide +kernel
theorem dX9_add_101 : decode cX9_add 101 = .ok (.lstore 7, 2) := by decide +kernel
theorem dX9_add_103 : decode cX9_add 103 = .ok (.aload_n 0, 1) := by decide +kernel
theorem dX9_add_104 : decode cX9_add 104 = .ok (.getfield 23, 3) := by decide +kernel
theorem dX9_add_107 : decode cX9_add 107 = .ok (.bipush 64, 2) := by decide +kernel
theorem dX9_add_109 : decode cX9_add 109 = .ok (.iload_n 1, 1) := by decide +kernel
theorem dX9_add_110 : decode cX9_add 110 = .ok (.imul, 1) := by decide +kernel
theorem dX9_add_111 : decode cX9_add 111 = .ok (.iload 6, 2) := by decide +kernel
theorem dX9_add_113 : decode cX9_add 113 = .ok (.iadd, 1) := by decide +kernel
theorem dX9_add_114 : decode cX9_add 114 = .ok (.lload 7, 2) := by decide +kernel
theorem dX9_add_116 : decode cX9_add 116 = .ok (.ldc2_w 40, 3) := by decide +kernel
theorem dX9_add_119 : decode cX9_add 119 = .ok (.lrem, 1) := by decide +kernel
theorem dX9_add_120 : decode cX9_add 120 = .ok (.lastore, 1) := by decide +kernel
theorem dX9_add_121 : decode cX9_add 121 = .ok (.lload 7, 2) := by decide +kernel
theorem dX9_add_123 : decode cX9_add 123 = .ok (.ldc2_w 40, 3) := by decide +kernel
theorem dX9_add_126 : decode cX9_add 126 = .ok (.ldiv, 1) := by decide +kernel
theorem dX9_add_127 : decode cX9_add 127 = .ok (.lstore_n 3, 1) := by decide +kernel
theorem dX9_add_128 : decode cX9_add 128 = .ok (.iinc 6 1, 3) := by decide +kernel
theorem dX9_add_131 : decode cX9_add 131 = .ok (.goto (-94), 3) := by decide +kernel
theorem dX9_add_134 : decode cX9_add 134 = .ok (.aload_n 0, 1) := by decide +kernel
theorem dX9_add_135 : decode cX9_add 135 = .ok (.getfield 23, 3) := by decide +kernel
theorem dX9_add_138 : decode cX9_add 138 = .ok (.bipush 64, 2) := by decide +kernel
theorem dX9_add_140 : decode cX9_add 140 = .ok (.iload_n 1, 1) := by decide +kernel
theorem dX9_add_141 : decode cX9_add 141 = .ok (.imul, 1) := by decide +kernel
theorem dX9_add_142 : decode cX9_add 142 = .ok (.iload 5, 2) := by decide +kernel
theorem dX9_add_144 : decode cX9_add 144 = .ok (.iadd, 1) := by decide +kernel
theorem dX9_add_145 : decode cX9_add 145 = .ok (.lload_n 3, 1) := by decide +kernel
theorem dX9_add_146 : decode cX9_add 146 = .ok (.lastore, 1) := by decide +kernel
theorem dX9_add_147 : decode cX9_add 147 = .ok (.aload_n 0, 1) := by decide +kernel
theorem dX9_add_148 : decode cX9_add 148 = .ok (.getfield 27, 3) := by decide +kernel
theorem dX9_add_151 : decode cX9_add 151 = .ok (.iload_n 1, 1) := by decide +kernel
theorem dX9_add_152 : decode cX9_add 152 = .ok (.iload 5, 2) := by decide +kernel
theorem dX9_add_154 : decode cX9_add 154 = .ok (.iconst 1, 1) := by decide +kernel
theorem dX9_add_155 : decode cX9_add 155 = .ok (.iadd, 1) := by decide +kernel
theorem dX9_add_156 : decode cX9_add 156 = .ok (.iastore, 1) := by decide +kernel
theorem dX9_add_157 : decode cX9_add 157 = .ok (.aload_n 0, 1) := by decide +kernel
theorem dX9_add_158 : decode cX9_add 158 = .ok (.iload_n 1, 1) := by decide +kernel
theorem dX9_add_159 : decode cX9_add 159 = .ok (.invokevirtual 42, 3) := by decide +kernel
theorem dX9_add_162 : decode cX9_add 162 = .ok (.return_, 1) := by decide +kernel
theorem dX9_take_0 : decode cX9_take 0 = .ok (.lconst 0, 1) := by decide +kernel
theorem dX9_take_1 : decode cX9_take 1 = .ok (.lstore_n 3, 1) := by decide +kernel
theorem dX9_take_2 : decode cX9_take 2 = .ok (.iconst 0, 1) := by decide +kernel
theorem dX9_take_3 : decode cX9_take 3 = .ok (.istore 5, 2) := by decide +kernel
theorem dX9_take_5 : decode cX9_take 5 = .ok (.iload 5, 2) := by decide +kernel
theorem dX9_take_7 : decode cX9_take 7 = .ok (.aload_n 0, 1) := by decide +kernel
theorem dX9_take_8 : decode cX9_take 8 = .ok (.getfield 27, 3) := by decide +kernel
theorem dX9_take_11 : decode cX9_take 11 = .ok (.iload_n 1, 1) := by decide +kernel
theorem dX9_take_12 : decode cX9_take 12 = .ok (.iaload, 1) := by decide +kernel
theorem dX9_take_13 : decode cX9_take 13 = .ok (.if_icmp .ge 86, 3) := by decide +kernel
theorem dX9_take_16 : decode cX9_take 16 = .ok (.aload_n 0, 1) := by decide +kernel
theorem dX9_take_17 : decode cX9_take 17 = .ok (.getfield 23, 3) := by decide +kernel
theorem dX9_take_20 : decode cX9_take 20 = .ok (.bipush 64, 2) := by decide +kernel
theorem dX9_take_22 : decode cX9_take 22 = .ok (.iload_n 1, 1) := by decide +kernel
theorem dX9_take_23 : decode cX9_take 23 = .ok (.imul, 1) := by decide +kernel
theorem dX9_take_24 : decode cX9_take 24 = .ok (.iload 5, 2) := by decide +kernel
theorem dX9_take_26 : decode cX9_take 26 = .ok (.iadd, 1) := by decide +kernel
theorem dX9_take_27 : decode cX9_take 27 = .ok (.laload, 1) := by decide +kernel
theorem dX9_take_28 : decode cX9_take 28 = .ok (.iload 5, 2) := by decide +kernel
theorem dX9_take_30 : decode cX9_take 30 = .ok (.aload_n 0, 1) := by decide +kernel
theorem dX9_take_31 : decode cX9_take 31 = .ok (.getfield 27, 3) := by decide +kernel
theorem dX9_take_34 : decode cX9_take 34 = .ok (.iload_n 2, 1) := by decide +kernel
theorem dX9_take_35 : decode cX9_take 35 = .ok (.iaload, 1) := by decide +kernel
theorem dX9_take_36 : decode cX9_take 36 = .ok (.if_icmp .ge 18, 3) := by decide +kernel
theorem dX9_take_39 : decode cX9_take 39 = .ok (.aload_n 0, 1) := by decide +kernel
theorem dX9_take_40 : decode cX9_take 40 = .ok (.getfield 23, 3) := by decide +kernel
theorem dX9_take_43 : decode cX9_take 43 = .ok (.bipush 64, 2) := by decide +kernel
theorem dX9_take_45 : decode cX9_take 45 = .ok (.iload_n 2, 1) := by decide +kernel
theorem dX9_take_46 : decode cX9_take 46 = .ok (.imul, 1) := by decide +kernel
theorem dX9_take_47 : decode cX9_take 47 = .ok (.iload 5, 2) := by decide +kernel
theorem dX9_take_49 : decode cX9_take 49 = .ok (.iadd, 1) := by decide +kernel
theorem dX9_take_50 : decode cX9_take 50 = .ok (.laload, 1) := by decide +kernel
theorem dX9_take_51 : decode cX9_take 51 = .ok (.goto 4, 3) := by decide +kernel
theorem dX9_take_54 : decode cX9_take 54 = .ok (.lconst 0, 1) := by decide +kernel
theorem dX9_take_55 : decode cX9_take 55 = .ok (.lsub, 1) := by decide +kernel
theorem dX9_take_56 : decode cX9_take 56 = .ok (.lload_n 3, 1) := by decide +kernel
theorem dX9_take_57 : decode cX9_take 57 = .ok (.lsub, 1) := by decide +kernel
theorem dX9_take_58 : decode cX9_take 58 = .ok (.lstore 6, 2) := by decide +kernel
theorem dX9_take_60 : decode cX9_take 60 = .ok (.lload 6, 2) := by decide +kernel
theorem dX9_take_62 : decode cX9_take 62 = .ok (.lconst 0, 1) := by decide +kernel
theorem dX9_take_63 : decode cX9_take 63 = .ok (.lcmp, 1) := by decide +kernel
theorem dX9_take_64 : decode cX9_take 64 = .ok (.ifCond .ge 7, 3) := by decide +kernel
theorem dX9_take_67 : decode cX9_take 67 = .ok (.lconst 1, 1) := by decide +kernel
theorem dX9_take_68 : decode cX9_take 68 = .ok (.goto 4, 3) := by decide +kernel
theorem dX9_take_71 : decode cX9_take 71 = .ok (.lconst 0, 1) := by decide +kernel
theorem dX9_take_72 : decode cX9_take 72 = .ok (.lstore_n 3, 1) := by decide +kernel
theorem dX9_take_73 : decode cX9_take 73 = .ok (.aload_n 0, 1) := by decide +kernel
theorem dX9_take_74 : decode cX9_take 74 = .ok (.getfield 23, 3) := by decide +kernel
theorem dX9_take_77 : decode cX9_take 77 = .ok (.bipush 64, 2) := by decide +kernel
theorem dX9_take_79 : decode cX9_take 79 = .ok (.iload_n 1, 1) := by decide +kernel
theorem dX9_take_80 : decode cX9_take 80 = .ok (.imul, 1) := by decide +kernel
theorem dX9_take_81 : decode cX9_take 81 = .ok (.iload 5, 2) := by decide +kernel
theorem dX9_take_83 : decode cX9_take 83 = .ok (.iadd, 1) := by decide +kernel
theorem dX9_take_84 : decode cX9_take 84 = .ok (.lload 6, 2) := by decide +kernel
theorem dX9_take_86 : decode cX9_take 86 = .ok (.lload_n 3, 1) := by decide +kernel
theorem dX9_take_87 : decode cX9_take 87 = .ok (.ldc2_w 40, 3) := by decide +kernel
theorem dX9_take_90 : decode cX9_take 90 = .ok (.lmul, 1) := by decide +kernel
theorem dX9_take_91 : decode cX9_take 91 = .ok (.ladd, 1) := by decide +kernel
theorem dX9_take_92 : decode cX9_take 92 = .ok (.lastore, 1) := by decide +kernel
theorem dX9_take_93 : decode cX9_take 93 = .ok (.iinc 5 1, 3) := by decide +kernel
theorem dX9_take_96 : decode cX9_take 96 = .ok (.goto (-91), 3) := by decide +kernel
theorem dX9_take_99 : decode cX9_take 99 = .ok (.aload_n 0, 1) := by decide +kernel
theorem dX9_take_100 : decode cX9_take 100 = .ok (.iload_n 1, 1) := by decide +kernel
theorem dX9_take_101 : decode cX9_take 101 = .ok (.invokevirtual 42, 3) := by decide +kernel
theorem dX9_take_104 : decode cX9_take 104 = .ok (.return_, 1) := by decide +kernel
theorem dX9_halve_0 : decode cX9_halve 0 = .ok (.lconst 0, 1) := by decide +kernel
theorem dX9_halve_1 : decode cX9_halve 1 = .ok (.lstore_n 2, 1) := by decide +kernel
theorem dX9_halve_2 : decode cX9_halve 2 = .ok (.aload_n 0, 1) := by decide +kernel
theorem dX9_halve_3 : decode cX9_halve 3 = .ok (.getfield 27, 3) := by decide +kernel
theorem dX9_halve_6 : decode cX9_halve 6 = .ok (.iload_n 1, 1) := by decide +kernel
theorem dX9_halve_7 : decode cX9_halve 7 = .ok (.iaload, 1) := by decide +kernel
theorem dX9_halve_8 : decode cX9_halve 8 = .ok (.iconst 1, 1) := by decide +kernel
theorem dX9_halve_9 : decode cX9_halve 9 = .ok (.isub, 1) := by decide +kernel
theorem dX9_halve_10 : decode cX9_halve 10 = .ok (.istore 4, 2) := by decide +kernel
theorem dX9_halve_12 : decode cX9_halve 12 = .ok (.iload 4, 2) := by decide +kernel
theorem dX9_halve_14 : decode cX9_halve 14 = .ok (.ifCond .lt 54, 3) := by decide +kernel
theorem dX9_halve_17 : decode cX9_halve 17 = .ok (.aload_n 0, 1) := by decide +kernel
theorem dX9_halve_18 : decode cX9_halve 18 = .ok (.getfield 23, 3) := by decide +kernel
theorem dX9_halve_21 : decode cX9_halve 21 = .ok (.bipush 64, 2) := by decide +kernel
theorem dX9_halve_23 : decode cX9_halve 23 = .ok (.iload_n 1, 1) := by decide +kernel
theorem dX9_halve_24 : decode cX9_halve 24 = .ok (.imul, 1) := by decide +kernel
theorem dX9_halve_25 : decode cX9_halve 25 = .ok (.iload 4, 2) := by decide +kernel
theorem dX9_halve_27 : decode cX9_halve 27 = .ok (.iadd, 1) := by decide +kernel
theorem dX9_halve_28 : decode cX9_halve 28 = .ok (.laload, 1) := by decide +kernel
theorem dX9_halve_29 : decode cX9_halve 29 = .ok (.lload_n 2, 1) := by decide +kernel
theorem dX9_halve_30 : decode cX9_halve 30 = .ok (.ldc2_w 40, 3) := by decide +kernel
theorem dX9_halve_33 : decode cX9_halve 33 = .ok (.lmul, 1) := by decide +kernel
theorem dX9_halve_34 : decode cX9_halve 34 = .ok (.ladd, 1) := by decide +kernel
theorem dX9_halve_35 : decode cX9_halve 35 = .ok (.lstore 5, 2) := by decide +kernel
theorem dX9_halve_37 : decode cX9_halve 37 = .ok (.aload_n 0, 1) := by decide +kernel
theorem dX9_halve_38 : decode cX9_halve 38 = .ok (.getfield 23, 3) := by decide +kernel
theorem dX9_halve_41 : decode cX9_halve 41 = .ok (.bipush 64, 2) := by decide +kernel
theorem dX9_halve_43 : decode cX9_halve 43 = .ok (.iload_n 1, 1) := by decide +kernel
theorem dX9_halve_44 : decode cX9_halve 44 = .ok (.imul, 1) := by decide +kernel
theorem dX9_halve_45 : decode cX9_halve 45 = .ok (.iload 4, 2) := by decide +kernel
theorem dX9_halve_47 : decode cX9_halve 47 = .ok (.iadd, 1) := by decide +kernel
theorem dX9_halve_48 : decode cX9_halve 48 = .ok (.lload 5, 2) := by decide +kernel
theorem dX9_halve_50 : decode cX9_halve 50 = .ok (.ldc2_w 46, 3) := by decide +kernel
theorem dX9_halve_53 : decode cX9_halve 53 = .ok (.ldiv, 1) := by decide +kernel
theorem dX9_halve_54 : decode cX9_halve 54 = .ok (.lastore, 1) := by decide +kernel
theorem dX9_halve_55 : decode cX9_halve 55 = .ok (.lload 5, 2) := by decide +kernel
theorem dX9_halve_57 : decode cX9_halve 57 = .ok (.ldc2_w 46, 3) := by decide +kernel
theorem dX9_halve_60 : decode cX9_halve 60 = .ok (.lrem, 1) := by decide +kernel
theorem dX9_halve_61 : decode cX9_halve 61 = .ok (.lstore_n 2, 1) := by decide +kernel
theorem dX9_halve_62 : decode cX9_halve 62 = .ok (.iinc 4 (-1), 3) := by decide +kernel
theorem dX9_halve_65 : decode cX9_halve 65 = .ok (.goto (-53), 3) := by decide +kernel
theorem dX9_halve_68 : decode cX9_halve 68 = .ok (.aload_n 0, 1) := by decide +kernel
theorem dX9_halve_69 : decode cX9_halve 69 = .ok (.iload_n 1, 1) := by decide +kernel
theorem dX9_halve_70 : decode cX9_halve 70 = .ok (.invokevirtual 42, 3) := by decide +kernel
theorem dX9_halve_73 : decode cX9_halve 73 = .ok (.return_, 1) := by decide +kernel
theorem dX9_isEven_0 : decode cX9_isEven 0 = .ok (.aload_n 0, 1) := by decide +kernel
theorem dX9_isEven_1 : decode cX9_isEven 1 = .ok (.getfield 27, 3) := by decide +kernel
theorem dX9_isEven_4 : decode cX9_isEven 4 = .ok (.iload_n 1, 1) := by decide +kernel
theorem dX9_isEven_5 : decode cX9_isEven 5 = .ok (.iaload, 1) := by decide +kernel
theorem dX9_isEven_6 : decode cX9_isEven 6 = .ok (.ifCond .eq 21, 3) := by decide +kernel
theorem dX9_isEven_9 : decode cX9_isEven 9 = .ok (.aload_n 0, 1) := by decide +kernel
theorem dX9_isEven_10 : decode cX9_isEven 10 = .ok (.getfield 23, 3) := by decide +kernel
theorem dX9_isEven_13 : decode cX9_isEven 13 = .ok (.bipush 64, 2) := by decide +kernel
theorem dX9_isEven_15 : decode cX9_isEven 15 = .ok (.iload_n 1, 1) := by decide +kernel
theorem dX9_isEven_16 : decode cX9_isEven 16 = .ok (.imul, 1) := by decide +kernel
theorem dX9_isEven_17 : decode cX9_isEven 17 = .ok (.laload, 1) := by decide +kernel
theorem dX9_isEven_18 : decode cX9_isEven 18 = .ok (.ldc2_w 46, 3) := by decide +kernel
theorem dX9_isEven_21 : decode cX9_isEven 21 = .ok (.lrem, 1) := by decide +kernel
theorem dX9_isEven_22 : decode cX9_isEven 22 = .ok (.lconst 0, 1) := by decide +kernel
theorem dX9_isEven_23 : decode cX9_isEven 23 = .ok (.lcmp, 1) := by decide +kernel
theorem dX9_isEven_24 : decode cX9_isEven 24 = .ok (.ifCond .ne 7, 3) := by decide +kernel
theorem dX9_isEven_27 : decode cX9_isEven 27 = .ok (.iconst 1, 1) := by decide +kernel
theorem dX9_isEven_28 : decode cX9_isEven 28 = .ok (.goto 4, 3) := by decide +kernel
theorem dX9_isEven_31 : decode cX9_isEven 31 = .ok (.iconst 0, 1) := by decide +kernel
theorem dX9_isEven_32 : decode cX9_isEven 32 = .ok (.ireturn, 1) := by decide +kernel
theorem dX9_findDivisor_0 : decode cX9_findDivisor 0 = .ok (.aload_n 0, 1) := by decide +kernel
theorem dX9_findDivisor_1 : decode cX9_findDivisor 1 = .ok (.bipush 7, 2) := by decide +kernel
theorem dX9_findDivisor_3 : decode cX9_findDivisor 3 = .ok (.iload_n 1, 1) := by decide +kernel
theorem dX9_findDivisor_4 : decode cX9_findDivisor 4 = .ok (.invokevirtual 48, 3) := by decide +kernel
theorem dX9_findDivisor_7 : decode cX9_findDivisor 7 = .ok (.aload_n 0, 1) := by decide +kernel
theorem dX9_findDivisor_8 : decode cX9_findDivisor 8 = .ok (.bipush 8, 2) := by decide +kernel
theorem dX9_findDivisor_10 : decode cX9_findDivisor 10 = .ok (.iload_n 2, 1) := by decide +kernel
theorem dX9_findDivisor_11 : decode cX9_findDivisor 11 = .ok (.invokevirtual 48, 3) := by decide +kernel
theorem dX9_findDivisor_14 : decode cX9_findDivisor 14 = .ok (.iconst 0, 1) := by decide +kernel
theorem dX9_findDivisor_15 : decode cX9_findDivisor 15 = .ok (.istore_n 3, 1) := by decide +kernel
theorem dX9_findDivisor_16 : decode cX9_findDivisor 16 = .ok (.aload_n 0, 1) := by decide +kernel
theorem dX9_findDivisor_17 : decode cX9_findDivisor 17 = .ok (.bipush 7, 2) := by decide +kernel
theorem dX9_findDivisor_19 : decode cX9_findDivisor 19 = .ok (.invokevirtual 52, 3) := by decide +kernel
theorem dX9_findDivisor_22 : decode cX9_findDivisor 22 = .ok (.ifCond .eq 30, 3) := by decide +kernel
theorem dX9_findDivisor_25 : decode cX9_findDivisor 25 = .ok (.aload_n 0, 1) := by decide +kernel
theorem dX9_findDivisor_26 : decode cX9_findDivisor 26 = .ok (.bipush 8, 2) := by decide +kernel
theorem dX9_findDivisor_28 : decode cX9_findDivisor 28 = .ok (.invokevirtual 52, 3) := by decide +kernel
theorem dX9_findDivisor_31 : decode cX9_findDivisor 31 = .ok (.ifCond .eq 21, 3) := by decide +kernel
theorem dX9_findDivisor_34 : decode cX9_findDivisor 34 = .ok (.aload_n 0, 1) := by decide +kernel
theorem dX9_findDivisor_35 : decode cX9_findDivisor 35 = .ok (.bipush 7, 2) := by decide +kernel
theorem dX9_findDivisor_37 : decode cX9_findDivisor 37 = .ok (.invokevirtual 56, 3) := by decide +kernel
theorem dX9_findDivisor_40 : decode cX9_findDivisor 40 = .ok (.aload_n 0, 1) := by decide +kernel
theorem dX9_findDivisor_41 : decode cX9_findDivisor 41 = .ok (.bipush 8, 2) := by decide +kernel
theorem dX9_findDivisor_43 : decode cX9_findDivisor 43 = .ok (.invokevirtual 56, 3) := by decide +kernel
theorem dX9_findDivisor_46 : decode cX9_findDivisor 46 = .ok (.iinc 3 1, 3) := by decide +kernel
theorem dX9_findDivisor_49 : decode cX9_findDivisor 49 = .ok (.goto (-33), 3) := by decide +kernel
theorem dX9_findDivisor_52 : decode cX9_findDivisor 52 = .ok (.aload_n 0, 1) := by decide +kernel
theorem dX9_findDivisor_53 : decode cX9_findDivisor 53 = .ok (.getfield 27, 3) := by decide +kernel
theorem dX9_findDivisor_56 : decode cX9_findDivisor 56 = .ok (.bipush 8, 2) := by decide +kernel
theorem dX9_findDivisor_58 : decode cX9_findDivisor 58 = .ok (.iaload, 1) := by decide +kernel
theorem dX9_findDivisor_59 : decode cX9_findDivisor 59 = .ok (.ifCond .le 85, 3) := by decide +kernel
theorem dX9_findDivisor_62 : decode cX9_findDivisor 62 = .ok (.aload_n 0, 1) := by decide +kernel
theorem dX9_findDivisor_63 : decode cX9_findDivisor 63 = .ok (.bipush 7, 2) := by decide +kernel
theorem dX9_findDivisor_65 : decode cX9_findDivisor 65 = .ok (.invokevirtual 52, 3) := by decide +kernel
theorem dX9_findDivisor_68 : decode cX9_findDivisor 68 = .ok (.ifCond .eq 12, 3) := by decide +kernel
theorem dX9_findDivisor_71 : decode cX9_findDivisor 71 = .ok (.aload_n 0, 1) := by decide +kernel
theorem dX9_findDivisor_72 : decode cX9_findDivisor 72 = .ok (.bipush 7, 2) := by decide +kernel
theorem dX9_findDivisor_74 : decode cX9_findDivisor 74 = .ok (.invokevirtual 56, 3) := by decide +kernel
theorem dX9_findDivisor_77 : decode cX9_findDivisor 77 = .ok (.goto (-15), 3) := by decide +kernel
theorem dX9_findDivisor_80 : decode cX9_findDivisor 80 = .ok (.aload_n 0, 1) := by decide +kernel
theorem dX9_findDivisor_81 : decode cX9_findDivisor 81 = .ok (.bipush 8, 2) := by decide +kernel
theorem dX9_findDivisor_83 : decode cX9_findDivisor 83 = .ok (.invokevirtual 52, 3) := by decide +kernel
theorem dX9_findDivisor_86 : decode cX9_findDivisor 86 = .ok (.ifCond .eq 12, 3) := by decide +kernel
theorem dX9_findDivisor_89 : decode cX9_findDivisor 89 = .ok (.aload_n 0, 1) := by decide +kernel
theorem dX9_findDivisor_90 : decode cX9_findDivisor 90 = .ok (.bipush 8, 2) := by decide +kernel
theorem dX9_findDivisor_92 : decode cX9_findDivisor 92 = .ok (.invokevirtual 56, 3) := by decide +kernel
theorem dX9_findDivisor_95 : decode cX9_findDivisor 95 = .ok (.goto (-15), 3) := by decide +kernel
theorem dX9_findDivisor_98 : decode cX9_findDivisor 98 = .ok (.aload_n 0, 1) := by decide +kernel
theorem dX9_findDivisor_99 : decode cX9_findDivisor 99 = .ok (.bipush 7, 2) := by decide +kernel
theorem dX9_findDivisor_101 : decode cX9_findDivisor 101 = .ok (.bipush 8, 2) := by decide +kernel
theorem dX9_findDivisor_103 : decode cX9_findDivisor 103 = .ok (.invokevirtual 59, 3) := by decide +kernel
theorem dX9_findDivisor_106 : decode cX9_findDivisor 106 = .ok (.ifCond .le 27, 3) := by decide +kernel
theorem dX9_findDivisor_109 : decode cX9_findDivisor 109 = .ok (.aload_n 0, 1) := by decide +kernel
theorem dX9_findDivisor_110 : decode cX9_findDivisor 110 = .ok (.bipush 9, 2) := by decide +kernel
theorem dX9_findDivisor_112 : decode cX9_findDivisor 112 = .ok (.bipush 7, 2) := by decide +kernel
theorem dX9_findDivisor_114 : decode cX9_findDivisor 114 = .ok (.invokevirtual 48, 3) := by decide +kernel
theorem dX9_findDivisor_117 : decode cX9_findDivisor 117 = .ok (.aload_n 0, 1) := by decide +kernel
theorem dX9_findDivisor_118 : decode cX9_findDivisor 118 = .ok (.bipush 7, 2) := by decide +kernel
theorem dX9_findDivisor_120 : decode cX9_findDivisor 120 = .ok (.bipush 8, 2) := by decide +kernel
theorem dX9_findDivisor_122 : decode cX9_findDivisor 122 = .ok (.invokevirtual 48, 3) := by decide +kernel
theorem dX9_findDivisor_125 : decode cX9_findDivisor 125 = .ok (.aload_n 0, 1) := by decide +kernel
theorem dX9_findDivisor_126 : decode cX9_findDivisor 126 = .ok (.bipush 8, 2) := by decide +kernel
theorem dX9_findDivisor_128 : decode cX9_findDivisor 128 = .ok (.bipush 9, 2) := by decide +kernel
theorem dX9_findDivisor_130 : decode cX9_findDivisor 130 = .ok (.invokevirtual 48, 3) := by decide +kernel
theorem dX9_findDivisor_133 : decode cX9_findDivisor 133 = .ok (.aload_n 0, 1) := by decide +kernel
theorem dX9_findDivisor_134 : decode cX9_findDivisor 134 = .ok (.bipush 8, 2) := by decide +kernel
theorem dX9_findDivisor_136 : decode cX9_findDivisor 136 = .ok (.bipush 7, 2) := by decide +kernel
theorem dX9_findDivisor_138 : decode cX9_findDivisor 138 = .ok (.invokevirtual 63, 3) := by decide +kernel
theorem dX9_findDivisor_141 : decode cX9_findDivisor 141 = .ok (.goto (-89), 3) := by decide +kernel
theorem dX9_findDivisor_144 : decode cX9_findDivisor 144 = .ok (.iconst 0, 1) := by decide +kernel
theorem dX9_findDivisor_145 : decode cX9_findDivisor 145 = .ok (.istore 4, 2) := by decide +kernel
theorem dX9_findDivisor_147 : decode cX9_findDivisor 147 = .ok (.iload 4, 2) := by decide +kernel
theorem dX9_findDivisor_149 : decode cX9_findDivisor 149 = .ok (.iload_n 3, 1) := by decide +kernel
theorem dX9_findDivisor_150 : decode cX9_findDivisor 150 = .ok (.if_icmp .ge 18, 3) := by decide +kernel
theorem dX9_findDivisor_153 : decode cX9_findDivisor 153 = .ok (.aload_n 0, 1) := by decide +kernel
theorem dX9_findDivisor_154 : decode cX9_findDivisor 154 = .ok (.bipush 7, 2) := by decide +kernel
theorem dX9_findDivisor_156 : decode cX9_findDivisor 156 = .ok (.ldc2_w 46, 3) := by decide +kernel
theorem dX9_findDivisor_159 : decode cX9_findDivisor 159 = .ok (.invokevirtual 66, 3) := by decide +kernel
theorem dX9_findDivisor_162 : decode cX9_findDivisor 162 = .ok (.iinc 4 1, 3) := by decide +kernel
theorem dX9_findDivisor_165 : decode cX9_findDivisor 165 = .ok (.goto (-18), 3) := by decide +kernel
theorem dX9_findDivisor_168 : decode cX9_findDivisor 168 = .ok (.return_, 1) := by decide +kernel
theorem dX9_divide_0 : decode cX9_divide 0 = .ok (.aload_n 0, 1) := by decide +kernel
theorem dX9_divide_1 : decode cX9_divide 1 = .ok (.bipush 9, 2) := by decide +kernel
theorem dX9_divide_3 : decode cX9_divide 3 = .ok (.iload_n 1, 1) := by decide +kernel
theorem dX9_divide_4 : decode cX9_divide 4 = .ok (.invokevirtual 48, 3) := by decide +kernel
theorem dX9_divide_7 : decode cX9_divide 7 = .ok (.aload_n 0, 1) := by decide +kernel
theorem dX9_divide_8 : decode cX9_divide 8 = .ok (.bipush 8, 2) := by decide +kernel
theorem dX9_divide_10 : decode cX9_divide 10 = .ok (.lconst 0, 1) := by decide +kernel
theorem dX9_divide_11 : decode cX9_divide 11 = .ok (.invokevirtual 36, 3) := by decide +kernel
theorem dX9_divide_14 : decode cX9_divide 14 = .ok (.aload_n 0, 1) := by decide +kernel
theorem dX9_divide_15 : decode cX9_divide 15 = .ok (.getfield 27, 3) := by decide +kernel
theorem dX9_divide_18 : decode cX9_divide 18 = .ok (.bipush 9, 2) := by decide +kernel
theorem dX9_divide_20 : decode cX9_divide 20 = .ok (.iaload, 1) := by decide +kernel
theorem dX9_divide_21 : decode cX9_divide 21 = .ok (.istore_n 2, 1) := by decide +kernel
theorem dX9_divide_22 : decode cX9_divide 22 = .ok (.iconst 0, 1) := by decide +kernel
theorem dX9_divide_23 : decode cX9_divide 23 = .ok (.istore_n 3, 1) := by decide +kernel
theorem dX9_divide_24 : decode cX9_divide 24 = .ok (.iload_n 3, 1) := by decide +kernel
theorem dX9_divide_25 : decode cX9_divide 25 = .ok (.iload_n 2, 1) := by decide +kernel
theorem dX9_divide_26 : decode cX9_divide 26 = .ok (.if_icmp .ge 21, 3) := by decide +kernel
theorem dX9_divide_29 : decode cX9_divide 29 = .ok (.aload_n 0, 1) := by decide +kernel
theorem dX9_divide_30 : decode cX9_divide 30 = .ok (.getfield 23, 3) := by decide +kernel
theorem dX9_divide_33 : decode cX9_divide 33 = .ok (.bipush 64, 2) := by decide +kernel
theorem dX9_divide_35 : decode cX9_divide 35 = .ok (.iload_n 1, 1) := by decide +kernel
theorem dX9_divide_36 : decode cX9_divide 36 = .ok (.imul, 1) := by decide +kernel
theorem dX9_divide_37 : decode cX9_divide 37 = .ok (.iload_n 3, 1) := by decide +kernel
theorem dX9_divide_38 : decode cX9_divide 38 = .ok (.iadd, 1) := by decide +kernel
theorem dX9_divide_39 : decode cX9_divide 39 = .ok (.lconst 0, 1) := by decide +kernel
theorem dX9_divide_40 : decode cX9_divide 40 = .ok (.lastore, 1) := by decide +kernel
theorem dX9_divide_41 : decode cX9_divide 41 = .ok (.iinc 3 1, 3) := by decide +kernel
theorem dX9_divide_44 : decode cX9_divide 44 = .ok (.goto (-20), 3) := by decide +kernel
theorem dX9_divide_47 : decode cX9_divide 47 = .ok (.iload_n 2, 1) := by decide +kernel
theorem dX9_divide_48 : decode cX9_divide 48 = .ok (.iconst 1, 1) := by decide +kernel
theorem dX9_divide_49 : decode cX9_divide 49 = .ok (.isub, 1) := by decide +kernel
theorem dX9_divide_50 : decode cX9_divide 50 = .ok (.istore_n 3, 1) := by decide +kernel
theorem dX9_divide_51 : decode cX9_divide 51 = .ok (.iload_n 3, 1) := by decide +kernel
theorem dX9_divide_52 : decode cX9_divide 52 = .ok (.ifCond .lt 106, 3) := by decide +kernel
theorem dX9_divide_55 : decode cX9_divide 55 = .ok (.lconst 0, 1) := by decide +kernel
theorem dX9_divide_56 : decode cX9_divide 56 = .ok (.lstore 4, 2) := by decide +kernel
theorem dX9_divide_58 : decode cX9_divide 58 = .ok (.bipush 29, 2) := by decide +kernel
theorem dX9_divide_60 : decode cX9_divide 60 = .ok (.istore 6, 2) := by decide +kernel
theorem dX9_divide_62 : decode cX9_divide 62 = .ok (.iload 6, 2) := by decide +kernel
theorem dX9_divide_64 : decode cX9_divide 64 = .ok (.ifCond .lt 75, 3) := by decide +kernel
theorem dX9_divide_67 : decode cX9_divide 67 = .ok (.aload_n 0, 1) := by decide +kernel
theorem dX9_divide_68 : decode cX9_divide 68 = .ok (.bipush 8, 2) := by decide +kernel
theorem dX9_divide_70 : decode cX9_divide 70 = .ok (.ldc2_w 46, 3) := by decide +kernel
theorem dX9_divide_73 : decode cX9_divide 73 = .ok (.invokevirtual 66, 3) := by decide +kernel
theorem dX9_divide_76 : decode cX9_divide 76 = .ok (.aload_n 0, 1) := by decide +kernel
theorem dX9_divide_77 : decode cX9_divide 77 = .ok (.getfield 23, 3) := by decide +kernel
theorem dX9_divide_80 : decode cX9_divide 80 = .ok (.sipush 576, 3) := by decide +kernel
theorem dX9_divide_83 : decode cX9_divide 83 = .ok (.iload_n 3, 1) := by decide +kernel
theorem dX9_divide_84 : decode cX9_divide 84 = .ok (.iadd, 1) := by decide +kernel
theorem dX9_divide_85 : decode cX9_divide 85 = .ok (.laload, 1) := by decide +kernel
theorem dX9_divide_86 : decode cX9_divide 86 = .ok (.iload 6, 2) := by decide +kernel
theorem dX9_divide_88 : decode cX9_divide 88 = .ok (.lshr, 1) := by decide +kernel
theorem dX9_divide_89 : decode cX9_divide 89 = .ok (.lconst 1, 1) := by decide +kernel
theorem dX9_divide_90 : decode cX9_divide 90 = .ok (.land, 1) := by decide +kernel
theorem dX9_divide_91 : decode cX9_divide 91 = .ok (.lconst 1, 1) := by decide +kernel
theorem dX9_divide_92 : decode cX9_divide 92 = .ok (.lcmp, 1) := by decide +kernel
theorem dX9_divide_93 : decode cX9_divide 93 = .ok (.ifCond .ne 7, 3) := by decide +kernel
theorem dX9_divide_96 : decode cX9_divide 96 = .ok (.aload_n 0, 1) := by decide +kernel
theorem dX9_divide_97 : decode cX9_divide 97 = .ok (.invokevirtual 69, 3) := by decide +kernel
theorem dX9_divide_100 : decode cX9_divide 100 = .ok (.ldc2_w 46, 3) := by decide +kernel
theorem dX9_divide_103 : decode cX9_divide 103 = .ok (.lload 4, 2) := by decide +kernel
theorem dX9_divide_105 : decode cX9_divide 105 = .ok (.lmul, 1) := by decide +kernel
theorem dX9_divide_106 : decode cX9_divide 106 = .ok (.lstore 4, 2) := by decide +kernel
theorem dX9_divide_108 : decode cX9_divide 108 = .ok (.aload_n 0, 1) := by decide +kernel
theorem dX9_divide_109 : decode cX9_divide 109 = .ok (.bipush 8, 2) := by decide +kernel
theorem dX9_divide_111 : decode cX9_divide 111 = .ok (.bipush 7, 2) := by decide +kernel
theorem dX9_divide_113 : decode cX9_divide 113 = .ok (.invokevirtual 59, 3) := by decide +kernel
theorem dX9_divide_116 : decode cX9_divide 116 = .ok (.ifCond .lt 17, 3) := by decide +kernel
theorem dX9_divide_119 : decode cX9_divide 119 = .ok (.aload_n 0, 1) := by decide +kernel
theorem dX9_divide_120 : decode cX9_divide 120 = .ok (.bipush 8, 2) := by decide +kernel
theorem dX9_divide_122 : decode cX9_divide 122 = .ok (.bipush 7, 2) := by decide +kernel
theorem dX9_divide_124 : decode cX9_divide 124 = .ok (.invokevirtual 63, 3) := by decide +kernel
theorem dX9_divide_127 : decode cX9_divide 127 = .ok (.lload 4, 2) := by decide +kernel
theorem dX9_divide_129 : decode cX9_divide 129 = .ok (.lconst 1, 1) := by decide +kernel
theorem dX9_divide_130 : decode cX9_divide 130 = .ok (.ladd, 1) := by decide +kernel
theorem dX9_divide_131 : decode cX9_divide 131 = .ok (.lstore 4, 2) := by decide +kernel
theorem dX9_divide_133 : decode cX9_divide 133 = .ok (.iinc 6 (-1), 3) := by decide +kernel
theorem dX9_divide_136 : decode cX9_divide 136 = .ok (.goto (-74), 3) := by decide +kernel
theorem dX9_divide_139 : decode cX9_divide 139 = .ok (.aload_n 0, 1) := by decide +kernel
theorem dX9_divide_140 : decode cX9_divide 140 = .ok (.getfield 23, 3) := by decide +kernel
theorem dX9_divide_143 : decode cX9_divide 143 = .ok (.bipush 64, 2) := by decide +kernel
theorem dX9_divide_145 : decode cX9_divide 145 = .ok (.iload_n 1, 1) := by decide +kernel
theorem dX9_divide_146 : decode cX9_divide 146 = .ok (.imul, 1) := by decide +kernel
theorem dX9_divide_147 : decode cX9_divide 147 = .ok (.iload_n 3, 1) := by decide +kernel
theorem dX9_divide_148 : decode cX9_divide 148 = .ok (.iadd, 1) := by decide +kernel
theorem dX9_divide_149 : decode cX9_divide 149 = .ok (.lload 4, 2) := by decide +kernel
theorem dX9_divide_151 : decode cX9_divide 151 = .ok (.lastore, 1) := by decide +kernel
theorem dX9_divide_152 : decode cX9_divide 152 = .ok (.iinc 3 (-1), 3) := by decide +kernel
theorem dX9_divide_155 : decode cX9_divide 155 = .ok (.goto (-104), 3) := by decide +kernel
theorem dX9_divide_158 : decode cX9_divide 158 = .ok (.aload_n 0, 1) := by decide +kernel
theorem dX9_divide_159 : decode cX9_divide 159 = .ok (.iload_n 1, 1) := by decide +kernel
theorem dX9_divide_160 : decode cX9_divide 160 = .ok (.invokevirtual 42, 3) := by decide +kernel
theorem dX9_divide_163 : decode cX9_divide 163 = .ok (.return_, 1) := by decide +kernel
theorem dX9_addOne_0 : decode cX9_addOne 0 = .ok (.aload_n 0, 1) := by decide +kernel
theorem dX9_addOne_1 : decode cX9_addOne 1 = .ok (.getfield 27, 3) := by decide +kernel
theorem dX9_addOne_4 : decode cX9_addOne 4 = .ok (.bipush 8, 2) := by decide +kernel
theorem dX9_addOne_6 : decode cX9_addOne 6 = .ok (.iaload, 1) := by decide +kernel
theorem dX9_addOne_7 : decode cX9_addOne 7 = .ok (.ifCond .ne 13, 3) := by decide +kernel
theorem dX9_addOne_10 : decode cX9_addOne 10 = .ok (.aload_n 0, 1) := by decide +kernel
theorem dX9_addOne_11 : decode cX9_addOne 11 = .ok (.bipush 8, 2) := by decide +kernel
theorem dX9_addOne_13 : decode cX9_addOne 13 = .ok (.lconst 1, 1) := by decide +kernel
theorem dX9_addOne_14 : decode cX9_addOne 14 = .ok (.invokevirtual 36, 3) := by decide +kernel
theorem dX9_addOne_17 : decode cX9_addOne 17 = .ok (.goto 15, 3) := by decide +kernel
theorem dX9_addOne_20 : decode cX9_addOne 20 = .ok (.aload_n 0, 1) := by decide +kernel
theorem dX9_addOne_21 : decode cX9_addOne 21 = .ok (.getfield 23, 3) := by decide +kernel
theorem dX9_addOne_24 : decode cX9_addOne 24 = .ok (.sipush 512, 3) := by decide +kernel
theorem dX9_addOne_27 : decode cX9_addOne 27 = .ok (.dup2, 1) := by decide +kernel
theorem dX9_addOne_28 : decode cX9_addOne 28 = .ok (.laload, 1) := by decide +kernel
theorem dX9_addOne_29 : decode cX9_addOne 29 = .ok (.lconst 1, 1) := by decide +kernel
theorem dX9_addOne_30 : decode cX9_addOne 30 = .ok (.ladd, 1) := by decide +kernel
theorem dX9_addOne_31 : decode cX9_addOne 31 = .ok (.lastore, 1) := by decide +kernel
theorem dX9_addOne_32 : decode cX9_addOne 32 = .ok (.return_, 1) := by decide +kernel
theorem dX9_tell_0 : decode cX9_tell 0 = .ok (.aload_n 0, 1) := by decide +kernel
theorem dX9_tell_1 : decode cX9_tell 1 = .ok (.getfield 27, 3) := by decide +kernel
theorem dX9_tell_4 : decode cX9_tell 4 = .ok (.iload_n 1, 1) := by decide +kernel
theorem dX9_tell_5 : decode cX9_tell 5 = .ok (.iaload, 1) := by decide +kernel
theorem dX9_tell_6 : decode cX9_tell 6 = .ok (.ifCond .ne 21, 3) := by decide +kernel
theorem dX9_tell_9 : decode cX9_tell 9 = .ok (.aload_n 0, 1) := by decide +kernel
theorem dX9_tell_10 : decode cX9_tell 10 = .ok (.iconst 0, 1) := by decide +kernel
theorem dX9_tell_11 : decode cX9_tell 11 = .ok (.lconst 0, 1) := by decide +kernel
theorem dX9_tell_12 : decode cX9_tell 12 = .ok (.invokevirtual 36, 3) := by decide +kernel
theorem dX9_tell_15 : decode cX9_tell 15 = .ok (.aload_n 0, 1) := by decide +kernel
theorem dX9_tell_16 : decode cX9_tell 16 = .ok (.iconst 1, 1) := by decide +kernel
theorem dX9_tell_17 : decode cX9_tell 17 = .ok (.lconst 1, 1) := by decide +kernel
theorem dX9_tell_18 : decode cX9_tell 18 = .ok (.invokevirtual 36, 3) := by decide +kernel
theorem dX9_tell_21 : decode cX9_tell 21 = .ok (.aload_n 0, 1) := by decide +kernel
theorem dX9_tell_22 : decode cX9_tell 22 = .ok (.iconst 0, 1) := by decide +kernel
theorem dX9_tell_23 : decode cX9_tell 23 = .ok (.putfield 72, 3) := by decide +kernel
theorem dX9_tell_26 : decode cX9_tell 26 = .ok (.return_, 1) := by decide +kernel
theorem dX9_tell_27 : decode cX9_tell 27 = .ok (.aload_n 0, 1) := by decide +kernel
theorem dX9_tell_28 : decode cX9_tell 28 = .ok (.iload_n 1, 1) := by decide +kernel
theorem dX9_tell_29 : decode cX9_tell 29 = .ok (.iload_n 2, 1) := by decide +kernel
theorem dX9_tell_30 : decode cX9_tell 30 = .ok (.invokevirtual 76, 3) := by decide +kernel
theorem dX9_tell_33 : decode cX9_tell 33 = .ok (.aload_n 0, 1) := by decide +kernel
theorem dX9_tell_34 : decode cX9_tell 34 = .ok (.iconst 0, 1) := by decide +kernel
theorem dX9_tell_35 : decode cX9_tell 35 = .ok (.iload_n 1, 1) := by decide +kernel
theorem dX9_tell_36 : decode cX9_tell 36 = .ok (.invokevirtual 48, 3) := by decide +kernel
theorem dX9_tell_39 : decode cX9_tell 39 = .ok (.aload_n 0, 1) := by decide +kernel
theorem dX9_tell_40 : decode cX9_tell 40 = .ok (.iconst 0, 1) := by decide +kernel
theorem dX9_tell_41 : decode cX9_tell 41 = .ok (.invokevirtual 79, 3) := by decide +kernel
theorem dX9_tell_44 : decode cX9_tell 44 = .ok (.aload_n 0, 1) := by decide +kernel
theorem dX9_tell_45 : decode cX9_tell 45 = .ok (.iconst 1, 1) := by decide +kernel
theorem dX9_tell_46 : decode cX9_tell 46 = .ok (.iload_n 2, 1) := by decide +kernel
theorem dX9_tell_47 : decode cX9_tell 47 = .ok (.invokevirtual 48, 3) := by decide +kernel
theorem dX9_tell_50 : decode cX9_tell 50 = .ok (.aload_n 0, 1) := by decide +kernel
theorem dX9_tell_51 : decode cX9_tell 51 = .ok (.iconst 1, 1) := by decide +kernel
theorem dX9_tell_52 : decode cX9_tell 52 = .ok (.invokevirtual 79, 3) := by decide +kernel
theorem dX9_tell_55 : decode cX9_tell 55 = .ok (.aload_n 0, 1) := by decide +kernel
theorem dX9_tell_56 : decode cX9_tell 56 = .ok (.iload_n 3, 1) := by decide +kernel
theorem dX9_tell_57 : decode cX9_tell 57 = .ok (.ifCond .eq 7, 3) := by decide +kernel
theorem dX9_tell_60 : decode cX9_tell 60 = .ok (.iconst (-1), 1) := by decide +kernel
theorem dX9_tell_61 : decode cX9_tell 61 = .ok (.goto 4, 3) := by decide +kernel
theorem dX9_tell_64 : decode cX9_tell 64 = .ok (.iconst 1, 1) := by decide +kernel
theorem dX9_tell_65 : decode cX9_tell 65 = .ok (.putfield 72, 3) := by decide +kernel
theorem dX9_tell_68 : decode cX9_tell 68 = .ok (.return_, 1) := by decide +kernel
theorem dX9_tells_0 : decode cX9_tells 0 = .ok (.aload_n 0, 1) := by decide +kernel
theorem dX9_tells_1 : decode cX9_tells 1 = .ok (.iconst 2, 1) := by decide +kernel
theorem dX9_tells_2 : decode cX9_tells 2 = .ok (.lload_n 1, 1) := by decide +kernel
theorem dX9_tells_3 : decode cX9_tells 3 = .ok (.lconst 0, 1) := by decide +kernel
theorem dX9_tells_4 : decode cX9_tells 4 = .ok (.lcmp, 1) := by decide +kernel
theorem dX9_tells_5 : decode cX9_tells 5 = .ok (.ifCond .ge 8, 3) := by decide +kernel
theorem dX9_tells_8 : decode cX9_tells 8 = .ok (.lload_n 1, 1) := by decide +kernel
theorem dX9_tells_9 : decode cX9_tells 9 = .ok (.lneg, 1) := by decide +kernel
theorem dX9_tells_10 : decode cX9_tells 10 = .ok (.goto 4, 3) := by decide +kernel
theorem dX9_tells_13 : decode cX9_tells 13 = .ok (.lload_n 1, 1) := by decide +kernel
theorem dX9_tells_14 : decode cX9_tells 14 = .ok (.invokevirtual 36, 3) := by decide +kernel
theorem dX9_tells_17 : decode cX9_tells 17 = .ok (.aload_n 0, 1) := by decide +kernel
theorem dX9_tells_18 : decode cX9_tells 18 = .ok (.iconst 3, 1) := by decide +kernel
theorem dX9_tells_19 : decode cX9_tells 19 = .ok (.lload_n 3, 1) := by decide +kernel
theorem dX9_tells_20 : decode cX9_tells 20 = .ok (.invokevirtual 36, 3) := by decide +kernel
theorem dX9_tells_23 : decode cX9_tells 23 = .ok (.aload_n 0, 1) := by decide +kernel
theorem dX9_tells_24 : decode cX9_tells 24 = .ok (.iconst 2, 1) := by decide +kernel
theorem dX9_tells_25 : decode cX9_tells 25 = .ok (.iconst 3, 1) := by decide +kernel
theorem dX9_tells_26 : decode cX9_tells 26 = .ok (.lload_n 1, 1) := by decide +kernel
theorem dX9_tells_27 : decode cX9_tells 27 = .ok (.lconst 0, 1) := by decide +kernel
theorem dX9_tells_28 : decode cX9_tells 28 = .ok (.lcmp, 1) := by decide +kernel
theorem dX9_tells_29 : decode cX9_tells 29 = .ok (.ifCond .ge 7, 3) := by decide +kernel
theorem dX9_tells_32 : decode cX9_tells 32 = .ok (.iconst 1, 1) := by decide +kernel
theorem dX9_tells_33 : decode cX9_tells 33 = .ok (.goto 4, 3) := by decide +kernel
theorem dX9_tells_36 : decode cX9_tells 36 = .ok (.iconst 0, 1) := by decide +kernel
theorem dX9_tells_37 : decode cX9_tells 37 = .ok (.invokevirtual 82, 3) := by decide +kernel
theorem dX9_tells_40 : decode cX9_tells 40 = .ok (.iconst 1, 1) := by decide +kernel
theorem dX9_tells_41 : decode cX9_tells 41 = .ok (.ireturn, 1) := by decide +kernel
theorem dX9_many_0 : decode cX9_many 0 = .ok (.aload_n 0, 1) := by decide +kernel
theorem dX9_many_1 : decode cX9_many 1 = .ok (.getfield 7, 3) := by decide +kernel
theorem dX9_many_4 : decode cX9_many 4 = .ok (.sipush 392, 3) := by decide +kernel
theorem dX9_many_7 : decode cX9_many 7 = .ok (.iload_n 1, 1) := by decide +kernel
theorem dX9_many_8 : decode cX9_many 8 = .ok (.iadd, 1) := by decide +kernel
theorem dX9_many_9 : decode cX9_many 9 = .ok (.iaload, 1) := by decide +kernel
theorem dX9_many_10 : decode cX9_many 10 = .ok (.ireturn, 1) := by decide +kernel
theorem dX9_isArm_0 : decode cX9_isArm 0 = .ok (.iload_n 0, 1) := by decide +kernel
theorem dX9_isArm_1 : decode cX9_isArm 1 = .ok (.i2l, 1) := by decide +kernel
theorem dX9_isArm_2 : decode cX9_isArm 2 = .ok (.ldc2_w 86, 3) := by decide +kernel
theorem dX9_isArm_5 : decode cX9_isArm 5 = .ok (.ldc2_w 88, 3) := by decide +kernel
theorem dX9_isArm_8 : decode cX9_isArm 8 = .ok (.invokestatic 90, 3) := by decide +kernel
theorem dX9_isArm_11 : decode cX9_isArm 11 = .ok (.ifCond .eq 31, 3) := by decide +kernel
theorem dX9_isArm_14 : decode cX9_isArm 14 = .ok (.iload_n 1, 1) := by decide +kernel
theorem dX9_isArm_15 : decode cX9_isArm 15 = .ok (.i2l, 1) := by decide +kernel
theorem dX9_isArm_16 : decode cX9_isArm 16 = .ok (.lconst 1, 1) := by decide +kernel
theorem dX9_isArm_17 : decode cX9_isArm 17 = .ok (.ldc2_w 94, 3) := by decide +kernel
theorem dX9_isArm_20 : decode cX9_isArm 20 = .ok (.invokestatic 90, 3) := by decide +kernel
theorem dX9_isArm_23 : decode cX9_isArm 23 = .ok (.ifCond .eq 19, 3) := by decide +kernel
theorem dX9_isArm_26 : decode cX9_isArm 26 = .ok (.iload_n 2, 1) := by decide +kernel
theorem dX9_isArm_27 : decode cX9_isArm 27 = .ok (.i2l, 1) := by decide +kernel
theorem dX9_isArm_28 : decode cX9_isArm 28 = .ok (.lconst 0, 1) := by decide +kernel
theorem dX9_isArm_29 : decode cX9_isArm 29 = .ok (.ldc2_w 96, 3) := by decide +kernel
theorem dX9_isArm_32 : decode cX9_isArm 32 = .ok (.invokestatic 90, 3) := by decide +kernel
theorem dX9_isArm_35 : decode cX9_isArm 35 = .ok (.ifCond .eq 7, 3) := by decide +kernel
theorem dX9_isArm_38 : decode cX9_isArm 38 = .ok (.iconst 1, 1) := by decide +kernel
theorem dX9_isArm_39 : decode cX9_isArm 39 = .ok (.goto 4, 3) := by decide +kernel
theorem dX9_isArm_42 : decode cX9_isArm 42 = .ok (.iconst 0, 1) := by decide +kernel
theorem dX9_isArm_43 : decode cX9_isArm 43 = .ok (.ireturn, 1) := by decide +kernel
theorem dX9_isHook_0 : decode cX9_isHook 0 = .ok (.iload_n 0, 1) := by decide +kernel
theorem dX9_isHook_1 : decode cX9_isHook 1 = .ok (.i2l, 1) := by decide +kernel
theorem dX9_isHook_2 : decode cX9_isHook 2 = .ok (.lconst 0, 1) := by decide +kernel
theorem dX9_isHook_3 : decode cX9_isHook 3 = .ok (.ldc2_w 94, 3) := by decide +kernel
theorem dX9_isHook_6 : decode cX9_isHook 6 = .ok (.invokestatic 90, 3) := by decide +kernel
theorem dX9_isHook_9 : decode cX9_isHook 9 = .ok (.ifCond .eq 30, 3) := by decide +kernel
theorem dX9_isHook_12 : decode cX9_isHook 12 = .ok (.iload_n 1, 1) := by decide +kernel
theorem dX9_isHook_13 : decode cX9_isHook 13 = .ok (.i2l, 1) := by decide +kernel
theorem dX9_isHook_14 : decode cX9_isHook 14 = .ok (.lconst 0, 1) := by decide +kernel
theorem dX9_isHook_15 : decode cX9_isHook 15 = .ok (.ldc2_w 94, 3) := by decide +kernel
theorem dX9_isHook_18 : decode cX9_isHook 18 = .ok (.invokestatic 90, 3) := by decide +kernel
theorem dX9_isHook_21 : decode cX9_isHook 21 = .ok (.ifCond .eq 18, 3) := by decide +kernel
theorem dX9_isHook_24 : decode cX9_isHook 24 = .ok (.iload_n 2, 1) := by decide +kernel
theorem dX9_isHook_25 : decode cX9_isHook 25 = .ok (.i2l, 1) := by decide +kernel
theorem dX9_isHook_26 : decode cX9_isHook 26 = .ok (.lconst 0, 1) := by decide +kernel
theorem dX9_isHook_27 : decode cX9_isHook 27 = .ok (.iload_n 0, 1) := by decide +kernel
theorem dX9_isHook_28 : decode cX9_isHook 28 = .ok (.i2l, 1) := by decide +kernel
theorem dX9_isHook_29 : decode cX9_isHook 29 = .ok (.invokestatic 90, 3) := by decide +kernel
theorem dX9_isHook_32 : decode cX9_isHook 32 = .ok (.ifCond .eq 7, 3) := by decide +kernel
theorem dX9_isHook_35 : decode cX9_isHook 35 = .ok (.iconst 1, 1) := by decide +kernel
theorem dX9_isHook_36 : decode cX9_isHook 36 = .ok (.goto 4, 3) := by decide +kernel
theorem dX9_isHook_39 : decode cX9_isHook 39 = .ok (.iconst 0, 1) := by decide +kernel
theorem dX9_isHook_40 : decode cX9_isHook 40 = .ok (.ireturn, 1) := by decide +kernel
theorem dX9_isDart_0 : decode cX9_isDart 0 = .ok (.iload_n 0, 1) := by decide +kernel
theorem dX9_isDart_1 : decode cX9_isDart 1 = .ok (.i2l, 1) := by decide +kernel
theorem dX9_isDart_2 : decode cX9_isDart 2 = .ok (.ldc2_w 86, 3) := by decide +kernel
theorem dX9_isDart_5 : decode cX9_isDart 5 = .ok (.ldc2_w 98, 3) := by decide +kernel
theorem dX9_isDart_8 : decode cX9_isDart 8 = .ok (.invokestatic 90, 3) := by decide +kernel
theorem dX9_isDart_11 : decode cX9_isDart 11 = .ok (.ifCond .eq 43, 3) := by decide +kernel
theorem dX9_isDart_14 : decode cX9_isDart 14 = .ok (.iload_n 1, 1) := by decide +kernel
theorem dX9_isDart_15 : decode cX9_isDart 15 = .ok (.i2l, 1) := by decide +kernel
theorem dX9_isDart_16 : decode cX9_isDart 16 = .ok (.lconst 1, 1) := by decide +kernel
theorem dX9_isDart_17 : decode cX9_isDart 17 = .ok (.ldc2_w 94, 3) := by decide +kernel
theorem dX9_isDart_20 : decode cX9_isDart 20 = .ok (.invokestatic 90, 3) := by decide +kernel
theorem dX9_isDart_23 : decode cX9_isDart 23 = .ok (.ifCond .eq 31, 3) := by decide +kernel
theorem dX9_isDart_26 : decode cX9_isDart 26 = .ok (.iload_n 2, 1) := by decide +kernel
theorem dX9_isDart_27 : decode cX9_isDart 27 = .ok (.i2l, 1) := by decide +kernel
theorem dX9_isDart_28 : decode cX9_isDart 28 = .ok (.lconst 0, 1) := by decide +kernel
theorem dX9_isDart_29 : decode cX9_isDart 29 = .ok (.ldc2_w 100, 3) := by decide +kernel
theorem dX9_isDart_32 : decode cX9_isDart 32 = .ok (.invokestatic 90, 3) := by decide +kernel
