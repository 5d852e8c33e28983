theorem dX9_isDart_35 : decode cX9_isDart 35 = .ok (.ifCond .eq 19, 3) := by decide +kernel
theorem dX9_isDart_38 : decode cX9_isDart 38 = .ok (.iload_n 3, 1) := by decide +kernel
theorem dX9_isDart_39 : decode cX9_isDart 39 = .ok (.i2l, 1) := by decide +kernel
theorem dX9_isDart_40 : decode cX9_isDart 40 = .ok (.lconst 0, 1) := by decide +kernel
theorem dX9_isDart_41 : decode cX9_isDart 41 = .ok (.ldc2_w 96, 3) := by decide +kernel
theorem dX9_isDart_44 : decode cX9_isDart 44 = .ok (.invokestatic 90, 3) := by decide +kernel
theorem dX9_isDart_47 : decode cX9_isDart 47 = .ok (.ifCond .eq 7, 3) := by decide +kernel
theorem dX9_isDart_50 : decode cX9_isDart 50 = .ok (.iconst 1, 1) := by decide +kernel
theorem dX9_isDart_51 : decode cX9_isDart 51 = .ok (.goto 4, 3) := by decide +kernel
theorem dX9_isDart_54 : decode cX9_isDart 54 = .ok (.iconst 0, 1) := by decide +kernel
theorem dX9_isDart_55 : decode cX9_isDart 55 = .ok (.ireturn, 1) := by decide +kernel
theorem dX9_notes_0 : decode cX9_notes 0 = .ok (.aload_n 0, 1) := by decide +kernel
theorem dX9_notes_1 : decode cX9_notes 1 = .ok (.iload_n 1, 1) := by decide +kernel
theorem dX9_notes_2 : decode cX9_notes 2 = .ok (.invokevirtual 102, 3) := by decide +kernel
theorem dX9_notes_5 : decode cX9_notes 5 = .ok (.istore 6, 2) := by decide +kernel
theorem dX9_notes_7 : decode cX9_notes 7 = .ok (.aload_n 0, 1) := by decide +kernel
theorem dX9_notes_8 : decode cX9_notes 8 = .ok (.getfield 7, 3) := by decide +kernel
theorem dX9_notes_11 : decode cX9_notes 11 = .ok (.iload_n 2, 1) := by decide +kernel
theorem dX9_notes_12 : decode cX9_notes 12 = .ok (.iload_n 3, 1) := by decide +kernel
theorem dX9_notes_13 : decode cX9_notes 13 = .ok (.iastore, 1) := by decide +kernel
theorem dX9_notes_14 : decode cX9_notes 14 = .ok (.aload_n 0, 1) := by decide +kernel
theorem dX9_notes_15 : decode cX9_notes 15 = .ok (.getfield 7, 3) := by decide +kernel
theorem dX9_notes_18 : decode cX9_notes 18 = .ok (.iload_n 2, 1) := by decide +kernel
theorem dX9_notes_19 : decode cX9_notes 19 = .ok (.iconst 1, 1) := by decide +kernel
theorem dX9_notes_20 : decode cX9_notes 20 = .ok (.iadd, 1) := by decide +kernel
theorem dX9_notes_21 : decode cX9_notes 21 = .ok (.iload 4, 2) := by decide +kernel
theorem dX9_notes_23 : decode cX9_notes 23 = .ok (.iastore, 1) := by decide +kernel
theorem dX9_notes_24 : decode cX9_notes 24 = .ok (.aload_n 0, 1) := by decide +kernel
theorem dX9_notes_25 : decode cX9_notes 25 = .ok (.getfield 7, 3) := by decide +kernel
theorem dX9_notes_28 : decode cX9_notes 28 = .ok (.iload_n 2, 1) := by decide +kernel
theorem dX9_notes_29 : decode cX9_notes 29 = .ok (.iconst 2, 1) := by decide +kernel
theorem dX9_notes_30 : decode cX9_notes 30 = .ok (.iadd, 1) := by decide +kernel
theorem dX9_notes_31 : decode cX9_notes 31 = .ok (.iload 5, 2) := by decide +kernel
theorem dX9_notes_33 : decode cX9_notes 33 = .ok (.iastore, 1) := by decide +kernel
theorem dX9_notes_34 : decode cX9_notes 34 = .ok (.aload_n 0, 1) := by decide +kernel
theorem dX9_notes_35 : decode cX9_notes 35 = .ok (.getfield 7, 3) := by decide +kernel
theorem dX9_notes_38 : decode cX9_notes 38 = .ok (.sipush 392, 3) := by decide +kernel
theorem dX9_notes_41 : decode cX9_notes 41 = .ok (.iload_n 1, 1) := by decide +kernel
theorem dX9_notes_42 : decode cX9_notes 42 = .ok (.iadd, 1) := by decide +kernel
theorem dX9_notes_43 : decode cX9_notes 43 = .ok (.dup2, 1) := by decide +kernel
theorem dX9_notes_44 : decode cX9_notes 44 = .ok (.iaload, 1) := by decide +kernel
theorem dX9_notes_45 : decode cX9_notes 45 = .ok (.iconst 1, 1) := by decide +kernel
theorem dX9_notes_46 : decode cX9_notes 46 = .ok (.iadd, 1) := by decide +kernel
theorem dX9_notes_47 : decode cX9_notes 47 = .ok (.iastore, 1) := by decide +kernel
theorem dX9_notes_48 : decode cX9_notes 48 = .ok (.iload 6, 2) := by decide +kernel
theorem dX9_notes_50 : decode cX9_notes 50 = .ok (.ireturn, 1) := by decide +kernel
theorem dX9_arm_0 : decode cX9_arm 0 = .ok (.iload_n 1, 1) := by decide +kernel
theorem dX9_arm_1 : decode cX9_arm 1 = .ok (.iload_n 2, 1) := by decide +kernel
theorem dX9_arm_2 : decode cX9_arm 2 = .ok (.iload_n 3, 1) := by decide +kernel
theorem dX9_arm_3 : decode cX9_arm 3 = .ok (.invokestatic 106, 3) := by decide +kernel
theorem dX9_arm_6 : decode cX9_arm 6 = .ok (.ifCond .ne 10, 3) := by decide +kernel
theorem dX9_arm_9 : decode cX9_arm 9 = .ok (.aload_n 0, 1) := by decide +kernel
theorem dX9_arm_10 : decode cX9_arm 10 = .ok (.bipush (-2), 2) := by decide +kernel
theorem dX9_arm_12 : decode cX9_arm 12 = .ok (.invokevirtual 110, 3) := by decide +kernel
theorem dX9_arm_15 : decode cX9_arm 15 = .ok (.ireturn, 1) := by decide +kernel
theorem dX9_arm_16 : decode cX9_arm 16 = .ok (.aload_n 0, 1) := by decide +kernel
theorem dX9_arm_17 : decode cX9_arm 17 = .ok (.iconst 0, 1) := by decide +kernel
theorem dX9_arm_18 : decode cX9_arm 18 = .ok (.invokevirtual 102, 3) := by decide +kernel
theorem dX9_arm_21 : decode cX9_arm 21 = .ok (.iconst 4, 1) := by decide +kernel
theorem dX9_arm_22 : decode cX9_arm 22 = .ok (.if_icmp .ne 10, 3) := by decide +kernel
theorem dX9_arm_25 : decode cX9_arm 25 = .ok (.aload_n 0, 1) := by decide +kernel
theorem dX9_arm_26 : decode cX9_arm 26 = .ok (.invokevirtual 113, 3) := by decide +kernel
theorem dX9_arm_29 : decode cX9_arm 29 = .ok (.goto 20, 3) := by decide +kernel
theorem dX9_arm_32 : decode cX9_arm 32 = .ok (.aload_n 0, 1) := by decide +kernel
theorem dX9_arm_33 : decode cX9_arm 33 = .ok (.iconst 0, 1) := by decide +kernel
theorem dX9_arm_34 : decode cX9_arm 34 = .ok (.iconst 0, 1) := by decide +kernel
theorem dX9_arm_35 : decode cX9_arm 35 = .ok (.iconst 3, 1) := by decide +kernel
theorem dX9_arm_36 : decode cX9_arm 36 = .ok (.aload_n 0, 1) := by decide +kernel
theorem dX9_arm_37 : decode cX9_arm 37 = .ok (.iconst 0, 1) := by decide +kernel
theorem dX9_arm_38 : decode cX9_arm 38 = .ok (.invokevirtual 102, 3) := by decide +kernel
theorem dX9_arm_41 : decode cX9_arm 41 = .ok (.imul, 1) := by decide +kernel
theorem dX9_arm_42 : decode cX9_arm 42 = .ok (.iadd, 1) := by decide +kernel
theorem dX9_arm_43 : decode cX9_arm 43 = .ok (.iload_n 1, 1) := by decide +kernel
theorem dX9_arm_44 : decode cX9_arm 44 = .ok (.iload_n 2, 1) := by decide +kernel
theorem dX9_arm_45 : decode cX9_arm 45 = .ok (.iload_n 3, 1) := by decide +kernel
theorem dX9_arm_46 : decode cX9_arm 46 = .ok (.invokevirtual 117, 3) := by decide +kernel
theorem dX9_arm_49 : decode cX9_arm 49 = .ok (.ireturn, 1) := by decide +kernel
theorem dX9_hook_0 : decode cX9_hook 0 = .ok (.iload_n 1, 1) := by decide +kernel
theorem dX9_hook_1 : decode cX9_hook 1 = .ok (.iload_n 2, 1) := by decide +kernel
theorem dX9_hook_2 : decode cX9_hook 2 = .ok (.iload_n 3, 1) := by decide +kernel
theorem dX9_hook_3 : decode cX9_hook 3 = .ok (.invokestatic 121, 3) := by decide +kernel
theorem dX9_hook_6 : decode cX9_hook 6 = .ok (.ifCond .ne 10, 3) := by decide +kernel
theorem dX9_hook_9 : decode cX9_hook 9 = .ok (.aload_n 0, 1) := by decide +kernel
theorem dX9_hook_10 : decode cX9_hook 10 = .ok (.bipush (-2), 2) := by decide +kernel
theorem dX9_hook_12 : decode cX9_hook 12 = .ok (.invokevirtual 110, 3) := by decide +kernel
theorem dX9_hook_15 : decode cX9_hook 15 = .ok (.ireturn, 1) := by decide +kernel
theorem dX9_hook_16 : decode cX9_hook 16 = .ok (.aload_n 0, 1) := by decide +kernel
theorem dX9_hook_17 : decode cX9_hook 17 = .ok (.iconst 1, 1) := by decide +kernel
theorem dX9_hook_18 : decode cX9_hook 18 = .ok (.invokevirtual 102, 3) := by decide +kernel
theorem dX9_hook_21 : decode cX9_hook 21 = .ok (.iconst 4, 1) := by decide +kernel
theorem dX9_hook_22 : decode cX9_hook 22 = .ok (.if_icmp .ne 10, 3) := by decide +kernel
theorem dX9_hook_25 : decode cX9_hook 25 = .ok (.aload_n 0, 1) := by decide +kernel
theorem dX9_hook_26 : decode cX9_hook 26 = .ok (.invokevirtual 113, 3) := by decide +kernel
theorem dX9_hook_29 : decode cX9_hook 29 = .ok (.goto 21, 3) := by decide +kernel
theorem dX9_hook_32 : decode cX9_hook 32 = .ok (.aload_n 0, 1) := by decide +kernel
theorem dX9_hook_33 : decode cX9_hook 33 = .ok (.iconst 1, 1) := by decide +kernel
theorem dX9_hook_34 : decode cX9_hook 34 = .ok (.bipush 12, 2) := by decide +kernel
theorem dX9_hook_36 : decode cX9_hook 36 = .ok (.iconst 3, 1) := by decide +kernel
theorem dX9_hook_37 : decode cX9_hook 37 = .ok (.aload_n 0, 1) := by decide +kernel
theorem dX9_hook_38 : decode cX9_hook 38 = .ok (.iconst 1, 1) := by decide +kernel
theorem dX9_hook_39 : decode cX9_hook 39 = .ok (.invokevirtual 102, 3) := by decide +kernel
theorem dX9_hook_42 : decode cX9_hook 42 = .ok (.imul, 1) := by decide +kernel
theorem dX9_hook_43 : decode cX9_hook 43 = .ok (.iadd, 1) := by decide +kernel
theorem dX9_hook_44 : decode cX9_hook 44 = .ok (.iload_n 1, 1) := by decide +kernel
theorem dX9_hook_45 : decode cX9_hook 45 = .ok (.iload_n 2, 1) := by decide +kernel
theorem dX9_hook_46 : decode cX9_hook 46 = .ok (.iload_n 3, 1) := by decide +kernel
theorem dX9_hook_47 : decode cX9_hook 47 = .ok (.invokevirtual 117, 3) := by decide +kernel
theorem dX9_hook_50 : decode cX9_hook 50 = .ok (.ireturn, 1) := by decide +kernel
theorem dX9_dart_0 : decode cX9_dart 0 = .ok (.iload_n 1, 1) := by decide +kernel
theorem dX9_dart_1 : decode cX9_dart 1 = .ok (.iload_n 2, 1) := by decide +kernel
theorem dX9_dart_2 : decode cX9_dart 2 = .ok (.iload_n 3, 1) := by decide +kernel
theorem dX9_dart_3 : decode cX9_dart 3 = .ok (.iload 4, 2) := by decide +kernel
theorem dX9_dart_5 : decode cX9_dart 5 = .ok (.invokestatic 124, 3) := by decide +kernel
theorem dX9_dart_8 : decode cX9_dart 8 = .ok (.ifCond .ne 10, 3) := by decide +kernel
theorem dX9_dart_11 : decode cX9_dart 11 = .ok (.aload_n 0, 1) := by decide +kernel
theorem dX9_dart_12 : decode cX9_dart 12 = .ok (.bipush (-2), 2) := by decide +kernel
theorem dX9_dart_14 : decode cX9_dart 14 = .ok (.invokevirtual 110, 3) := by decide +kernel
theorem dX9_dart_17 : decode cX9_dart 17 = .ok (.ireturn, 1) := by decide +kernel
theorem dX9_dart_18 : decode cX9_dart 18 = .ok (.aload_n 0, 1) := by decide +kernel
theorem dX9_dart_19 : decode cX9_dart 19 = .ok (.iconst 2, 1) := by decide +kernel
theorem dX9_dart_20 : decode cX9_dart 20 = .ok (.invokevirtual 102, 3) := by decide +kernel
theorem dX9_dart_23 : decode cX9_dart 23 = .ok (.istore 5, 2) := by decide +kernel
theorem dX9_dart_25 : decode cX9_dart 25 = .ok (.iload 5, 2) := by decide +kernel
theorem dX9_dart_27 : decode cX9_dart 27 = .ok (.iconst 4, 1) := by decide +kernel
theorem dX9_dart_28 : decode cX9_dart 28 = .ok (.if_icmp .ne 8, 3) := by decide +kernel
theorem dX9_dart_31 : decode cX9_dart 31 = .ok (.aload_n 0, 1) := by decide +kernel
theorem dX9_dart_32 : decode cX9_dart 32 = .ok (.invokevirtual 113, 3) := by decide +kernel
theorem dX9_dart_35 : decode cX9_dart 35 = .ok (.ireturn, 1) := by decide +kernel
theorem dX9_dart_36 : decode cX9_dart 36 = .ok (.aload_n 0, 1) := by decide +kernel
theorem dX9_dart_37 : decode cX9_dart 37 = .ok (.getfield 7, 3) := by decide +kernel
theorem dX9_dart_40 : decode cX9_dart 40 = .ok (.bipush 24, 2) := by decide +kernel
theorem dX9_dart_42 : decode cX9_dart 42 = .ok (.iconst 4, 1) := by decide +kernel
theorem dX9_dart_43 : decode cX9_dart 43 = .ok (.iload 5, 2) := by decide +kernel
theorem dX9_dart_45 : decode cX9_dart 45 = .ok (.imul, 1) := by decide +kernel
theorem dX9_dart_46 : decode cX9_dart 46 = .ok (.iadd, 1) := by decide +kernel
theorem dX9_dart_47 : decode cX9_dart 47 = .ok (.iload_n 1, 1) := by decide +kernel
theorem dX9_dart_48 : decode cX9_dart 48 = .ok (.iastore, 1) := by decide +kernel
theorem dX9_dart_49 : decode cX9_dart 49 = .ok (.aload_n 0, 1) := by decide +kernel
theorem dX9_dart_50 : decode cX9_dart 50 = .ok (.getfield 7, 3) := by decide +kernel
theorem dX9_dart_53 : decode cX9_dart 53 = .ok (.bipush 24, 2) := by decide +kernel
theorem dX9_dart_55 : decode cX9_dart 55 = .ok (.iconst 4, 1) := by decide +kernel
theorem dX9_dart_56 : decode cX9_dart 56 = .ok (.iload 5, 2) := by decide +kernel
theorem dX9_dart_58 : decode cX9_dart 58 = .ok (.imul, 1) := by decide +kernel
theorem dX9_dart_59 : decode cX9_dart 59 = .ok (.iadd, 1) := by decide +kernel
theorem dX9_dart_60 : decode cX9_dart 60 = .ok (.iconst 1, 1) := by decide +kernel
theorem dX9_dart_61 : decode cX9_dart 61 = .ok (.iadd, 1) := by decide +kernel
theorem dX9_dart_62 : decode cX9_dart 62 = .ok (.iload_n 2, 1) := by decide +kernel
theorem dX9_dart_63 : decode cX9_dart 63 = .ok (.iastore, 1) := by decide +kernel
theorem dX9_dart_64 : decode cX9_dart 64 = .ok (.aload_n 0, 1) := by decide +kernel
theorem dX9_dart_65 : decode cX9_dart 65 = .ok (.getfield 7, 3) := by decide +kernel
theorem dX9_dart_68 : decode cX9_dart 68 = .ok (.bipush 24, 2) := by decide +kernel
theorem dX9_dart_70 : decode cX9_dart 70 = .ok (.iconst 4, 1) := by decide +kernel
theorem dX9_dart_71 : decode cX9_dart 71 = .ok (.iload 5, 2) := by decide +kernel
theorem dX9_dart_73 : decode cX9_dart 73 = .ok (.imul, 1) := by decide +kernel
theorem dX9_dart_74 : decode cX9_dart 74 = .ok (.iadd, 1) := by decide +kernel
theorem dX9_dart_75 : decode cX9_dart 75 = .ok (.iconst 2, 1) := by decide +kernel
theorem dX9_dart_76 : decode cX9_dart 76 = .ok (.iadd, 1) := by decide +kernel
theorem dX9_dart_77 : decode cX9_dart 77 = .ok (.iload_n 3, 1) := by decide +kernel
theorem dX9_dart_78 : decode cX9_dart 78 = .ok (.iastore, 1) := by decide +kernel
theorem dX9_dart_79 : decode cX9_dart 79 = .ok (.aload_n 0, 1) := by decide +kernel
theorem dX9_dart_80 : decode cX9_dart 80 = .ok (.getfield 7, 3) := by decide +kernel
theorem dX9_dart_83 : decode cX9_dart 83 = .ok (.bipush 24, 2) := by decide +kernel
theorem dX9_dart_85 : decode cX9_dart 85 = .ok (.iconst 4, 1) := by decide +kernel
theorem dX9_dart_86 : decode cX9_dart 86 = .ok (.iload 5, 2) := by decide +kernel
theorem dX9_dart_88 : decode cX9_dart 88 = .ok (.imul, 1) := by decide +kernel
theorem dX9_dart_89 : decode cX9_dart 89 = .ok (.iadd, 1) := by decide +kernel
theorem dX9_dart_90 : decode cX9_dart 90 = .ok (.iconst 3, 1) := by decide +kernel
theorem dX9_dart_91 : decode cX9_dart 91 = .ok (.iadd, 1) := by decide +kernel
theorem dX9_dart_92 : decode cX9_dart 92 = .ok (.iload 4, 2) := by decide +kernel
theorem dX9_dart_94 : decode cX9_dart 94 = .ok (.iastore, 1) := by decide +kernel
theorem dX9_dart_95 : decode cX9_dart 95 = .ok (.aload_n 0, 1) := by decide +kernel
theorem dX9_dart_96 : decode cX9_dart 96 = .ok (.getfield 7, 3) := by decide +kernel
theorem dX9_dart_99 : decode cX9_dart 99 = .ok (.sipush 394, 3) := by decide +kernel
theorem dX9_dart_102 : decode cX9_dart 102 = .ok (.dup2, 1) := by decide +kernel
theorem dX9_dart_103 : decode cX9_dart 103 = .ok (.iaload, 1) := by decide +kernel
theorem dX9_dart_104 : decode cX9_dart 104 = .ok (.iconst 1, 1) := by decide +kernel
theorem dX9_dart_105 : decode cX9_dart 105 = .ok (.iadd, 1) := by decide +kernel
theorem dX9_dart_106 : decode cX9_dart 106 = .ok (.iastore, 1) := by decide +kernel
theorem dX9_dart_107 : decode cX9_dart 107 = .ok (.iload 5, 2) := by decide +kernel
theorem dX9_dart_109 : decode cX9_dart 109 = .ok (.ireturn, 1) := by decide +kernel
theorem dX9_take__0 : decode cX9_take_ 0 = .ok (.aload_n 0, 1) := by decide +kernel
theorem dX9_take__1 : decode cX9_take_ 1 = .ok (.aload_n 0, 1) := by decide +kernel
theorem dX9_take__2 : decode cX9_take_ 2 = .ok (.getfield 7, 3) := by decide +kernel
theorem dX9_take__5 : decode cX9_take_ 5 = .ok (.iconst 0, 1) := by decide +kernel
theorem dX9_take__6 : decode cX9_take_ 6 = .ok (.iconst 3, 1) := by decide +kernel
theorem dX9_take__7 : decode cX9_take_ 7 = .ok (.iload_n 1, 1) := by decide +kernel
theorem dX9_take__8 : decode cX9_take_ 8 = .ok (.imul, 1) := by decide +kernel
theorem dX9_take__9 : decode cX9_take_ 9 = .ok (.iadd, 1) := by decide +kernel
theorem dX9_take__10 : decode cX9_take_ 10 = .ok (.iaload, 1) := by decide +kernel
theorem dX9_take__11 : decode cX9_take_ 11 = .ok (.putfield 128, 3) := by decide +kernel
theorem dX9_take__14 : decode cX9_take_ 14 = .ok (.aload_n 0, 1) := by decide +kernel
theorem dX9_take__15 : decode cX9_take_ 15 = .ok (.aload_n 0, 1) := by decide +kernel
theorem dX9_take__16 : decode cX9_take_ 16 = .ok (.getfield 7, 3) := by decide +kernel
theorem dX9_take__19 : decode cX9_take_ 19 = .ok (.iconst 0, 1) := by decide +kernel
theorem dX9_take__20 : decode cX9_take_ 20 = .ok (.iconst 3, 1) := by decide +kernel
theorem dX9_take__21 : decode cX9_take_ 21 = .ok (.iload_n 1, 1) := by decide +kernel
theorem dX9_take__22 : decode cX9_take_ 22 = .ok (.imul, 1) := by decide +kernel
theorem dX9_take__23 : decode cX9_take_ 23 = .ok (.iadd, 1) := by decide +kernel
theorem dX9_take__24 : decode cX9_take_ 24 = .ok (.iconst 1, 1) := by decide +kernel
theorem dX9_take__25 : decode cX9_take_ 25 = .ok (.iadd, 1) := by decide +kernel
theorem dX9_take__26 : decode cX9_take_ 26 = .ok (.iaload, 1) := by decide +kernel
theorem dX9_take__27 : decode cX9_take_ 27 = .ok (.putfield 131, 3) := by decide +kernel
theorem dX9_take__30 : decode cX9_take_ 30 = .ok (.aload_n 0, 1) := by decide +kernel
theorem dX9_take__31 : decode cX9_take_ 31 = .ok (.aload_n 0, 1) := by decide +kernel
theorem dX9_take__32 : decode cX9_take_ 32 = .ok (.getfield 7, 3) := by decide +kernel
theorem dX9_take__35 : decode cX9_take_ 35 = .ok (.iconst 0, 1) := by decide +kernel
theorem dX9_take__36 : decode cX9_take_ 36 = .ok (.iconst 3, 1) := by decide +kernel
theorem dX9_take__37 : decode cX9_take_ 37 = .ok (.iload_n 1, 1) := by decide +kernel
theorem dX9_take__38 : decode cX9_take_ 38 = .ok (.imul, 1) := by decide +kernel
theorem dX9_take__39 : decode cX9_take_ 39 = .ok (.iadd, 1) := by decide +kernel
theorem dX9_take__40 : decode cX9_take_ 40 = .ok (.iconst 2, 1) := by decide +kernel
theorem dX9_take__41 : decode cX9_take_ 41 = .ok (.iadd, 1) := by decide +kernel
theorem dX9_take__42 : decode cX9_take_ 42 = .ok (.iaload, 1) := by decide +kernel
theorem dX9_take__43 : decode cX9_take_ 43 = .ok (.putfield 134, 3) := by decide +kernel
theorem dX9_take__46 : decode cX9_take_ 46 = .ok (.aload_n 0, 1) := by decide +kernel
theorem dX9_take__47 : decode cX9_take_ 47 = .ok (.aload_n 0, 1) := by decide +kernel
theorem dX9_take__48 : decode cX9_take_ 48 = .ok (.getfield 7, 3) := by decide +kernel
theorem dX9_take__51 : decode cX9_take_ 51 = .ok (.bipush 12, 2) := by decide +kernel
theorem dX9_take__53 : decode cX9_take_ 53 = .ok (.iconst 3, 1) := by decide +kernel
theorem dX9_take__54 : decode cX9_take_ 54 = .ok (.iload_n 2, 1) := by decide +kernel
theorem dX9_take__55 : decode cX9_take_ 55 = .ok (.imul, 1) := by decide +kernel
theorem dX9_take__56 : decode cX9_take_ 56 = .ok (.iadd, 1) := by decide +kernel
theorem dX9_take__57 : decode cX9_take_ 57 = .ok (.iaload, 1) := by decide +kernel
theorem dX9_take__58 : decode cX9_take_ 58 = .ok (.putfield 137, 3) := by decide +kernel
theorem dX9_take__61 : decode cX9_take_ 61 = .ok (.aload_n 0, 1) := by decide +kernel
theorem dX9_take__62 : decode cX9_take_ 62 = .ok (.aload_n 0, 1) := by decide +kernel
theorem dX9_take__63 : decode cX9_take_ 63 = .ok (.getfield 7, 3) := by decide +kernel
theorem dX9_take__66 : decode cX9_take_ 66 = .ok (.bipush 12, 2) := by decide +kernel
theorem dX9_take__68 : decode cX9_take_ 68 = .ok (.iconst 3, 1) := by decide +kernel
theorem dX9_take__69 : decode cX9_take_ 69 = .ok (.iload_n 2, 1) := by decide +kernel
theorem dX9_take__70 : decode cX9_take_ 70 = .ok (.imul, 1) := by decide +kernel
theorem dX9_take__71 : decode cX9_take_ 71 = .ok (.iadd, 1) := by decide +kernel
theorem dX9_take__72 : decode cX9_take_ 72 = .ok (.iconst 1, 1) := by decide +kernel
theorem dX9_take__73 : decode cX9_take_ 73 = .ok (.iadd, 1) := by decide +kernel
theorem dX9_take__74 : decode cX9_take_ 74 = .ok (.iaload, 1) := by decide +kernel
theorem dX9_take__75 : decode cX9_take_ 75 = .ok (.putfield 140, 3) := by decide +kernel
theorem dX9_take__78 : decode cX9_take_ 78 = .ok (.aload_n 0, 1) := by decide +kernel
theorem dX9_take__79 : decode cX9_take_ 79 = .ok (.aload_n 0, 1) := by decide +kernel
theorem dX9_take__80 : decode cX9_take_ 80 = .ok (.getfield 7, 3) := by decide +kernel
theorem dX9_take__83 : decode cX9_take_ 83 = .ok (.bipush 12, 2) := by decide +kernel
theorem dX9_take__85 : decode cX9_take_ 85 = .ok (.iconst 3, 1) := by decide +kernel
theorem dX9_take__86 : decode cX9_take_ 86 = .ok (.iload_n 2, 1) := by decide +kernel
theorem dX9_take__87 : decode cX9_take_ 87 = .ok (.imul, 1) := by decide +kernel
theorem dX9_take__88 : decode cX9_take_ 88 = .ok (.iadd, 1) := by decide +kernel
theorem dX9_take__89 : decode cX9_take_ 89 = .ok (.iconst 2, 1) := by decide +kernel
theorem dX9_take__90 : decode cX9_take_ 90 = .ok (.iadd, 1) := by decide +kernel
theorem dX9_take__91 : decode cX9_take_ 91 = .ok (.iaload, 1) := by decide +kernel
theorem dX9_take__92 : decode cX9_take_ 92 = .ok (.putfield 143, 3) := by decide +kernel
theorem dX9_take__95 : decode cX9_take_ 95 = .ok (.aload_n 0, 1) := by decide +kernel
theorem dX9_take__96 : decode cX9_take_ 96 = .ok (.aload_n 0, 1) := by decide +kernel
theorem dX9_take__97 : decode cX9_take_ 97 = .ok (.getfield 7, 3) := by decide +kernel
theorem dX9_take__100 : decode cX9_take_ 100 = .ok (.bipush 24, 2) := by decide +kernel
theorem dX9_take__102 : decode cX9_take_ 102 = .ok (.iconst 4, 1) := by decide +kernel
theorem dX9_take__103 : decode cX9_take_ 103 = .ok (.iload_n 3, 1) := by decide +kernel
theorem dX9_take__104 : decode cX9_take_ 104 = .ok (.imul, 1) := by decide +kernel
theorem dX9_take__105 : decode cX9_take_ 105 = .ok (.iadd, 1) := by decide +kernel
theorem dX9_take__106 : decode cX9_take_ 106 = .ok (.iaload, 1) := by decide +kernel
theorem dX9_take__107 : decode cX9_take_ 107 = .ok (.putfield 146, 3) := by decide +kernel
theorem dX9_take__110 : decode cX9_take_ 110 = .ok (.aload_n 0, 1) := by decide +kernel
theorem dX9_take__111 : decode cX9_take_ 111 = .ok (.aload_n 0, 1) := by decide +kernel
theorem dX9_take__112 : decode cX9_take_ 112 = .ok (.getfield 7, 3) := by decide +kernel
theorem dX9_take__115 : decode cX9_take_ 115 = .ok (.bipush 24, 2) := by decide +kernel
theorem dX9_take__117 : decode cX9_take_ 117 = .ok (.iconst 4, 1) := by decide +kernel
theorem dX9_take__118 : decode cX9_take_ 118 = .ok (.iload_n 3, 1) := by decide +kernel
theorem dX9_take__119 : decode cX9_take_ 119 = .ok (.imul, 1) := by decide +kernel
theorem dX9_take__120 : decode cX9_take_ 120 = .ok (.iadd, 1) := by decide +kernel
theorem dX9_take__121 : decode cX9_take_ 121 = .ok (.iconst 1, 1) := by decide +kernel
theorem dX9_take__122 : decode cX9_take_ 122 = .ok (.iadd, 1) := by decide +kernel
theorem dX9_take__123 : decode cX9_take_ 123 = .ok (.iaload, 1) := by decide +kernel
theorem dX9_take__124 : decode cX9_take_ 124 = .ok (.putfield 149, 3) := by decide +kernel
theorem dX9_take__127 : decode cX9_take_ 127 = .ok (.aload_n 0, 1) := by decide +kernel
theorem dX9_take__128 : decode cX9_take_ 128 = .ok (.aload_n 0, 1) := by decide +kernel
theorem dX9_take__129 : decode cX9_take_ 129 = .ok (.getfield 7, 3) := by decide +kernel
theorem dX9_take__132 : decode cX9_take_ 132 = .ok (.bipush 24, 2) := by decide +kernel
theorem dX9_take__134 : decode cX9_take_ 134 = .ok (.iconst 4, 1) := by decide +kernel
theorem dX9_take__135 : decode cX9_take_ 135 = .ok (.iload_n 3, 1) := by decide +kernel
theorem dX9_take__136 : decode cX9_take_ 136 = .ok (.imul, 1) := by decide +kernel
theorem dX9_take__137 : decode cX9_take_ 137 = .ok (.iadd, 1) := by decide +kernel
theorem dX9_take__138 : decode cX9_take_ 138 = .ok (.iconst 2, 1) := by decide +kernel
theorem dX9_take__139 : decode cX9_take_ 139 = .ok (.iadd, 1) := by decide +kernel
theorem dX9_take__140 : decode cX9_take_ 140 = .ok (.iaload, 1) := by decide +kernel
theorem dX9_take__141 : decode cX9_take_ 141 = .ok (.putfield 152, 3) := by decide +kernel
theorem dX9_take__144 : decode cX9_take_ 144 = .ok (.aload_n 0, 1) := by decide +kernel
theorem dX9_take__145 : decode cX9_take_ 145 = .ok (.aload_n 0, 1) := by decide +kernel
theorem dX9_take__146 : decode cX9_take_ 146 = .ok (.getfield 7, 3) := by decide +kernel
theorem dX9_take__149 : decode cX9_take_ 149 = .ok (.bipush 24, 2) := by decide +kernel
theorem dX9_take__151 : decode cX9_take_ 151 = .ok (.iconst 4, 1) := by decide +kernel
theorem dX9_take__152 : decode cX9_take_ 152 = .ok (.iload_n 3, 1) := by decide +kernel
theorem dX9_take__153 : decode cX9_take_ 153 = .ok (.imul, 1) := by decide +kernel
theorem dX9_take__154 : decode cX9_take_ 154 = .ok (.iadd, 1) := by decide +kernel
theorem dX9_take__155 : decode cX9_take_ 155 = .ok (.iconst 3, 1) := by decide +kernel
theorem dX9_take__156 : decode cX9_take_ 156 = .ok (.iadd, 1) := by decide +kernel
theorem dX9_take__157 : decode cX9_take_ 157 = .ok (.iaload, 1) := by decide +kernel
theorem dX9_take__158 : decode cX9_take_ 158 = .ok (.putfield 155, 3) := by decide +kernel
theorem dX9_take__161 : decode cX9_take_ 161 = .ok (.return_, 1) := by decide +kernel
theorem dX9_push_0 : decode cX9_push 0 = .ok (.iload_n 1, 1) := by decide +kernel
theorem dX9_push_1 : decode cX9_push 1 = .ok (.iconst 5, 1) := by decide +kernel
theorem dX9_push_2 : decode cX9_push 2 = .ok (.if_icmp .ne 7, 3) := by decide +kernel
theorem dX9_push_5 : decode cX9_push 5 = .ok (.iconst 0, 1) := by decide +kernel
theorem dX9_push_6 : decode cX9_push 6 = .ok (.goto 7, 3) := by decide +kernel
theorem dX9_push_9 : decode cX9_push 9 = .ok (.aload_n 0, 1) := by decide +kernel
theorem dX9_push_10 : decode cX9_push 10 = .ok (.getfield 137, 3) := by decide +kernel
theorem dX9_push_13 : decode cX9_push 13 = .ok (.istore_n 3, 1) := by decide +kernel
theorem dX9_push_14 : decode cX9_push 14 = .ok (.iload_n 1, 1) := by decide +kernel
theorem dX9_push_15 : decode cX9_push 15 = .ok (.iconst 5, 1) := by decide +kernel
theorem dX9_push_16 : decode cX9_push 16 = .ok (.if_icmp .ne 7, 3) := by decide +kernel
theorem dX9_push_19 : decode cX9_push 19 = .ok (.iconst 0, 1) := by decide +kernel
theorem dX9_push_20 : decode cX9_push 20 = .ok (.goto 22, 3) := by decide +kernel
theorem dX9_push_23 : decode cX9_push 23 = .ok (.iload_n 1, 1) := by decide +kernel
theorem dX9_push_24 : decode cX9_push 24 = .ok (.bipush 6, 2) := by decide +kernel
theorem dX9_push_26 : decode cX9_push 26 = .ok (.if_icmp .ne 12, 3) := by decide +kernel
theorem dX9_push_29 : decode cX9_push 29 = .ok (.aload_n 0, 1) := by decide +kernel
theorem dX9_push_30 : decode cX9_push 30 = .ok (.getfield 140, 3) := by decide +kernel
theorem dX9_push_33 : decode cX9_push 33 = .ok (.iload_n 2, 1) := by decide +kernel
theorem dX9_push_34 : decode cX9_push 34 = .ok (.iadd, 1) := by decide +kernel
theorem dX9_push_35 : decode cX9_push 35 = .ok (.goto 7, 3) := by decide +kernel
theorem dX9_push_38 : decode cX9_push 38 = .ok (.aload_n 0, 1) := by decide +kernel
theorem dX9_push_39 : decode cX9_push 39 = .ok (.getfield 140, 3) := by decide +kernel
theorem dX9_push_42 : decode cX9_push 42 = .ok (.istore 4, 2) := by decide +kernel
theorem dX9_push_44 : decode cX9_push 44 = .ok (.iload_n 1, 1) := by decide +kernel
theorem dX9_push_45 : decode cX9_push 45 = .ok (.iconst 5, 1) := by decide +kernel
theorem dX9_push_46 : decode cX9_push 46 = .ok (.if_icmp .ne 7, 3) := by decide +kernel
theorem dX9_push_49 : decode cX9_push 49 = .ok (.iconst 0, 1) := by decide +kernel
theorem dX9_push_50 : decode cX9_push 50 = .ok (.goto 7, 3) := by decide +kernel
theorem dX9_push_53 : decode cX9_push 53 = .ok (.aload_n 0, 1) := by decide +kernel
theorem dX9_push_54 : decode cX9_push 54 = .ok (.getfield 143, 3) := by decide +kernel
theorem dX9_push_57 : decode cX9_push 57 = .ok (.istore 5, 2) := by decide +kernel
theorem dX9_push_59 : decode cX9_push 59 = .ok (.iload_n 1, 1) := by decide +kernel
theorem dX9_push_60 : decode cX9_push 60 = .ok (.iconst 2, 1) := by decide +kernel
theorem dX9_push_61 : decode cX9_push 61 = .ok (.if_icmp .ne 26, 3) := by decide +kernel
theorem dX9_push_64 : decode cX9_push 64 = .ok (.aload_n 0, 1) := by decide +kernel
theorem dX9_push_65 : decode cX9_push 65 = .ok (.getfield 149, 3) := by decide +kernel
theorem dX9_push_68 : decode cX9_push 68 = .ok (.iconst 2, 1) := by decide +kernel
theorem dX9_push_69 : decode cX9_push 69 = .ok (.idiv, 1) := by decide +kernel
theorem dX9_push_70 : decode cX9_push 70 = .ok (.iconst 1, 1) := by decide +kernel
theorem dX9_push_71 : decode cX9_push 71 = .ok (.if_icmp .ge 7, 3) := by decide +kernel
theorem dX9_push_74 : decode cX9_push 74 = .ok (.iconst 1, 1) := by decide +kernel
theorem dX9_push_75 : decode cX9_push 75 = .ok (.goto 46, 3) := by decide +kernel
theorem dX9_push_78 : decode cX9_push 78 = .ok (.aload_n 0, 1) := by decide +kernel
theorem dX9_push_79 : decode cX9_push 79 = .ok (.getfield 149, 3) := by decide +kernel
theorem dX9_push_82 : decode cX9_push 82 = .ok (.iconst 2, 1) := by decide +kernel
theorem dX9_push_83 : decode cX9_push 83 = .ok (.idiv, 1) := by decide +kernel
theorem dX9_push_84 : decode cX9_push 84 = .ok (.goto 37, 3) := by decide +kernel
theorem dX9_push_87 : decode cX9_push 87 = .ok (.iload_n 1, 1) := by decide +kernel
theorem dX9_push_88 : decode cX9_push 88 = .ok (.iconst 3, 1) := by decide +kernel
theorem dX9_push_89 : decode cX9_push 89 = .ok (.if_icmp .ne 28, 3) := by decide +kernel
theorem dX9_push_92 : decode cX9_push 92 = .ok (.iconst 2, 1) := by decide +kernel
theorem dX9_push_93 : decode cX9_push 93 = .ok (.aload_n 0, 1) := by decide +kernel
theorem dX9_push_94 : decode cX9_push 94 = .ok (.getfield 149, 3) := by decide +kernel
theorem dX9_push_97 : decode cX9_push 97 = .ok (.imul, 1) := by decide +kernel
theorem dX9_push_98 : decode cX9_push 98 = .ok (.bipush 99, 2) := by decide +kernel
theorem dX9_push_100 : decode cX9_push 100 = .ok (.if_icmp .le 8, 3) := by decide +kernel
theorem dX9_push_103 : decode cX9_push 103 = .ok (.bipush 99, 2) := by decide +kernel
theorem dX9_push_105 : decode cX9_push 105 = .ok (.goto 16, 3) := by decide +kernel
theorem dX9_push_108 : decode cX9_push 108 = .ok (.iconst 2, 1) := by decide +kernel
theorem dX9_push_109 : decode cX9_push 109 = .ok (.aload_n 0, 1) := by decide +kernel
theorem dX9_push_110 : decode cX9_push 110 = .ok (.getfield 149, 3) := by decide +kernel
theorem dX9_push_113 : decode cX9_push 113 = .ok (.imul, 1) := by decide +kernel
theorem dX9_push_114 : decode cX9_push 114 = .ok (.goto 7, 3) := by decide +kernel
theorem dX9_push_117 : decode cX9_push 117 = .ok (.aload_n 0, 1) := by decide +kernel
theorem dX9_push_118 : decode cX9_push 118 = .ok (.getfield 149, 3) := by decide +kernel
theorem dX9_push_121 : decode cX9_push 121 = .ok (.istore 6, 2) := by decide +kernel
theorem dX9_push_123 : decode cX9_push 123 = .ok (.aload_n 0, 1) := by decide +kernel
theorem dX9_push_124 : decode cX9_push 124 = .ok (.getfield 146, 3) := by decide +kernel
theorem dX9_push_127 : decode cX9_push 127 = .ok (.aload_n 0, 1) := by decide +kernel
theorem dX9_push_128 : decode cX9_push 128 = .ok (.getfield 152, 3) := by decide +kernel
theorem dX9_push_131 : decode cX9_push 131 = .ok (.iadd, 1) := by decide +kernel
theorem dX9_push_132 : decode cX9_push 132 = .ok (.iload_n 3, 1) := by decide +kernel
theorem dX9_push_133 : decode cX9_push 133 = .ok (.iadd, 1) := by decide +kernel
theorem dX9_push_134 : decode cX9_push 134 = .ok (.iload 4, 2) := by decide +kernel
theorem dX9_push_136 : decode cX9_push 136 = .ok (.iload 5, 2) := by decide +kernel
theorem dX9_push_138 : decode cX9_push 138 = .ok (.imul, 1) := by decide +kernel
theorem dX9_push_139 : decode cX9_push 139 = .ok (.iload_n 3, 1) := by decide +kernel
theorem dX9_push_140 : decode cX9_push 140 = .ok (.iconst 1, 1) := by decide +kernel
theorem dX9_push_141 : decode cX9_push 141 = .ok (.iadd, 1) := by decide +kernel
theorem dX9_push_142 : decode cX9_push 142 = .ok (.idiv, 1) := by decide +kernel
theorem dX9_push_143 : decode cX9_push 143 = .ok (.iadd, 1) := by decide +kernel
theorem dX9_push_144 : decode cX9_push 144 = .ok (.istore 7, 2) := by decide +kernel
theorem dX9_push_146 : decode cX9_push 146 = .ok (.bipush 10, 2) := by decide +kernel
theorem dX9_push_148 : decode cX9_push 148 = .ok (.aload_n 0, 1) := by decide +kernel
theorem dX9_push_149 : decode cX9_push 149 = .ok (.getfield 134, 3) := by decide +kernel
theorem dX9_push_152 : decode cX9_push 152 = .ok (.iadd, 1) := by decide +kernel
theorem dX9_push_153 : decode cX9_push 153 = .ok (.iload_n 1, 1) := by decide +kernel
theorem dX9_push_154 : decode cX9_push 154 = .ok (.iconst 1, 1) := by decide +kernel
theorem dX9_push_155 : decode cX9_push 155 = .ok (.if_icmp .eq 8, 3) := by decide +kernel
theorem dX9_push_158 : decode cX9_push 158 = .ok (.iload_n 1, 1) := by decide +kernel
theorem dX9_push_159 : decode cX9_push 159 = .ok (.iconst 5, 1) := by decide +kernel
theorem dX9_push_160 : decode cX9_push 160 = .ok (.if_icmp .ne 7, 3) := by decide +kernel
theorem dX9_push_163 : decode cX9_push 163 = .ok (.iload_n 2, 1) := by decide +kernel
theorem dX9_push_164 : decode cX9_push 164 = .ok (.goto 4, 3) := by decide +kernel
theorem dX9_push_167 : decode cX9_push 167 = .ok (.iconst 0, 1) := by decide +kernel
theorem dX9_push_168 : decode cX9_push 168 = .ok (.isub, 1) := by decide +kernel
theorem dX9_push_169 : decode cX9_push 169 = .ok (.istore 8, 2) := by decide +kernel
theorem dX9_push_171 : decode cX9_push 171 = .ok (.iconst 0, 1) := by decide +kernel
theorem dX9_push_172 : decode cX9_push 172 = .ok (.istore 9, 2) := by decide +kernel
theorem dX9_push_174 : decode cX9_push 174 = .ok (.iconst 0, 1) := by decide +kernel
theorem dX9_push_175 : decode cX9_push 175 = .ok (.istore 10, 2) := by decide +kernel
theorem dX9_push_177 : decode cX9_push 177 = .ok (.aload_n 0, 1) := by decide +kernel
theorem dX9_push_178 : decode cX9_push 178 = .ok (.iconst 0, 1) := by decide +kernel
theorem dX9_push_179 : decode cX9_push 179 = .ok (.putfield 158, 3) := by decide +kernel
theorem dX9_push_182 : decode cX9_push 182 = .ok (.iconst 0, 1) := by decide +kernel
theorem dX9_push_183 : decode cX9_push 183 = .ok (.istore 11, 2) := by decide +kernel
theorem dX9_push_185 : decode cX9_push 185 = .ok (.iload 11, 2) := by decide +kernel
theorem dX9_push_187 : decode cX9_push 187 = .ok (.iload 8, 2) := by decide +kernel
theorem dX9_push_189 : decode cX9_push 189 = .ok (.iconst 1, 1) := by decide +kernel
theorem dX9_push_190 : decode cX9_push 190 = .ok (.if_icmp .ge 7, 3) := by decide +kernel
theorem dX9_push_193 : decode cX9_push 193 = .ok (.iconst 1, 1) := by decide +kernel
theorem dX9_push_194 : decode cX9_push 194 = .ok (.goto 5, 3) := by decide +kernel
theorem dX9_push_197 : decode cX9_push 197 = .ok (.iload 8, 2) := by decide +kernel
theorem dX9_push_199 : decode cX9_push 199 = .ok (.if_icmp .ge 72, 3) := by decide +kernel
theorem dX9_push_202 : decode cX9_push 202 = .ok (.iload 9, 2) := by decide +kernel
theorem dX9_push_204 : decode cX9_push 204 = .ok (.bipush 60, 2) := by decide +kernel
theorem dX9_push_206 : decode cX9_push 206 = .ok (.aload_n 0, 1) := by decide +kernel
theorem dX9_push_207 : decode cX9_push 207 = .ok (.getfield 131, 3) := by decide +kernel
theorem dX9_push_210 : decode cX9_push 210 = .ok (.imul, 1) := by decide +kernel
theorem dX9_push_211 : decode cX9_push 211 = .ok (.iload 7, 2) := by decide +kernel
theorem dX9_push_213 : decode cX9_push 213 = .ok (.idiv, 1) := by decide +kernel
theorem dX9_push_214 : decode cX9_push 214 = .ok (.iadd, 1) := by decide +kernel
theorem dX9_push_215 : decode cX9_push 215 = .ok (.istore 9, 2) := by decide +kernel
theorem dX9_push_217 : decode cX9_push 217 = .ok (.iload 9, 2) := by decide +kernel
theorem dX9_push_219 : decode cX9_push 219 = .ok (.aload_n 0, 1) := by decide +kernel
theorem dX9_push_220 : decode cX9_push 220 = .ok (.getfield 128, 3) := by decide +kernel
theorem dX9_push_223 : decode cX9_push 223 = .ok (.iload_n 3, 1) := by decide +kernel
theorem dX9_push_224 : decode cX9_push 224 = .ok (.iadd, 1) := by decide +kernel
theorem dX9_push_225 : decode cX9_push 225 = .ok (.imul, 1) := by decide +kernel
theorem dX9_push_226 : decode cX9_push 226 = .ok (.aload_n 0, 1) := by decide +kernel
theorem dX9_push_227 : decode cX9_push 227 = .ok (.getfield 128, 3) := by decide +kernel
theorem dX9_push_230 : decode cX9_push 230 = .ok (.idiv, 1) := by decide +kernel
theorem dX9_push_231 : decode cX9_push 231 = .ok (.istore 10, 2) := by decide +kernel
theorem dX9_push_233 : decode cX9_push 233 = .ok (.aload_n 0, 1) := by decide +kernel
theorem dX9_push_234 : decode cX9_push 234 = .ok (.dup, 1) := by decide +kernel
theorem dX9_push_235 : decode cX9_push 235 = .ok (.getfield 158, 3) := by decide +kernel
theorem dX9_push_238 : decode cX9_push 238 = .ok (.iload 10, 2) := by decide +kernel
theorem dX9_push_240 : decode cX9_push 240 = .ok (.bipush 10, 2) := by decide +kernel
theorem dX9_push_242 : decode cX9_push 242 = .ok (.aload_n 0, 1) := by decide +kernel
theorem dX9_push_243 : decode cX9_push 243 = .ok (.getfield 152, 3) := by decide +kernel
theorem dX9_push_246 : decode cX9_push 246 = .ok (.iadd, 1) := by decide +kernel
theorem dX9_push_247 : decode cX9_push 247 = .ok (.imul, 1) := by decide +kernel
theorem dX9_push_248 : decode cX9_push 248 = .ok (.bipush 10, 2) := by decide +kernel
theorem dX9_push_250 : decode cX9_push 250 = .ok (.iload 6, 2) := by decide +kernel
theorem dX9_push_252 : decode cX9_push 252 = .ok (.imul, 1) := by decide +kernel
theorem dX9_push_253 : decode cX9_push 253 = .ok (.idiv, 1) := by decide +kernel
theorem dX9_push_254 : decode cX9_push 254 = .ok (.aload_n 0, 1) := by decide +kernel
theorem dX9_push_255 : decode cX9_push 255 = .ok (.getfield 158, 3) := by decide +kernel
theorem dX9_push_258 : decode cX9_push 258 = .ok (.isub, 1) := by decide +kernel
theorem dX9_push_259 : decode cX9_push 259 = .ok (.iconst 3, 1) := by decide +kernel
theorem dX9_push_260 : decode cX9_push 260 = .ok (.idiv, 1) := by decide +kernel
theorem dX9_push_261 : decode cX9_push 261 = .ok (.iadd, 1) := by decide +kernel
theorem dX9_push_262 : decode cX9_push 262 = .ok (.putfield 158, 3) := by decide +kernel
theorem dX9_push_265 : decode cX9_push 265 = .ok (.iinc 11 1, 3) := by decide +kernel
theorem dX9_push_268 : decode cX9_push 268 = .ok (.goto (-83), 3) := by decide +kernel
theorem dX9_push_271 : decode cX9_push 271 = .ok (.aload_n 0, 1) := by decide +kernel
theorem dX9_push_272 : decode cX9_push 272 = .ok (.iload 10, 2) := by decide +kernel
theorem dX9_push_274 : decode cX9_push 274 = .ok (.aload_n 0, 1) := by decide +kernel
theorem dX9_push_275 : decode cX9_push 275 = .ok (.getfield 158, 3) := by decide +kernel
theorem dX9_push_278 : decode cX9_push 278 = .ok (.iload 6, 2) := by decide +kernel
theorem dX9_push_280 : decode cX9_push 280 = .ok (.imul, 1) := by decide +kernel
theorem dX9_push_281 : decode cX9_push 281 = .ok (.bipush 50, 2) := by decide +kernel
theorem dX9_push_283 : decode cX9_push 283 = .ok (.idiv, 1) := by decide +kernel
theorem dX9_push_284 : decode cX9_push 284 = .ok (.iadd, 1) := by decide +kernel
theorem dX9_push_285 : decode cX9_push 285 = .ok (.putfield 161, 3) := by decide +kernel
theorem dX9_push_288 : decode cX9_push 288 = .ok (.aload_n 0, 1) := by decide +kernel
theorem dX9_push_289 : decode cX9_push 289 = .ok (.aload_n 0, 1) := by decide +kernel
theorem dX9_push_290 : decode cX9_push 290 = .ok (.getfield 158, 3) := by decide +kernel
theorem dX9_push_293 : decode cX9_push 293 = .ok (.bipush 10, 2) := by decide +kernel
theorem dX9_push_295 : decode cX9_push 295 = .ok (.if_icmp .ge 13, 3) := by decide +kernel
theorem dX9_push_298 : decode cX9_push 298 = .ok (.bipush 10, 2) := by decide +kernel
theorem dX9_push_300 : decode cX9_push 300 = .ok (.aload_n 0, 1) := by decide +kernel
theorem dX9_push_301 : decode cX9_push 301 = .ok (.getfield 158, 3) := by decide +kernel
theorem dX9_push_304 : decode cX9_push 304 = .ok (.isub, 1) := by decide +kernel
theorem dX9_push_305 : decode cX9_push 305 = .ok (.goto 23, 3) := by decide +kernel
theorem dX9_push_308 : decode cX9_push 308 = .ok (.aload_n 0, 1) := by decide +kernel
theorem dX9_push_309 : decode cX9_push 309 = .ok (.getfield 158, 3) := by decide +kernel
theorem dX9_push_312 : decode cX9_push 312 = .ok (.bipush 30, 2) := by decide +kernel
theorem dX9_push_314 : decode cX9_push 314 = .ok (.if_icmp .le 13, 3) := by decide +kernel
theorem dX9_push_317 : decode cX9_push 317 = .ok (.aload_n 0, 1) := by decide +kernel
theorem dX9_push_318 : decode cX9_push 318 = .ok (.getfield 158, 3) := by decide +kernel
theorem dX9_push_321 : decode cX9_push 321 = .ok (.bipush 30, 2) := by decide +kernel
theorem dX9_push_323 : decode cX9_push 323 = .ok (.isub, 1) := by decide +kernel
theorem dX9_push_324 : decode cX9_push 324 = .ok (.goto 4, 3) := by decide +kernel
theorem dX9_push_327 : decode cX9_push 327 = .ok (.iconst 0, 1) := by decide +kernel
theorem dX9_push_328 : decode cX9_push 328 = .ok (.putfield 164, 3) := by decide +kernel
theorem dX9_push_331 : decode cX9_push 331 = .ok (.return_, 1) := by decide +kernel
theorem dX9_forward_0 : decode cX9_forward 0 = .ok (.iload_n 0, 1) := by decide +kernel
theorem dX9_forward_1 : decode cX9_forward 1 = .ok (.ifCond .ne 8, 3) := by decide +kernel
theorem dX9_forward_4 : decode cX9_forward 4 = .ok (.bipush 100, 2) := by decide +kernel
theorem dX9_forward_6 : decode cX9_forward 6 = .ok (.goto 55, 3) := by decide +kernel
theorem dX9_forward_9 : decode cX9_forward 9 = .ok (.iload_n 0, 1) := by decide +kernel
theorem dX9_forward_10 : decode cX9_forward 10 = .ok (.iconst 1, 1) := by decide +kernel
theorem dX9_forward_11 : decode cX9_forward 11 = .ok (.if_icmp .ne 8, 3) := by decide +kernel
theorem dX9_forward_14 : decode cX9_forward 14 = .ok (.bipush 98, 2) := by decide +kernel
theorem dX9_forward_16 : decode cX9_forward 16 = .ok (.goto 45, 3) := by decide +kernel
theorem dX9_forward_19 : decode cX9_forward 19 = .ok (.iload_n 0, 1) := by decide +kernel
theorem dX9_forward_20 : decode cX9_forward 20 = .ok (.iconst 2, 1) := by decide +kernel
theorem dX9_forward_21 : decode cX9_forward 21 = .ok (.if_icmp .ne 8, 3) := by decide +kernel
theorem dX9_forward_24 : decode cX9_forward 24 = .ok (.bipush 94, 2) := by decide +kernel
theorem dX9_forward_26 : decode cX9_forward 26 = .ok (.goto 35, 3) := by decide +kernel
theorem dX9_forward_29 : decode cX9_forward 29 = .ok (.iload_n 0, 1) := by decide +kernel
theorem dX9_forward_30 : decode cX9_forward 30 = .ok (.iconst 3, 1) := by decide +kernel
theorem dX9_forward_31 : decode cX9_forward 31 = .ok (.if_icmp .ne 8, 3) := by decide +kernel
theorem dX9_forward_34 : decode cX9_forward 34 = .ok (.bipush 87, 2) := by decide +kernel
theorem dX9_forward_36 : decode cX9_forward 36 = .ok (.goto 25, 3) := by decide +kernel
theorem dX9_forward_39 : decode cX9_forward 39 = .ok (.iload_n 0, 1) := by decide +kernel
theorem dX9_forward_40 : decode cX9_forward 40 = .ok (.iconst 4, 1) := by decide +kernel
theorem dX9_forward_41 : decode cX9_forward 41 = .ok (.if_icmp .ne 8, 3) := by decide +kernel
theorem dX9_forward_44 : decode cX9_forward 44 = .ok (.bipush 77, 2) := by decide +kernel
theorem dX9_forward_46 : decode cX9_forward 46 = .ok (.goto 15, 3) := by decide +kernel
theorem dX9_forward_49 : decode cX9_forward 49 = .ok (.iload_n 0, 1) := by decide +kernel
theorem dX9_forward_50 : decode cX9_forward 50 = .ok (.iconst 5, 1) := by decide +kernel
theorem dX9_forward_51 : decode cX9_forward 51 = .ok (.if_icmp .ne 8, 3) := by decide +kernel
theorem dX9_forward_54 : decode cX9_forward 54 = .ok (.bipush 64, 2) := by decide +kernel
theorem dX9_forward_56 : decode cX9_forward 56 = .ok (.goto 5, 3) := by decide +kernel
theorem dX9_forward_59 : decode cX9_forward 59 = .ok (.bipush 50, 2) := by decide +kernel
theorem dX9_forward_61 : decode cX9_forward 61 = .ok (.ireturn, 1) := by decide +kernel
theorem dX9_upward_0 : decode cX9_upward 0 = .ok (.iload_n 0, 1) := by decide +kernel
theorem dX9_upward_1 : decode cX9_upward 1 = .ok (.ifCond .ne 7, 3) := by decide +kernel
theorem dX9_upward_4 : decode cX9_upward 4 = .ok (.iconst 0, 1) := by decide +kernel
theorem dX9_upward_5 : decode cX9_upward 5 = .ok (.goto 55, 3) := by decide +kernel
theorem dX9_upward_8 : decode cX9_upward 8 = .ok (.iload_n 0, 1) := by decide +kernel
theorem dX9_upward_9 : decode cX9_upward 9 = .ok (.iconst 1, 1) := by decide +kernel
theorem dX9_upward_10 : decode cX9_upward 10 = .ok (.if_icmp .ne 8, 3) := by decide +kernel
theorem dX9_upward_13 : decode cX9_upward 13 = .ok (.bipush 17, 2) := by decide +kernel
theorem dX9_upward_15 : decode cX9_upward 15 = .ok (.goto 45, 3) := by decide +kernel
theorem dX9_upward_18 : decode cX9_upward 18 = .ok (.iload_n 0, 1) := by decide +kernel
theorem dX9_upward_19 : decode cX9_upward 19 = .ok (.iconst 2, 1) := by decide +kernel
theorem dX9_upward_20 : decode cX9_upward 20 = .ok (.if_icmp .ne 8, 3) := by decide +kernel
theorem dX9_upward_23 : decode cX9_upward 23 = .ok (.bipush 34, 2) := by decide +kernel
theorem dX9_upward_25 : decode cX9_upward 25 = .ok (.goto 35, 3) := by decide +kernel
theorem dX9_upward_28 : decode cX9_upward 28 = .ok (.iload_n 0, 1) := by decide +kernel
theorem dX9_upward_29 : decode cX9_upward 29 = .ok (.iconst 3, 1) := by decide +kernel
theorem dX9_upward_30 : decode cX9_upward 30 = .ok (.if_icmp .ne 8, 3) := by decide +kernel
theorem dX9_upward_33 : decode cX9_upward 33 = .ok (.bipush 50, 2) := by decide +kernel
theorem dX9_upward_35 : decode cX9_upward 35 = .ok (.goto 25, 3) := by decide +kernel
theorem dX9_upward_38 : decode cX9_upward 38 = .ok (.iload_n 0, 1) := by decide +kernel
theorem dX9_upward_39 : decode cX9_upward 39 = .ok (.iconst 4, 1) := by decide +kernel
theorem dX9_upward_40 : decode cX9_upward 40 = .ok (.if_icmp .ne 8, 3) := by decide +kernel
theorem dX9_upward_43 : decode cX9_upward 43 = .ok (.bipush 64, 2) := by decide +kernel
theorem dX9_upward_45 : decode cX9_upward 45 = .ok (.goto 15, 3) := by decide +kernel
theorem dX9_upward_48 : decode cX9_upward 48 = .ok (.iload_n 0, 1) := by decide +kernel
theorem dX9_upward_49 : decode cX9_upward 49 = .ok (.iconst 5, 1) := by decide +kernel
theorem dX9_upward_50 : decode cX9_upward 50 = .ok (.if_icmp .ne 8, 3) := by decide +kernel
theorem dX9_upward_53 : decode cX9_upward 53 = .ok (.bipush 77, 2) := by decide +kernel
theorem dX9_upward_55 : decode cX9_upward 55 = .ok (.goto 5, 3) := by decide +kernel
theorem dX9_upward_58 : decode cX9_upward 58 = .ok (.bipush 87, 2) := by decide +kernel
theorem dX9_upward_60 : decode cX9_upward 60 = .ok (.ireturn, 1) := by decide +kernel
theorem dX9_leave_0 : decode cX9_leave 0 = .ok (.aload_n 0, 1) := by decide +kernel
theorem dX9_leave_1 : decode cX9_leave 1 = .ok (.aload_n 0, 1) := by decide +kernel
theorem dX9_leave_2 : decode cX9_leave 2 = .ok (.getfield 161, 3) := by decide +kernel
theorem dX9_leave_5 : decode cX9_leave 5 = .ok (.i2l, 1) := by decide +kernel
theorem dX9_leave_6 : decode cX9_leave 6 = .ok (.iload_n 1, 1) := by decide +kernel
theorem dX9_leave_7 : decode cX9_leave 7 = .ok (.invokestatic 167, 3) := by decide +kernel
theorem dX9_leave_10 : decode cX9_leave 10 = .ok (.i2l, 1) := by decide +kernel
theorem dX9_leave_11 : decode cX9_leave 11 = .ok (.lmul, 1) := by decide +kernel
theorem dX9_leave_12 : decode cX9_leave 12 = .ok (.ldc2_w 170, 3) := by decide +kernel
theorem dX9_leave_15 : decode cX9_leave 15 = .ok (.ldiv, 1) := by decide +kernel
theorem dX9_leave_16 : decode cX9_leave 16 = .ok (.l2i, 1) := by decide +kernel
theorem dX9_leave_17 : decode cX9_leave 17 = .ok (.putfield 172, 3) := by decide +kernel
theorem dX9_leave_20 : decode cX9_leave 20 = .ok (.aload_n 0, 1) := by decide +kernel
theorem dX9_leave_21 : decode cX9_leave 21 = .ok (.aload_n 0, 1) := by decide +kernel
theorem dX9_leave_22 : decode cX9_leave 22 = .ok (.getfield 161, 3) := by decide +kernel
theorem dX9_leave_25 : decode cX9_leave 25 = .ok (.i2l, 1) := by decide +kernel
theorem dX9_leave_26 : decode cX9_leave 26 = .ok (.iload_n 1, 1) := by decide +kernel
theorem dX9_leave_27 : decode cX9_leave 27 = .ok (.invokestatic 175, 3) := by decide +kernel
theorem dX9_leave_30 : decode cX9_leave 30 = .ok (.i2l, 1) := by decide +kernel
theorem dX9_leave_31 : decode cX9_leave 31 = .ok (.lmul, 1) := by decide +kernel
theorem dX9_leave_32 : decode cX9_leave 32 = .ok (.ldc2_w 170, 3) := by decide +kernel
theorem dX9_leave_35 : decode cX9_leave 35 = .ok (.ldiv, 1) := by decide +kernel
theorem dX9_leave_36 : decode cX9_leave 36 = .ok (.l2i, 1) := by decide +kernel
theorem dX9_leave_37 : decode cX9_leave 37 = .ok (.putfield 178, 3) := by decide +kernel
theorem dX9_leave_40 : decode cX9_leave 40 = .ok (.aload_n 0, 1) := by decide +kernel
theorem dX9_leave_41 : decode cX9_leave 41 = .ok (.iconst 0, 1) := by decide +kernel
theorem dX9_leave_42 : decode cX9_leave 42 = .ok (.putfield 181, 3) := by decide +kernel
theorem dX9_leave_45 : decode cX9_leave 45 = .ok (.aload_n 0, 1) := by decide +kernel
theorem dX9_leave_46 : decode cX9_leave 46 = .ok (.sipush 150, 3) := by decide +kernel
theorem dX9_leave_49 : decode cX9_leave 49 = .ok (.putfield 184, 3) := by decide +kernel
theorem dX9_leave_52 : decode cX9_leave 52 = .ok (.aload_n 0, 1) := by decide +kernel
theorem dX9_leave_53 : decode cX9_leave 53 = .ok (.sipush 150, 3) := by decide +kernel
theorem dX9_leave_56 : decode cX9_leave 56 = .ok (.putfield 187, 3) := by decide +kernel
theorem dX9_leave_59 : decode cX9_leave 59 = .ok (.aload_n 0, 1) := by decide +kernel
theorem dX9_leave_60 : decode cX9_leave 60 = .ok (.iconst 0, 1) := by decide +kernel
theorem dX9_leave_61 : decode cX9_leave 61 = .ok (.putfield 190, 3) := by decide +kernel
theorem dX9_leave_64 : decode cX9_leave 64 = .ok (.return_, 1) := by decide +kernel
theorem dX9_goOn_0 : decode cX9_goOn 0 = .ok (.ldc2_w 193, 3) := by decide +kernel
theorem dX9_goOn_3 : decode cX9_goOn 3 = .ok (.aload_n 0, 1) := by decide +kernel
theorem dX9_goOn_4 : decode cX9_goOn 4 = .ok (.getfield 155, 3) := by decide +kernel
theorem dX9_goOn_7 : decode cX9_goOn 7 = .ok (.ifCond .ne 15, 3) := by decide +kernel
theorem dX9_goOn_10 : decode cX9_goOn 10 = .ok (.ldc2_w 195, 3) := by decide +kernel
theorem dX9_goOn_13 : decode cX9_goOn 13 = .ok (.aload_n 0, 1) := by decide +kernel
theorem dX9_goOn_14 : decode cX9_goOn 14 = .ok (.getfield 164, 3) := by decide +kernel
theorem dX9_goOn_17 : decode cX9_goOn 17 = .ok (.i2l, 1) := by decide +kernel
theorem dX9_goOn_18 : decode cX9_goOn 18 = .ok (.lmul, 1) := by decide +kernel
theorem dX9_goOn_19 : decode cX9_goOn 19 = .ok (.goto 18, 3) := by decide +kernel
theorem dX9_goOn_22 : decode cX9_goOn 22 = .ok (.ldc2_w 46, 3) := by decide +kernel
theorem dX9_goOn_25 : decode cX9_goOn 25 = .ok (.aload_n 0, 1) := by decide +kernel
theorem dX9_goOn_26 : decode cX9_goOn 26 = .ok (.getfield 155, 3) := by decide +kernel
theorem dX9_goOn_29 : decode cX9_goOn 29 = .ok (.i2l, 1) := by decide +kernel
theorem dX9_goOn_30 : decode cX9_goOn 30 = .ok (.lmul, 1) := by decide +kernel
theorem dX9_goOn_31 : decode cX9_goOn 31 = .ok (.aload_n 0, 1) := by decide +kernel
theorem dX9_goOn_32 : decode cX9_goOn 32 = .ok (.getfield 164, 3) := by decide +kernel
theorem dX9_goOn_35 : decode cX9_goOn 35 = .ok (.i2l, 1) := by decide +kernel
theorem dX9_goOn_36 : decode cX9_goOn 36 = .ok (.ladd, 1) := by decide +kernel
theorem dX9_goOn_37 : decode cX9_goOn 37 = .ok (.ladd, 1) := by decide +kernel
theorem dX9_goOn_38 : decode cX9_goOn 38 = .ok (.lstore_n 1, 1) := by decide +kernel
theorem dX9_goOn_39 : decode cX9_goOn 39 = .ok (.aload_n 0, 1) := by decide +kernel
theorem dX9_goOn_40 : decode cX9_goOn 40 = .ok (.getfield 172, 3) := by decide +kernel
theorem dX9_goOn_43 : decode cX9_goOn 43 = .ok (.i2l, 1) := by decide +kernel
theorem dX9_goOn_44 : decode cX9_goOn 44 = .ok (.lload_n 1, 1) := by decide +kernel
theorem dX9_goOn_45 : decode cX9_goOn 45 = .ok (.lmul, 1) := by decide +kernel
theorem dX9_goOn_46 : decode cX9_goOn 46 = .ok (.ldc2_w 197, 3) := by decide +kernel
theorem dX9_goOn_49 : decode cX9_goOn 49 = .ok (.ldiv, 1) := by decide +kernel
theorem dX9_goOn_50 : decode cX9_goOn 50 = .ok (.lstore_n 3, 1) := by decide +kernel
theorem dX9_goOn_51 : decode cX9_goOn 51 = .ok (.aload_n 0, 1) := by decide +kernel
theorem dX9_goOn_52 : decode cX9_goOn 52 = .ok (.lload_n 3, 1) := by decide +kernel
theorem dX9_goOn_53 : decode cX9_goOn 53 = .ok (.aload_n 0, 1) := by decide +kernel
theorem dX9_goOn_54 : decode cX9_goOn 54 = .ok (.getfield 172, 3) := by decide +kernel
theorem dX9_goOn_57 : decode cX9_goOn 57 = .ok (.i2l, 1) := by decide +kernel
theorem dX9_goOn_58 : decode cX9_goOn 58 = .ok (.lcmp, 1) := by decide +kernel
theorem dX9_goOn_59 : decode cX9_goOn 59 = .ok (.ifCond .le 7, 3) := by decide +kernel
theorem dX9_goOn_62 : decode cX9_goOn 62 = .ok (.iconst 0, 1) := by decide +kernel
theorem dX9_goOn_63 : decode cX9_goOn 63 = .ok (.goto 11, 3) := by decide +kernel
theorem dX9_goOn_66 : decode cX9_goOn 66 = .ok (.aload_n 0, 1) := by decide +kernel
theorem dX9_goOn_67 : decode cX9_goOn 67 = .ok (.getfield 172, 3) := by decide +kernel
theorem dX9_goOn_70 : decode cX9_goOn 70 = .ok (.i2l, 1) := by decide +kernel
theorem dX9_goOn_71 : decode cX9_goOn 71 = .ok (.lload_n 3, 1) := by decide +kernel
theorem dX9_goOn_72 : decode cX9_goOn 72 = .ok (.lsub, 1) := by decide +kernel
theorem dX9_goOn_73 : decode cX9_goOn 73 = .ok (.l2i, 1) := by decide +kernel
theorem dX9_goOn_74 : decode cX9_goOn 74 = .ok (.putfield 172, 3) := by decide +kernel
theorem dX9_goOn_77 : decode cX9_goOn 77 = .ok (.aload_n 0, 1) := by decide +kernel
theorem dX9_goOn_78 : decode cX9_goOn 78 = .ok (.dup, 1) := by decide +kernel
theorem dX9_goOn_79 : decode cX9_goOn 79 = .ok (.getfield 178, 3) := by decide +kernel
theorem dX9_goOn_82 : decode cX9_goOn 82 = .ok (.bipush 10, 2) := by decide +kernel
theorem dX9_goOn_84 : decode cX9_goOn 84 = .ok (.isub, 1) := by decide +kernel
theorem dX9_goOn_85 : decode cX9_goOn 85 = .ok (.putfield 178, 3) := by decide +kernel
theorem dX9_goOn_88 : decode cX9_goOn 88 = .ok (.aload_n 0, 1) := by decide +kernel
theorem dX9_goOn_89 : decode cX9_goOn 89 = .ok (.dup, 1) := by decide +kernel
theorem dX9_goOn_90 : decode cX9_goOn 90 = .ok (.getfield 181, 3) := by decide +kernel
theorem dX9_goOn_93 : decode cX9_goOn 93 = .ok (.aload_n 0, 1) := by decide +kernel
theorem dX9_goOn_94 : decode cX9_goOn 94 = .ok (.getfield 172, 3) := by decide +kernel
theorem dX9_goOn_97 : decode cX9_goOn 97 = .ok (.iadd, 1) := by decide +kernel
theorem dX9_goOn_98 : decode cX9_goOn 98 = .ok (.putfield 181, 3) := by decide +kernel
theorem dX9_goOn_101 : decode cX9_goOn 101 = .ok (.aload_n 0, 1) := by decide +kernel
theorem dX9_goOn_102 : decode cX9_goOn 102 = .ok (.dup, 1) := by decide +kernel
theorem dX9_goOn_103 : decode cX9_goOn 103 = .ok (.getfield 184, 3) := by decide +kernel
theorem dX9_goOn_106 : decode cX9_goOn 106 = .ok (.aload_n 0, 1) := by decide +kernel
theorem dX9_goOn_107 : decode cX9_goOn 107 = .ok (.getfield 178, 3) := by decide +kernel
theorem dX9_goOn_110 : decode cX9_goOn 110 = .ok (.iadd, 1) := by decide +kernel
theorem dX9_goOn_111 : decode cX9_goOn 111 = .ok (.putfield 184, 3) := by decide +kernel
theorem dX9_goOn_114 : decode cX9_goOn 114 = .ok (.aload_n 0, 1) := by decide +kernel
theorem dX9_goOn_115 : decode cX9_goOn 115 = .ok (.aload_n 0, 1) := by decide +kernel
theorem dX9_goOn_116 : decode cX9_goOn 116 = .ok (.getfield 184, 3) := by decide +kernel
theorem dX9_goOn_119 : decode cX9_goOn 119 = .ok (.aload_n 0, 1) := by decide +kernel
theorem dX9_goOn_120 : decode cX9_goOn 120 = .ok (.getfield 187, 3) := by decide +kernel
theorem dX9_goOn_123 : decode cX9_goOn 123 = .ok (.if_icmp .le 10, 3) := by decide +kernel
theorem dX9_goOn_126 : decode cX9_goOn 126 = .ok (.aload_n 0, 1) := by decide +kernel
theorem dX9_goOn_127 : decode cX9_goOn 127 = .ok (.getfield 184, 3) := by decide +kernel
theorem dX9_goOn_130 : decode cX9_goOn 130 = .ok (.goto 7, 3) := by decide +kernel
theorem dX9_goOn_133 : decode cX9_goOn 133 = .ok (.aload_n 0, 1) := by decide +kernel
theorem dX9_goOn_134 : decode cX9_goOn 134 = .ok (.getfield 187, 3) := by decide +kernel
theorem dX9_goOn_137 : decode cX9_goOn 137 = .ok (.putfield 187, 3) := by decide +kernel
theorem dX9_goOn_140 : decode cX9_goOn 140 = .ok (.aload_n 0, 1) := by decide +kernel
theorem dX9_goOn_141 : decode cX9_goOn 141 = .ok (.dup, 1) := by decide +kernel
theorem dX9_goOn_142 : decode cX9_goOn 142 = .ok (.getfield 190, 3) := by decide +kernel
theorem dX9_goOn_145 : decode cX9_goOn 145 = .ok (.iconst 1, 1) := by decide +kernel
theorem dX9_goOn_146 : decode cX9_goOn 146 = .ok (.iadd, 1) := by decide +kernel
theorem dX9_goOn_147 : decode cX9_goOn 147 = .ok (.putfield 190, 3) := by decide +kernel
theorem dX9_goOn_150 : decode cX9_goOn 150 = .ok (.return_, 1) := by decide +kernel
theorem dX9_fly_0 : decode cX9_fly 0 = .ok (.aload_n 0, 1) := by decide +kernel
theorem dX9_fly_1 : decode cX9_fly 1 = .ok (.iload_n 1, 1) := by decide +kernel
theorem dX9_fly_2 : decode cX9_fly 2 = .ok (.invokevirtual 199, 3) := by decide +kernel
theorem dX9_fly_5 : decode cX9_fly 5 = .ok (.aload_n 0, 1) := by decide +kernel
theorem dX9_fly_6 : decode cX9_fly 6 = .ok (.getfield 184, 3) := by decide +kernel
theorem dX9_fly_9 : decode cX9_fly 9 = .ok (.ifCond .le 10, 3) := by decide +kernel
theorem dX9_fly_12 : decode cX9_fly 12 = .ok (.aload_n 0, 1) := by decide +kernel
theorem dX9_fly_13 : decode cX9_fly 13 = .ok (.invokevirtual 202, 3) := by decide +kernel
theorem dX9_fly_16 : decode cX9_fly 16 = .ok (.goto (-11), 3) := by decide +kernel
theorem dX9_fly_19 : decode cX9_fly 19 = .ok (.return_, 1) := by decide +kernel
theorem dX9_flingBy_0 : decode cX9_flingBy 0 = .ok (.aload_n 0, 1) := by decide +kernel
theorem dX9_flingBy_1 : decode cX9_flingBy 1 = .ok (.iload_n 1, 1) := by decide +kernel
theorem dX9_flingBy_2 : decode cX9_flingBy 2 = .ok (.iload_n 2, 1) := by decide +kernel
theorem dX9_flingBy_3 : decode cX9_flingBy 3 = .ok (.invokevirtual 205, 3) := by decide +kernel
theorem dX9_flingBy_6 : decode cX9_flingBy 6 = .ok (.aload_n 0, 1) := by decide +kernel
theorem dX9_flingBy_7 : decode cX9_flingBy 7 = .ok (.iload_n 1, 1) := by decide +kernel
theorem dX9_flingBy_8 : decode cX9_flingBy 8 = .ok (.iconst 4, 1) := by decide +kernel
theorem dX9_flingBy_9 : decode cX9_flingBy 9 = .ok (.if_icmp .ne 15, 3) := by decide +kernel
theorem dX9_flingBy_12 : decode cX9_flingBy 12 = .ok (.iload_n 3, 1) := by decide +kernel
theorem dX9_flingBy_13 : decode cX9_flingBy 13 = .ok (.bipush 6, 2) := by decide +kernel
theorem dX9_flingBy_15 : decode cX9_flingBy 15 = .ok (.if_icmp .ge 9, 3) := by decide +kernel
theorem dX9_flingBy_18 : decode cX9_flingBy 18 = .ok (.iload_n 3, 1) := by decide +kernel
theorem dX9_flingBy_19 : decode cX9_flingBy 19 = .ok (.iconst 1, 1) := by decide +kernel
theorem dX9_flingBy_20 : decode cX9_flingBy 20 = .ok (.iadd, 1) := by decide +kernel
theorem dX9_flingBy_21 : decode cX9_flingBy 21 = .ok (.goto 4, 3) := by decide +kernel
theorem dX9_flingBy_24 : decode cX9_flingBy 24 = .ok (.iload_n 3, 1) := by decide +kernel
theorem dX9_flingBy_25 : decode cX9_flingBy 25 = .ok (.invokevirtual 208, 3) := by decide +kernel
theorem dX9_flingBy_28 : decode cX9_flingBy 28 = .ok (.return_, 1) := by decide +kernel
theorem dX9_isThrow_0 : decode cX9_isThrow 0 = .ok (.iload_n 1, 1) := by decide +kernel
theorem dX9_isThrow_1 : decode cX9_isThrow 1 = .ok (.i2l, 1) := by decide +kernel
theorem dX9_isThrow_2 : decode cX9_isThrow 2 = .ok (.lconst 0, 1) := by decide +kernel
theorem dX9_isThrow_3 : decode cX9_isThrow 3 = .ok (.aload_n 0, 1) := by decide +kernel
theorem dX9_isThrow_4 : decode cX9_isThrow 4 = .ok (.iconst 0, 1) := by decide +kernel
theorem dX9_isThrow_5 : decode cX9_isThrow 5 = .ok (.invokevirtual 102, 3) := by decide +kernel
theorem dX9_isThrow_8 : decode cX9_isThrow 8 = .ok (.iconst 1, 1) := by decide +kernel
theorem dX9_isThrow_9 : decode cX9_isThrow 9 = .ok (.isub, 1) := by decide +kernel
theorem dX9_isThrow_10 : decode cX9_isThrow 10 = .ok (.i2l, 1) := by decide +kernel
theorem dX9_isThrow_11 : decode cX9_isThrow 11 = .ok (.invokestatic 90, 3) := by decide +kernel
theorem dX9_isThrow_14 : decode cX9_isThrow 14 = .ok (.ifCond .eq 54, 3) := by decide +kernel
theorem dX9_isThrow_17 : decode cX9_isThrow 17 = .ok (.iload_n 2, 1) := by decide +kernel
theorem dX9_isThrow_18 : decode cX9_isThrow 18 = .ok (.i2l, 1) := by decide +kernel
theorem dX9_isThrow_19 : decode cX9_isThrow 19 = .ok (.lconst 0, 1) := by decide +kernel
theorem dX9_isThrow_20 : decode cX9_isThrow 20 = .ok (.aload_n 0, 1) := by decide +kernel
theorem dX9_isThrow_21 : decode cX9_isThrow 21 = .ok (.iconst 1, 1) := by decide +kernel
theorem dX9_isThrow_22 : decode cX9_isThrow 22 = .ok (.invokevirtual 102, 3) := by decide +kernel
theorem dX9_isThrow_25 : decode cX9_isThrow 25 = .ok (.iconst 1, 1) := by decide +kernel
theorem dX9_isThrow_26 : decode cX9_isThrow 26 = .ok (.isub, 1) := by decide +kernel
theorem dX9_isThrow_27 : decode cX9_isThrow 27 = .ok (.i2l, 1) := by decide +kernel
theorem dX9_isThrow_28 : decode cX9_isThrow 28 = .ok (.invokestatic 90, 3) := by decide +kernel
theorem dX9_isThrow_31 : decode cX9_isThrow 31 = .ok (.ifCond .eq 37, 3) := by decide +kernel
theorem dX9_isThrow_34 : decode cX9_isThrow 34 = .ok (.iload_n 3, 1) := by decide +kernel
theorem dX9_isThrow_35 : decode cX9_isThrow 35 = .ok (.i2l, 1) := by decide +kernel
theorem dX9_isThrow_36 : decode cX9_isThrow 36 = .ok (.lconst 0, 1) := by decide +kernel
theorem dX9_isThrow_37 : decode cX9_isThrow 37 = .ok (.aload_n 0, 1) := by decide +kernel
theorem dX9_isThrow_38 : decode cX9_isThrow 38 = .ok (.iconst 2, 1) := by decide +kernel
theorem dX9_isThrow_39 : decode cX9_isThrow 39 = .ok (.invokevirtual 102, 3) := by decide +kernel
theorem dX9_isThrow_42 : decode cX9_isThrow 42 = .ok (.iconst 1, 1) := by decide +kernel
theorem dX9_isThrow_43 : decode cX9_isThrow 43 = .ok (.isub, 1) := by decide +kernel
theorem dX9_isThrow_44 : decode cX9_isThrow 44 = .ok (.i2l, 1) := by decide +kernel
theorem dX9_isThrow_45 : decode cX9_isThrow 45 = .ok (.invokestatic 90, 3) := by decide +kernel
theorem dX9_isThrow_48 : decode cX9_isThrow 48 = .ok (.ifCond .eq 20, 3) := by decide +kernel
theorem dX9_isThrow_51 : decode cX9_isThrow 51 = .ok (.iload 4, 2) := by decide +kernel
theorem dX9_isThrow_53 : decode cX9_isThrow 53 = .ok (.i2l, 1) := by decide +kernel
theorem dX9_isThrow_54 : decode cX9_isThrow 54 = .ok (.lconst 0, 1) := by decide +kernel
theorem dX9_isThrow_55 : decode cX9_isThrow 55 = .ok (.ldc2_w 211, 3) := by decide +kernel
theorem dX9_isThrow_58 : decode cX9_isThrow 58 = .ok (.invokestatic 90, 3) := by decide +kernel
theorem dX9_isThrow_61 : decode cX9_isThrow 61 = .ok (.ifCond .eq 7, 3) := by decide +kernel
theorem dX9_isThrow_64 : decode cX9_isThrow 64 = .ok (.iconst 1, 1) := by decide +kernel
theorem dX9_isThrow_65 : decode cX9_isThrow 65 = .ok (.goto 4, 3) := by decide +kernel
theorem dX9_isThrow_68 : decode cX9_isThrow 68 = .ok (.iconst 0, 1) := by decide +kernel
theorem dX9_isThrow_69 : decode cX9_isThrow 69 = .ok (.ireturn, 1) := by decide +kernel
theorem dX9_fling_0 : decode cX9_fling 0 = .ok (.iload_n 1, 1) := by decide +kernel
theorem dX9_fling_1 : decode cX9_fling 1 = .ok (.i2l, 1) := by decide +kernel
theorem dX9_fling_2 : decode cX9_fling 2 = .ok (.lconst 0, 1) := by decide +kernel
theorem dX9_fling_3 : decode cX9_fling 3 = .ok (.ldc2_w 211, 3) := by decide +kernel
theorem dX9_fling_6 : decode cX9_fling 6 = .ok (.invokestatic 90, 3) := by decide +kernel
theorem dX9_fling_9 : decode cX9_fling 9 = .ok (.ifCond .eq 42, 3) := by decide +kernel
theorem dX9_fling_12 : decode cX9_fling 12 = .ok (.iload_n 2, 1) := by decide +kernel
theorem dX9_fling_13 : decode cX9_fling 13 = .ok (.i2l, 1) := by decide +kernel
theorem dX9_fling_14 : decode cX9_fling 14 = .ok (.lconst 0, 1) := by decide +kernel
theorem dX9_fling_15 : decode cX9_fling 15 = .ok (.ldc2_w 213, 3) := by decide +kernel
theorem dX9_fling_18 : decode cX9_fling 18 = .ok (.invokestatic 90, 3) := by decide +kernel
theorem dX9_fling_21 : decode cX9_fling 21 = .ok (.ifCond .eq 30, 3) := by decide +kernel
theorem dX9_fling_24 : decode cX9_fling 24 = .ok (.aload_n 0, 1) := by decide +kernel
theorem dX9_fling_25 : decode cX9_fling 25 = .ok (.iload_n 3, 1) := by decide +kernel
theorem dX9_fling_26 : decode cX9_fling 26 = .ok (.iload 4, 2) := by decide +kernel
theorem dX9_fling_28 : decode cX9_fling 28 = .ok (.iload 5, 2) := by decide +kernel
theorem dX9_fling_30 : decode cX9_fling 30 = .ok (.iload 6, 2) := by decide +kernel
theorem dX9_fling_32 : decode cX9_fling 32 = .ok (.invokevirtual 215, 3) := by decide +kernel
theorem dX9_fling_35 : decode cX9_fling 35 = .ok (.ifCond .eq 16, 3) := by decide +kernel
theorem dX9_fling_38 : decode cX9_fling 38 = .ok (.iload 7, 2) := by decide +kernel
theorem dX9_fling_40 : decode cX9_fling 40 = .ok (.i2l, 1) := by decide +kernel
theorem dX9_fling_41 : decode cX9_fling 41 = .ok (.lconst 0, 1) := by decide +kernel
theorem dX9_fling_42 : decode cX9_fling 42 = .ok (.ldc2_w 218, 3) := by decide +kernel
theorem dX9_fling_45 : decode cX9_fling 45 = .ok (.invokestatic 90, 3) := by decide +kernel
theorem dX9_fling_48 : decode cX9_fling 48 = .ok (.ifCond .ne 10, 3) := by decide +kernel
theorem dX9_fling_51 : decode cX9_fling 51 = .ok (.aload_n 0, 1) := by decide +kernel
theorem dX9_fling_52 : decode cX9_fling 52 = .ok (.ldc 220, 2) := by decide +kernel
theorem dX9_fling_54 : decode cX9_fling 54 = .ok (.invokevirtual 110, 3) := by decide +kernel
theorem dX9_fling_57 : decode cX9_fling 57 = .ok (.ireturn, 1) := by decide +kernel
theorem dX9_fling_58 : decode cX9_fling 58 = .ok (.aload_n 0, 1) := by decide +kernel
theorem dX9_fling_59 : decode cX9_fling 59 = .ok (.iload_n 3, 1) := by decide +kernel
theorem dX9_fling_60 : decode cX9_fling 60 = .ok (.iload 4, 2) := by decide +kernel
theorem dX9_fling_62 : decode cX9_fling 62 = .ok (.iload 5, 2) := by decide +kernel
theorem dX9_fling_64 : decode cX9_fling 64 = .ok (.invokevirtual 221, 3) := by decide +kernel
theorem dX9_fling_67 : decode cX9_fling 67 = .ok (.aload_n 0, 1) := by decide +kernel
theorem dX9_fling_68 : decode cX9_fling 68 = .ok (.iload_n 1, 1) := by decide +kernel
theorem dX9_fling_69 : decode cX9_fling 69 = .ok (.iload_n 2, 1) := by decide +kernel
theorem dX9_fling_70 : decode cX9_fling 70 = .ok (.iload 6, 2) := by decide +kernel
theorem dX9_fling_72 : decode cX9_fling 72 = .ok (.invokevirtual 224, 3) := by decide +kernel
theorem dX9_fling_75 : decode cX9_fling 75 = .ok (.iload 7, 2) := by decide +kernel
theorem dX9_fling_77 : decode cX9_fling 77 = .ok (.tableswitch 60 0 4 #[35, 40, 45, 50, 55], 35) := by decide +kernel
theorem dX9_fling_112 : decode cX9_fling 112 = .ok (.aload_n 0, 1) := by decide +kernel
theorem dX9_fling_113 : decode cX9_fling 113 = .ok (.getfield 181, 3) := by decide +kernel
theorem dX9_fling_116 : decode cX9_fling 116 = .ok (.ireturn, 1) := by decide +kernel
theorem dX9_fling_117 : decode cX9_fling 117 = .ok (.aload_n 0, 1) := by decide +kernel
theorem dX9_fling_118 : decode cX9_fling 118 = .ok (.getfield 161, 3) := by decide +kernel
theorem dX9_fling_121 : decode cX9_fling 121 = .ok (.ireturn, 1) := by decide +kernel
theorem dX9_fling_122 : decode cX9_fling 122 = .ok (.aload_n 0, 1) := by decide +kernel
theorem dX9_fling_123 : decode cX9_fling 123 = .ok (.getfield 158, 3) := by decide +kernel
theorem dX9_fling_126 : decode cX9_fling 126 = .ok (.ireturn, 1) := by decide +kernel
theorem dX9_fling_127 : decode cX9_fling 127 = .ok (.aload_n 0, 1) := by decide +kernel
theorem dX9_fling_128 : decode cX9_fling 128 = .ok (.getfield 164, 3) := by decide +kernel
theorem dX9_fling_131 : decode cX9_fling 131 = .ok (.ireturn, 1) := by decide +kernel
theorem dX9_fling_132 : decode cX9_fling 132 = .ok (.aload_n 0, 1) := by decide +kernel
theorem dX9_fling_133 : decode cX9_fling 133 = .ok (.getfield 187, 3) := by decide +kernel
theorem dX9_fling_136 : decode cX9_fling 136 = .ok (.ireturn, 1) := by decide +kernel
theorem dX9_fling_137 : decode cX9_fling 137 = .ok (.aload_n 0, 1) := by decide +kernel
theorem dX9_fling_138 : decode cX9_fling 138 = .ok (.getfield 190, 3) := by decide +kernel
theorem dX9_fling_141 : decode cX9_fling 141 = .ok (.ireturn, 1) := by decide +kernel
theorem dX9_strikes_0 : decode cX9_strikes 0 = .ok (.aload_n 0, 1) := by decide +kernel
theorem dX9_strikes_1 : decode cX9_strikes 1 = .ok (.iload_n 1, 1) := by decide +kernel
theorem dX9_strikes_2 : decode cX9_strikes 2 = .ok (.iload_n 2, 1) := by decide +kernel
theorem dX9_strikes_3 : decode cX9_strikes 3 = .ok (.iload_n 3, 1) := by decide +kernel
theorem dX9_strikes_4 : decode cX9_strikes 4 = .ok (.iload 4, 2) := by decide +kernel
theorem dX9_strikes_6 : decode cX9_strikes 6 = .ok (.invokevirtual 215, 3) := by decide +kernel
theorem dX9_strikes_9 : decode cX9_strikes 9 = .ok (.ifCond .eq 16, 3) := by decide +kernel
theorem dX9_strikes_12 : decode cX9_strikes 12 = .ok (.iload 5, 2) := by decide +kernel
theorem dX9_strikes_14 : decode cX9_strikes 14 = .ok (.i2l, 1) := by decide +kernel
theorem dX9_strikes_15 : decode cX9_strikes 15 = .ok (.lconst 1, 1) := by decide +kernel
theorem dX9_strikes_16 : decode cX9_strikes 16 = .ok (.ldc2_w 227, 3) := by decide +kernel
theorem dX9_strikes_19 : decode cX9_strikes 19 = .ok (.invokestatic 90, 3) := by decide +kernel
theorem dX9_strikes_22 : decode cX9_strikes 22 = .ok (.ifCond .ne 10, 3) := by decide +kernel
theorem dX9_strikes_25 : decode cX9_strikes 25 = .ok (.aload_n 0, 1) := by decide +kernel
theorem dX9_strikes_26 : decode cX9_strikes 26 = .ok (.bipush (-2), 2) := by decide +kernel
theorem dX9_strikes_28 : decode cX9_strikes 28 = .ok (.invokevirtual 110, 3) := by decide +kernel
theorem dX9_strikes_31 : decode cX9_strikes 31 = .ok (.ireturn, 1) := by decide +kernel
theorem dX9_strikes_32 : decode cX9_strikes 32 = .ok (.aload_n 0, 1) := by decide +kernel
theorem dX9_strikes_33 : decode cX9_strikes 33 = .ok (.iload_n 1, 1) := by decide +kernel
theorem dX9_strikes_34 : decode cX9_strikes 34 = .ok (.iload_n 2, 1) := by decide +kernel
theorem dX9_strikes_35 : decode cX9_strikes 35 = .ok (.iload_n 3, 1) := by decide +kernel
theorem dX9_strikes_36 : decode cX9_strikes 36 = .ok (.invokevirtual 221, 3) := by decide +kernel
theorem dX9_strikes_39 : decode cX9_strikes 39 = .ok (.aload_n 0, 1) := by decide +kernel
theorem dX9_strikes_40 : decode cX9_strikes 40 = .ok (.iconst 0, 1) := by decide +kernel
theorem dX9_strikes_41 : decode cX9_strikes 41 = .ok (.iconst 0, 1) := by decide +kernel
theorem dX9_strikes_42 : decode cX9_strikes 42 = .ok (.invokevirtual 205, 3) := by decide +kernel
theorem dX9_strikes_45 : decode cX9_strikes 45 = .ok (.aload_n 0, 1) := by decide +kernel
theorem dX9_strikes_46 : decode cX9_strikes 46 = .ok (.iload 4, 2) := by decide +kernel
theorem dX9_strikes_48 : decode cX9_strikes 48 = .ok (.invokevirtual 199, 3) := by decide +kernel
theorem dX9_strikes_51 : decode cX9_strikes 51 = .ok (.iconst 1, 1) := by decide +kernel
theorem dX9_strikes_52 : decode cX9_strikes 52 = .ok (.istore 6, 2) := by decide +kernel
theorem dX9_strikes_54 : decode cX9_strikes 54 = .ok (.iload 6, 2) := by decide +kernel
theorem dX9_strikes_56 : decode cX9_strikes 56 = .ok (.ifCond .eq 33, 3) := by decide +kernel
theorem dX9_strikes_59 : decode cX9_strikes 59 = .ok (.aload_n 0, 1) := by decide +kernel
theorem dX9_strikes_60 : decode cX9_strikes 60 = .ok (.invokevirtual 202, 3) := by decide +kernel
theorem dX9_strikes_63 : decode cX9_strikes 63 = .ok (.aload_n 0, 1) := by decide +kernel
theorem dX9_strikes_64 : decode cX9_strikes 64 = .ok (.getfield 184, 3) := by decide +kernel
theorem dX9_strikes_67 : decode cX9_strikes 67 = .ok (.ifCond .le 16, 3) := by decide +kernel
theorem dX9_strikes_70 : decode cX9_strikes 70 = .ok (.aload_n 0, 1) := by decide +kernel
theorem dX9_strikes_71 : decode cX9_strikes 71 = .ok (.getfield 181, 3) := by decide +kernel
theorem dX9_strikes_74 : decode cX9_strikes 74 = .ok (.iload 5, 2) := by decide +kernel
theorem dX9_strikes_76 : decode cX9_strikes 76 = .ok (.if_icmp .ge 7, 3) := by decide +kernel
theorem dX9_strikes_79 : decode cX9_strikes 79 = .ok (.iconst 1, 1) := by decide +kernel
theorem dX9_strikes_80 : decode cX9_strikes 80 = .ok (.goto 4, 3) := by decide +kernel
theorem dX9_strikes_83 : decode cX9_strikes 83 = .ok (.iconst 0, 1) := by decide +kernel
theorem dX9_strikes_84 : decode cX9_strikes 84 = .ok (.istore 6, 2) := by decide +kernel
theorem dX9_strikes_86 : decode cX9_strikes 86 = .ok (.goto (-32), 3) := by decide +kernel
theorem dX9_strikes_89 : decode cX9_strikes 89 = .ok (.aload_n 0, 1) := by decide +kernel
theorem dX9_strikes_90 : decode cX9_strikes 90 = .ok (.getfield 181, 3) := by decide +kernel
theorem dX9_strikes_93 : decode cX9_strikes 93 = .ok (.iload 5, 2) := by decide +kernel
theorem dX9_strikes_95 : decode cX9_strikes 95 = .ok (.if_icmp .lt 44, 3) := by decide +kernel
theorem dX9_strikes_98 : decode cX9_strikes 98 = .ok (.aload_n 0, 1) := by decide +kernel
theorem dX9_strikes_99 : decode cX9_strikes 99 = .ok (.getfield 184, 3) := by decide +kernel
theorem dX9_strikes_102 : decode cX9_strikes 102 = .ok (.ifCond .le 37, 3) := by decide +kernel
theorem dX9_strikes_105 : decode cX9_strikes 105 = .ok (.aload_n 0, 1) := by decide +kernel
theorem dX9_strikes_106 : decode cX9_strikes 106 = .ok (.getfield 184, 3) := by decide +kernel
theorem dX9_strikes_109 : decode cX9_strikes 109 = .ok (.sipush 180, 3) := by decide +kernel
theorem dX9_strikes_112 : decode cX9_strikes 112 = .ok (.if_icmp .gt 27, 3) := by decide +kernel
theorem dX9_strikes_115 : decode cX9_strikes 115 = .ok (.aload_n 0, 1) := by decide +kernel
theorem dX9_strikes_116 : decode cX9_strikes 116 = .ok (.getfield 164, 3) := by decide +kernel
theorem dX9_strikes_119 : decode cX9_strikes 119 = .ok (.i2l, 1) := by decide +kernel
theorem dX9_strikes_120 : decode cX9_strikes 120 = .ok (.iload 5, 2) := by decide +kernel
theorem dX9_strikes_122 : decode cX9_strikes 122 = .ok (.i2l, 1) := by decide +kernel
theorem dX9_strikes_123 : decode cX9_strikes 123 = .ok (.lmul, 1) := by decide +kernel
theorem dX9_strikes_124 : decode cX9_strikes 124 = .ok (.ldc2_w 197, 3) := by decide +kernel
theorem dX9_strikes_127 : decode cX9_strikes 127 = .ok (.ldiv, 1) := by decide +kernel
theorem dX9_strikes_128 : decode cX9_strikes 128 = .ok (.ldc2_w 229, 3) := by decide +kernel
theorem dX9_strikes_131 : decode cX9_strikes 131 = .ok (.lcmp, 1) := by decide +kernel
theorem dX9_strikes_132 : decode cX9_strikes 132 = .ok (.ifCond .gt 7, 3) := by decide +kernel
theorem dX9_strikes_135 : decode cX9_strikes 135 = .ok (.iconst 1, 1) := by decide +kernel
theorem dX9_strikes_136 : decode cX9_strikes 136 = .ok (.goto 4, 3) := by decide +kernel
theorem dX9_strikes_139 : decode cX9_strikes 139 = .ok (.iconst 0, 1) := by decide +kernel
theorem dX9_strikes_140 : decode cX9_strikes 140 = .ok (.ireturn, 1) := by decide +kernel
theorem dX9_length_0 : decode cX9_length 0 = .ok (.aload_n 0, 1) := by decide +kernel
theorem dX9_length_1 : decode cX9_length 1 = .ok (.iload_n 1, 1) := by decide +kernel
theorem dX9_length_2 : decode cX9_length 2 = .ok (.iload_n 2, 1) := by decide +kernel
theorem dX9_length_3 : decode cX9_length 3 = .ok (.iload_n 3, 1) := by decide +kernel
theorem dX9_length_4 : decode cX9_length 4 = .ok (.iload 4, 2) := by decide +kernel
theorem dX9_length_6 : decode cX9_length 6 = .ok (.invokevirtual 215, 3) := by decide +kernel
theorem dX9_length_9 : decode cX9_length 9 = .ok (.ifCond .ne 10, 3) := by decide +kernel
theorem dX9_length_12 : decode cX9_length 12 = .ok (.aload_n 0, 1) := by decide +kernel
theorem dX9_length_13 : decode cX9_length 13 = .ok (.bipush (-2), 2) := by decide +kernel
theorem dX9_length_15 : decode cX9_length 15 = .ok (.invokevirtual 110, 3) := by decide +kernel
theorem dX9_length_18 : decode cX9_length 18 = .ok (.ireturn, 1) := by decide +kernel
theorem dX9_length_19 : decode cX9_length 19 = .ok (.aload_n 0, 1) := by decide +kernel
theorem dX9_length_20 : decode cX9_length 20 = .ok (.iload_n 1, 1) := by decide +kernel
theorem dX9_length_21 : decode cX9_length 21 = .ok (.iload_n 2, 1) := by decide +kernel
theorem dX9_length_22 : decode cX9_length 22 = .ok (.iload_n 3, 1) := by decide +kernel
theorem dX9_length_23 : decode cX9_length 23 = .ok (.invokevirtual 221, 3) := by decide +kernel
theorem dX9_length_26 : decode cX9_length 26 = .ok (.aload_n 0, 1) := by decide +kernel
theorem dX9_length_27 : decode cX9_length 27 = .ok (.getfield 143, 3) := by decide +kernel
theorem dX9_length_30 : decode cX9_length 30 = .ok (.istore 5, 2) := by decide +kernel
theorem dX9_length_32 : decode cX9_length 32 = .ok (.iconst (-1), 1) := by decide +kernel
theorem dX9_length_33 : decode cX9_length 33 = .ok (.istore 6, 2) := by decide +kernel
theorem dX9_length_35 : decode cX9_length 35 = .ok (.iconst 0, 1) := by decide +kernel
theorem dX9_length_36 : decode cX9_length 36 = .ok (.istore 7, 2) := by decide +kernel
theorem dX9_length_38 : decode cX9_length 38 = .ok (.iconst 0, 1) := by decide +kernel
theorem dX9_length_39 : decode cX9_length 39 = .ok (.istore 8, 2) := by decide +kernel
theorem dX9_length_41 : decode cX9_length 41 = .ok (.iload 8, 2) := by decide +kernel
theorem dX9_length_43 : decode cX9_length 43 = .ok (.bipush 100, 2) := by decide +kernel
theorem dX9_length_45 : decode cX9_length 45 = .ok (.if_icmp .ge 66, 3) := by decide +kernel
theorem dX9_length_48 : decode cX9_length 48 = .ok (.aload_n 0, 1) := by decide +kernel
theorem dX9_length_49 : decode cX9_length 49 = .ok (.iload 8, 2) := by decide +kernel
theorem dX9_length_51 : decode cX9_length 51 = .ok (.putfield 137, 3) := by decide +kernel
theorem dX9_length_54 : decode cX9_length 54 = .ok (.aload_n 0, 1) := by decide +kernel
theorem dX9_length_55 : decode cX9_length 55 = .ok (.iload 5, 2) := by decide +kernel
theorem dX9_length_57 : decode cX9_length 57 = .ok (.iload 8, 2) := by decide +kernel
theorem dX9_length_59 : decode cX9_length 59 = .ok (.if_icmp .le 8, 3) := by decide +kernel
theorem dX9_length_62 : decode cX9_length 62 = .ok (.iload 8, 2) := by decide +kernel
theorem dX9_length_64 : decode cX9_length 64 = .ok (.goto 5, 3) := by decide +kernel
theorem dX9_length_67 : decode cX9_length 67 = .ok (.iload 5, 2) := by decide +kernel
theorem dX9_length_69 : decode cX9_length 69 = .ok (.putfield 143, 3) := by decide +kernel
theorem dX9_length_72 : decode cX9_length 72 = .ok (.aload_n 0, 1) := by decide +kernel
theorem dX9_length_73 : decode cX9_length 73 = .ok (.iconst 0, 1) := by decide +kernel
theorem dX9_length_74 : decode cX9_length 74 = .ok (.iconst 0, 1) := by decide +kernel
theorem dX9_length_75 : decode cX9_length 75 = .ok (.iload 4, 2) := by decide +kernel
theorem dX9_length_77 : decode cX9_length 77 = .ok (.invokevirtual 224, 3) := by decide +kernel
theorem dX9_length_80 : decode cX9_length 80 = .ok (.iload 6, 2) := by decide +kernel
theorem dX9_length_82 : decode cX9_length 82 = .ok (.iconst (-1), 1) := by decide +kernel
theorem dX9_length_83 : decode cX9_length 83 = .ok (.if_icmp .eq 12, 3) := by decide +kernel
theorem dX9_length_86 : decode cX9_length 86 = .ok (.aload_n 0, 1) := by decide +kernel
theorem dX9_length_87 : decode cX9_length 87 = .ok (.getfield 181, 3) := by decide +kernel
theorem dX9_length_90 : decode cX9_length 90 = .ok (.iload 7, 2) := by decide +kernel
theorem dX9_length_92 : decode cX9_length 92 = .ok (.if_icmp .le 13, 3) := by decide +kernel
theorem dX9_length_95 : decode cX9_length 95 = .ok (.iload 8, 2) := by decide +kernel
theorem dX9_length_97 : decode cX9_length 97 = .ok (.istore 6, 2) := by decide +kernel
theorem dX9_length_99 : decode cX9_length 99 = .ok (.aload_n 0, 1) := by decide +kernel
theorem dX9_length_100 : decode cX9_length 100 = .ok (.getfield 181, 3) := by decide +kernel
theorem dX9_length_103 : decode cX9_length 103 = .ok (.istore 7, 2) := by decide +kernel
theorem dX9_length_105 : decode cX9_length 105 = .ok (.iinc 8 1, 3) := by decide +kernel
theorem dX9_length_108 : decode cX9_length 108 = .ok (.goto (-67), 3) := by decide +kernel
theorem dX9_length_111 : decode cX9_length 111 = .ok (.iload 6, 2) := by decide +kernel
theorem dX9_length_113 : decode cX9_length 113 = .ok (.ireturn, 1) := by decide +kernel
theorem dX9_straight_0 : decode cX9_straight 0 = .ok (.aload_n 0, 1) := by decide +kernel
theorem dX9_straight_1 : decode cX9_straight 1 = .ok (.iload_n 1, 1) := by decide +kernel
theorem dX9_straight_2 : decode cX9_straight 2 = .ok (.iload_n 2, 1) := by decide +kernel
theorem dX9_straight_3 : decode cX9_straight 3 = .ok (.iload_n 3, 1) := by decide +kernel
theorem dX9_straight_4 : decode cX9_straight 4 = .ok (.iconst 0, 1) := by decide +kernel
theorem dX9_straight_5 : decode cX9_straight 5 = .ok (.invokevirtual 215, 3) := by decide +kernel
theorem dX9_straight_8 : decode cX9_straight 8 = .ok (.ifCond .eq 14, 3) := by decide +kernel
theorem dX9_straight_11 : decode cX9_straight 11 = .ok (.iload 4, 2) := by decide +kernel
theorem dX9_straight_13 : decode cX9_straight 13 = .ok (.i2l, 1) := by decide +kernel
theorem dX9_straight_14 : decode cX9_straight 14 = .ok (.lconst 0, 1) := by decide +kernel
theorem dX9_straight_15 : decode cX9_straight 15 = .ok (.lconst 1, 1) := by decide +kernel
theorem dX9_straight_16 : decode cX9_straight 16 = .ok (.invokestatic 90, 3) := by decide +kernel
theorem dX9_straight_19 : decode cX9_straight 19 = .ok (.ifCond .ne 10, 3) := by decide +kernel
theorem dX9_straight_22 : decode cX9_straight 22 = .ok (.aload_n 0, 1) := by decide +kernel
theorem dX9_straight_23 : decode cX9_straight 23 = .ok (.bipush (-2), 2) := by decide +kernel
theorem dX9_straight_25 : decode cX9_straight 25 = .ok (.invokevirtual 110, 3) := by decide +kernel
theorem dX9_straight_28 : decode cX9_straight 28 = .ok (.ireturn, 1) := by decide +kernel
theorem dX9_straight_29 : decode cX9_straight 29 = .ok (.aload_n 0, 1) := by decide +kernel
theorem dX9_straight_30 : decode cX9_straight 30 = .ok (.iload_n 1, 1) := by decide +kernel
theorem dX9_straight_31 : decode cX9_straight 31 = .ok (.iload_n 2, 1) := by decide +kernel
theorem dX9_straight_32 : decode cX9_straight 32 = .ok (.iload_n 3, 1) := by decide +kernel
theorem dX9_straight_33 : decode cX9_straight 33 = .ok (.invokevirtual 221, 3) := by decide +kernel
theorem dX9_straight_36 : decode cX9_straight 36 = .ok (.iconst (-1), 1) := by decide +kernel
theorem dX9_straight_37 : decode cX9_straight 37 = .ok (.istore 5, 2) := by decide +kernel
theorem dX9_straight_39 : decode cX9_straight 39 = .ok (.iconst 1, 1) := by decide +kernel
theorem dX9_straight_40 : decode cX9_straight 40 = .ok (.istore 6, 2) := by decide +kernel
theorem dX9_straight_42 : decode cX9_straight 42 = .ok (.iload 6, 2) := by decide +kernel
theorem dX9_straight_44 : decode cX9_straight 44 = .ok (.bipush 100, 2) := by decide +kernel
theorem dX9_straight_46 : decode cX9_straight 46 = .ok (.if_icmp .ge 49, 3) := by decide +kernel
theorem dX9_straight_49 : decode cX9_straight 49 = .ok (.aload_n 0, 1) := by decide +kernel
theorem dX9_straight_50 : decode cX9_straight 50 = .ok (.iload 6, 2) := by decide +kernel
theorem dX9_straight_52 : decode cX9_straight 52 = .ok (.putfield 149, 3) := by decide +kernel
theorem dX9_straight_55 : decode cX9_straight 55 = .ok (.aload_n 0, 1) := by decide +kernel
theorem dX9_straight_56 : decode cX9_straight 56 = .ok (.iconst 0, 1) := by decide +kernel
theorem dX9_straight_57 : decode cX9_straight 57 = .ok (.iconst 0, 1) := by decide +kernel
theorem dX9_straight_58 : decode cX9_straight 58 = .ok (.invokevirtual 205, 3) := by decide +kernel
theorem dX9_straight_61 : decode cX9_straight 61 = .ok (.aload_n 0, 1) := by decide +kernel
theorem dX9_straight_62 : decode cX9_straight 62 = .ok (.getfield 164, 3) := by decide +kernel
theorem dX9_straight_65 : decode cX9_straight 65 = .ok (.ifCond .ne 20, 3) := by decide +kernel
theorem dX9_straight_68 : decode cX9_straight 68 = .ok (.iload 4, 2) := by decide +kernel
theorem dX9_straight_70 : decode cX9_straight 70 = .ok (.iconst 1, 1) := by decide +kernel
theorem dX9_straight_71 : decode cX9_straight 71 = .ok (.if_icmp .eq 9, 3) := by decide +kernel
theorem dX9_straight_74 : decode cX9_straight 74 = .ok (.iload 5, 2) := by decide +kernel
theorem dX9_straight_76 : decode cX9_straight 76 = .ok (.iconst (-1), 1) := by decide +kernel
theorem dX9_straight_77 : decode cX9_straight 77 = .ok (.if_icmp .ne 8, 3) := by decide +kernel
theorem dX9_straight_80 : decode cX9_straight 80 = .ok (.iload 6, 2) := by decide +kernel
theorem dX9_straight_82 : decode cX9_straight 82 = .ok (.goto 5, 3) := by decide +kernel
theorem dX9_straight_85 : decode cX9_straight 85 = .ok (.iload 5, 2) := by decide +kernel
theorem dX9_straight_87 : decode cX9_straight 87 = .ok (.istore 5, 2) := by decide +kernel
theorem dX9_straight_89 : decode cX9_straight 89 = .ok (.iinc 6 1, 3) := by decide +kernel
theorem dX9_straight_92 : decode cX9_straight 92 = .ok (.goto (-50), 3) := by decide +kernel
theorem dX9_straight_95 : decode cX9_straight 95 = .ok (.iload 5, 2) := by decide +kernel
theorem dX9_straight_97 : decode cX9_straight 97 = .ok (.ireturn, 1) := by decide +kernel
theorem dX9_contest_0 : decode cX9_contest 0 = .ok (.aload_n 0, 1) := by decide +kernel
theorem dX9_contest_1 : decode cX9_contest 1 = .ok (.iload_n 1, 1) := by decide +kernel
theorem dX9_contest_2 : decode cX9_contest 2 = .ok (.iload_n 2, 1) := by decide +kernel
theorem dX9_contest_3 : decode cX9_contest 3 = .ok (.iload_n 3, 1) := by decide +kernel
theorem dX9_contest_4 : decode cX9_contest 4 = .ok (.iload 4, 2) := by decide +kernel
theorem dX9_contest_6 : decode cX9_contest 6 = .ok (.invokevirtual 215, 3) := by decide +kernel
theorem dX9_contest_9 : decode cX9_contest 9 = .ok (.ifCond .eq 33, 3) := by decide +kernel
theorem dX9_contest_12 : decode cX9_contest 12 = .ok (.iload 6, 2) := by decide +kernel
theorem dX9_contest_14 : decode cX9_contest 14 = .ok (.i2l, 1) := by decide +kernel
theorem dX9_contest_15 : decode cX9_contest 15 = .ok (.ldc2_w 86, 3) := by decide +kernel
theorem dX9_contest_18 : decode cX9_contest 18 = .ok (.ldc2_w 98, 3) := by decide +kernel
theorem dX9_contest_21 : decode cX9_contest 21 = .ok (.invokestatic 90, 3) := by decide +kernel
theorem dX9_contest_24 : decode cX9_contest 24 = .ok (.ifCond .eq 18, 3) := by decide +kernel
theorem dX9_contest_27 : decode cX9_contest 27 = .ok (.iload 5, 2) := by decide +kernel
theorem dX9_contest_29 : decode cX9_contest 29 = .ok (.i2l, 1) := by decide +kernel
theorem dX9_contest_30 : decode cX9_contest 30 = .ok (.ldc2_w 86, 3) := by decide +kernel
theorem dX9_contest_33 : decode cX9_contest 33 = .ok (.iload 6, 2) := by decide +kernel
theorem dX9_contest_35 : decode cX9_contest 35 = .ok (.i2l, 1) := by decide +kernel
theorem dX9_contest_36 : decode cX9_contest 36 = .ok (.invokestatic 90, 3) := by decide +kernel
theorem dX9_contest_39 : decode cX9_contest 39 = .ok (.ifCond .ne 10, 3) := by decide +kernel
theorem dX9_contest_42 : decode cX9_contest 42 = .ok (.aload_n 0, 1) := by decide +kernel
theorem dX9_contest_43 : decode cX9_contest 43 = .ok (.bipush (-2), 2) := by decide +kernel
theorem dX9_contest_45 : decode cX9_contest 45 = .ok (.invokevirtual 110, 3) := by decide +kernel
theorem dX9_contest_48 : decode cX9_contest 48 = .ok (.ireturn, 1) := by decide +kernel
theorem dX9_contest_49 : decode cX9_contest 49 = .ok (.aload_n 0, 1) := by decide +kernel
theorem dX9_contest_50 : decode cX9_contest 50 = .ok (.iload_n 1, 1) := by decide +kernel
theorem dX9_contest_51 : decode cX9_contest 51 = .ok (.iload_n 2, 1) := by decide +kernel
theorem dX9_contest_52 : decode cX9_contest 52 = .ok (.iload_n 3, 1) := by decide +kernel
theorem dX9_contest_53 : decode cX9_contest 53 = .ok (.invokevirtual 221, 3) := by decide +kernel
theorem dX9_contest_56 : decode cX9_contest 56 = .ok (.iconst (-1), 1) := by decide +kernel
theorem dX9_contest_57 : decode cX9_contest 57 = .ok (.istore 7, 2) := by decide +kernel
theorem dX9_contest_59 : decode cX9_contest 59 = .ok (.iconst 0, 1) := by decide +kernel
theorem dX9_contest_60 : decode cX9_contest 60 = .ok (.istore 8, 2) := by decide +kernel
theorem dX9_contest_62 : decode cX9_contest 62 = .ok (.iload 5, 2) := by decide +kernel
theorem dX9_contest_64 : decode cX9_contest 64 = .ok (.istore 9, 2) := by decide +kernel
theorem dX9_contest_66 : decode cX9_contest 66 = .ok (.iload 9, 2) := by decide +kernel
theorem dX9_contest_68 : decode cX9_contest 68 = .ok (.iload 6, 2) := by decide +kernel
theorem dX9_contest_70 : decode cX9_contest 70 = .ok (.if_icmp .gt 48, 3) := by decide +kernel
theorem dX9_contest_73 : decode cX9_contest 73 = .ok (.aload_n 0, 1) := by decide +kernel
theorem dX9_contest_74 : decode cX9_contest 74 = .ok (.iload 9, 2) := by decide +kernel
theorem dX9_contest_76 : decode cX9_contest 76 = .ok (.putfield 146, 3) := by decide +kernel
theorem dX9_contest_79 : decode cX9_contest 79 = .ok (.aload_n 0, 1) := by decide +kernel
theorem dX9_contest_80 : decode cX9_contest 80 = .ok (.iconst 0, 1) := by decide +kernel
theorem dX9_contest_81 : decode cX9_contest 81 = .ok (.iconst 0, 1) := by decide +kernel
theorem dX9_contest_82 : decode cX9_contest 82 = .ok (.iload 4, 2) := by decide +kernel
theorem dX9_contest_84 : decode cX9_contest 84 = .ok (.invokevirtual 224, 3) := by decide +kernel
theorem dX9_contest_87 : decode cX9_contest 87 = .ok (.iload 7, 2) := by decide +kernel
theorem dX9_contest_89 : decode cX9_contest 89 = .ok (.iconst (-1), 1) := by decide +kernel
theorem dX9_contest_90 : decode cX9_contest 90 = .ok (.if_icmp .eq 12, 3) := by decide +kernel
theorem dX9_contest_93 : decode cX9_contest 93 = .ok (.aload_n 0, 1) := by decide +kernel
theorem dX9_contest_94 : decode cX9_contest 94 = .ok (.getfield 181, 3) := by decide +kernel
theorem dX9_contest_97 : decode cX9_contest 97 = .ok (.iload 8, 2) := by decide +kernel
theorem dX9_contest_99 : decode cX9_contest 99 = .ok (.if_icmp .le 13, 3) := by decide +kernel
theorem dX9_contest_102 : decode cX9_contest 102 = .ok (.iload 9, 2) := by decide +kernel
theorem dX9_contest_104 : decode cX9_contest 104 = .ok (.istore 7, 2) := by decide +kernel
theorem dX9_contest_106 : decode cX9_contest 106 = .ok (.aload_n 0, 1) := by decide +kernel
theorem dX9_contest_107 : decode cX9_contest 107 = .ok (.getfield 181, 3) := by decide +kernel
theorem dX9_contest_110 : decode cX9_contest 110 = .ok (.istore 8, 2) := by decide +kernel
theorem dX9_contest_112 : decode cX9_contest 112 = .ok (.iinc 9 1, 3) := by decide +kernel
theorem dX9_contest_115 : decode cX9_contest 115 = .ok (.goto (-49), 3) := by decide +kernel
theorem dX9_contest_118 : decode cX9_contest 118 = .ok (.iload 7, 2) := by decide +kernel
theorem dX9_contest_120 : decode cX9_contest 120 = .ok (.ireturn, 1) := by decide +kernel
theorem dX9_isStory_0 : decode cX9_isStory 0 = .ok (.iload_n 0, 1) := by decide +kernel
theorem dX9_isStory_1 : decode cX9_isStory 1 = .ok (.i2l, 1) := by decide +kernel
theorem dX9_isStory_2 : decode cX9_isStory 2 = .ok (.lconst 0, 1) := by decide +kernel
theorem dX9_isStory_3 : decode cX9_isStory 3 = .ok (.ldc2_w 195, 3) := by decide +kernel
theorem dX9_isStory_6 : decode cX9_isStory 6 = .ok (.invokestatic 90, 3) := by decide +kernel
theorem dX9_isStory_9 : decode cX9_isStory 9 = .ok (.ireturn, 1) := by decide +kernel
theorem dX9_story_0 : decode cX9_story 0 = .ok (.iload_n 1, 1) := by decide +kernel
theorem dX9_story_1 : decode cX9_story 1 = .ok (.invokestatic 231, 3) := by decide +kernel
theorem dX9_story_4 : decode cX9_story 4 = .ok (.ifCond .eq 35, 3) := by decide +kernel
theorem dX9_story_7 : decode cX9_story 7 = .ok (.iload_n 2, 1) := by decide +kernel
theorem dX9_story_8 : decode cX9_story 8 = .ok (.i2l, 1) := by decide +kernel
theorem dX9_story_9 : decode cX9_story 9 = .ok (.lconst 0, 1) := by decide +kernel
theorem dX9_story_10 : decode cX9_story 10 = .ok (.lconst 1, 1) := by decide +kernel
theorem dX9_story_11 : decode cX9_story 11 = .ok (.invokestatic 90, 3) := by decide +kernel
theorem dX9_story_14 : decode cX9_story 14 = .ok (.ifCond .eq 25, 3) := by decide +kernel
theorem dX9_story_17 : decode cX9_story 17 = .ok (.iload_n 3, 1) := by decide +kernel
theorem dX9_story_18 : decode cX9_story 18 = .ok (.i2l, 1) := by decide +kernel
theorem dX9_story_19 : decode cX9_story 19 = .ok (.lconst 0, 1) := by decide +kernel
theorem dX9_story_20 : decode cX9_story 20 = .ok (.iload_n 2, 1) := by decide +kernel
theorem dX9_story_21 : decode cX9_story 21 = .ok (.ifCond .ne 9, 3) := by decide +kernel
theorem dX9_story_24 : decode cX9_story 24 = .ok (.ldc2_w 86, 3) := by decide +kernel
theorem dX9_story_27 : decode cX9_story 27 = .ok (.goto 6, 3) := by decide +kernel
theorem dX9_story_30 : decode cX9_story 30 = .ok (.ldc2_w 96, 3) := by decide +kernel
theorem dX9_story_33 : decode cX9_story 33 = .ok (.invokestatic 90, 3) := by decide +kernel
theorem dX9_story_36 : decode cX9_story 36 = .ok (.ifCond .ne 10, 3) := by decide +kernel
theorem dX9_story_39 : decode cX9_story 39 = .ok (.aload_n 0, 1) := by decide +kernel
theorem dX9_story_40 : decode cX9_story 40 = .ok (.bipush (-2), 2) := by decide +kernel
theorem dX9_story_42 : decode cX9_story 42 = .ok (.invokevirtual 110, 3) := by decide +kernel
theorem dX9_story_45 : decode cX9_story 45 = .ok (.ireturn, 1) := by decide +kernel
theorem dX9_story_46 : decode cX9_story 46 = .ok (.bipush 40, 2) := by decide +kernel
theorem dX9_story_48 : decode cX9_story 48 = .ok (.iconst 2, 1) := by decide +kernel
theorem dX9_story_49 : decode cX9_story 49 = .ok (.iload_n 1, 1) := by decide +kernel
theorem dX9_story_50 : decode cX9_story 50 = .ok (.imul, 1) := by decide +kernel
theorem dX9_story_51 : decode cX9_story 51 = .ok (.iadd, 1) := by decide +kernel
theorem dX9_story_52 : decode cX9_story 52 = .ok (.iload_n 2, 1) := by decide +kernel
theorem dX9_story_53 : decode cX9_story 53 = .ok (.iadd, 1) := by decide +kernel
theorem dX9_story_54 : decode cX9_story 54 = .ok (.istore 4, 2) := by decide +kernel
theorem dX9_story_56 : decode cX9_story 56 = .ok (.aload_n 0, 1) := by decide +kernel
theorem dX9_story_57 : decode cX9_story 57 = .ok (.getfield 7, 3) := by decide +kernel
theorem dX9_story_60 : decode cX9_story 60 = .ok (.iload 4, 2) := by decide +kernel
theorem dX9_story_62 : decode cX9_story 62 = .ok (.iaload, 1) := by decide +kernel
theorem dX9_story_63 : decode cX9_story 63 = .ok (.istore 5, 2) := by decide +kernel
theorem dX9_story_65 : decode cX9_story 65 = .ok (.aload_n 0, 1) := by decide +kernel
theorem dX9_story_66 : decode cX9_story 66 = .ok (.getfield 7, 3) := by decide +kernel
theorem dX9_story_69 : decode cX9_story 69 = .ok (.iload 4, 2) := by decide +kernel
theorem dX9_story_71 : decode cX9_story 71 = .ok (.iload_n 3, 1) := by decide +kernel
theorem dX9_story_72 : decode cX9_story 72 = .ok (.iastore, 1) := by decide +kernel
theorem dX9_story_73 : decode cX9_story 73 = .ok (.iload 5, 2) := by decide +kernel
theorem dX9_story_75 : decode cX9_story 75 = .ok (.ireturn, 1) := by decide +kernel
theorem dX9_tries_0 : decode cX9_tries 0 = .ok (.iload_n 1, 1) := by decide +kernel
theorem dX9_tries_1 : decode cX9_tries 1 = .ok (.i2l, 1) := by decide +kernel
theorem dX9_tries_2 : decode cX9_tries 2 = .ok (.lconst 0, 1) := by decide +kernel
theorem dX9_tries_3 : decode cX9_tries 3 = .ok (.ldc2_w 234, 3) := by decide +kernel
theorem dX9_tries_6 : decode cX9_tries 6 = .ok (.invokestatic 90, 3) := by decide +kernel
theorem dX9_tries_9 : decode cX9_tries 9 = .ok (.ifCond .eq 14, 3) := by decide +kernel
theorem dX9_tries_12 : decode cX9_tries 12 = .ok (.iload_n 2, 1) := by decide +kernel
theorem dX9_tries_13 : decode cX9_tries 13 = .ok (.i2l, 1) := by decide +kernel
theorem dX9_tries_14 : decode cX9_tries 14 = .ok (.lconst 0, 1) := by decide +kernel
theorem dX9_tries_15 : decode cX9_tries 15 = .ok (.iload_n 1, 1) := by decide +kernel
theorem dX9_tries_16 : decode cX9_tries 16 = .ok (.i2l, 1) := by decide +kernel
theorem dX9_tries_17 : decode cX9_tries 17 = .ok (.invokestatic 90, 3) := by decide +kernel
theorem dX9_tries_20 : decode cX9_tries 20 = .ok (.ifCond .ne 10, 3) := by decide +kernel
theorem dX9_tries_23 : decode cX9_tries 23 = .ok (.aload_n 0, 1) := by decide +kernel
theorem dX9_tries_24 : decode cX9_tries 24 = .ok (.bipush (-2), 2) := by decide +kernel
theorem dX9_tries_26 : decode cX9_tries 26 = .ok (.invokevirtual 110, 3) := by decide +kernel
theorem dX9_tries_29 : decode cX9_tries 29 = .ok (.ireturn, 1) := by decide +kernel
theorem dX9_tries_30 : decode cX9_tries 30 = .ok (.aload_n 0, 1) := by decide +kernel
theorem dX9_tries_31 : decode cX9_tries 31 = .ok (.getfield 7, 3) := by decide +kernel
theorem dX9_tries_34 : decode cX9_tries 34 = .ok (.bipush 48, 2) := by decide +kernel
theorem dX9_tries_36 : decode cX9_tries 36 = .ok (.iload_n 1, 1) := by decide +kernel
theorem dX9_tries_37 : decode cX9_tries 37 = .ok (.iastore, 1) := by decide +kernel
theorem dX9_tries_38 : decode cX9_tries 38 = .ok (.aload_n 0, 1) := by decide +kernel
theorem dX9_tries_39 : decode cX9_tries 39 = .ok (.getfield 7, 3) := by decide +kernel
theorem dX9_tries_42 : decode cX9_tries 42 = .ok (.bipush 49, 2) := by decide +kernel
theorem dX9_tries_44 : decode cX9_tries 44 = .ok (.iload_n 2, 1) := by decide +kernel
theorem dX9_tries_45 : decode cX9_tries 45 = .ok (.iastore, 1) := by decide +kernel
theorem dX9_tries_46 : decode cX9_tries 46 = .ok (.iconst 1, 1) := by decide +kernel
theorem dX9_tries_47 : decode cX9_tries 47 = .ok (.ireturn, 1) := by decide +kernel
theorem dX9_weigh_0 : decode cX9_weigh 0 = .ok (.aload_n 0, 1) := by decide +kernel
theorem dX9_weigh_1 : decode cX9_weigh 1 = .ok (.iload_n 1, 1) := by decide +kernel
theorem dX9_weigh_2 : decode cX9_weigh 2 = .ok (.aload_n 0, 1) := by decide +kernel
theorem dX9_weigh_3 : decode cX9_weigh 3 = .ok (.getfield 7, 3) := by decide +kernel
theorem dX9_weigh_6 : decode cX9_weigh 6 = .ok (.bipush 40, 2) := by decide +kernel
theorem dX9_weigh_8 : decode cX9_weigh 8 = .ok (.iconst 2, 1) := by decide +kernel
theorem dX9_weigh_9 : decode cX9_weigh 9 = .ok (.iload_n 2, 1) := by decide +kernel
theorem dX9_weigh_10 : decode cX9_weigh 10 = .ok (.imul, 1) := by decide +kernel
theorem dX9_weigh_11 : decode cX9_weigh 11 = .ok (.iadd, 1) := by decide +kernel
theorem dX9_weigh_12 : decode cX9_weigh 12 = .ok (.iconst 1, 1) := by decide +kernel
theorem dX9_weigh_13 : decode cX9_weigh 13 = .ok (.iadd, 1) := by decide +kernel
theorem dX9_weigh_14 : decode cX9_weigh 14 = .ok (.iaload, 1) := by decide +kernel
theorem dX9_weigh_15 : decode cX9_weigh 15 = .ok (.i2l, 1) := by decide +kernel
theorem dX9_weigh_16 : decode cX9_weigh 16 = .ok (.invokevirtual 36, 3) := by decide +kernel
theorem dX9_weigh_19 : decode cX9_weigh 19 = .ok (.iconst 0, 1) := by decide +kernel
theorem dX9_weigh_20 : decode cX9_weigh 20 = .ok (.istore_n 3, 1) := by decide +kernel
theorem dX9_weigh_21 : decode cX9_weigh 21 = .ok (.iload_n 3, 1) := by decide +kernel
theorem dX9_weigh_22 : decode cX9_weigh 22 = .ok (.aload_n 0, 1) := by decide +kernel
theorem dX9_weigh_23 : decode cX9_weigh 23 = .ok (.getfield 7, 3) := by decide +kernel
theorem dX9_weigh_26 : decode cX9_weigh 26 = .ok (.bipush 48, 2) := by decide +kernel
theorem dX9_weigh_28 : decode cX9_weigh 28 = .ok (.iaload, 1) := by decide +kernel
theorem dX9_weigh_29 : decode cX9_weigh 29 = .ok (.if_icmp .ge 50, 3) := by decide +kernel
theorem dX9_weigh_32 : decode cX9_weigh 32 = .ok (.aload_n 0, 1) := by decide +kernel
theorem dX9_weigh_33 : decode cX9_weigh 33 = .ok (.getfield 7, 3) := by decide +kernel
theorem dX9_weigh_36 : decode cX9_weigh 36 = .ok (.bipush 40, 2) := by decide +kernel
theorem dX9_weigh_38 : decode cX9_weigh 38 = .ok (.iconst 2, 1) := by decide +kernel
theorem dX9_weigh_39 : decode cX9_weigh 39 = .ok (.iload_n 2, 1) := by decide +kernel
theorem dX9_weigh_40 : decode cX9_weigh 40 = .ok (.imul, 1) := by decide +kernel
theorem dX9_weigh_41 : decode cX9_weigh 41 = .ok (.iadd, 1) := by decide +kernel
theorem dX9_weigh_42 : decode cX9_weigh 42 = .ok (.iaload, 1) := by decide +kernel
theorem dX9_weigh_43 : decode cX9_weigh 43 = .ok (.istore 4, 2) := by decide +kernel
theorem dX9_weigh_45 : decode cX9_weigh 45 = .ok (.aload_n 0, 1) := by decide +kernel
theorem dX9_weigh_46 : decode cX9_weigh 46 = .ok (.iload_n 1, 1) := by decide +kernel
theorem dX9_weigh_47 : decode cX9_weigh 47 = .ok (.iload_n 3, 1) := by decide +kernel
theorem dX9_weigh_48 : decode cX9_weigh 48 = .ok (.aload_n 0, 1) := by decide +kernel
theorem dX9_weigh_49 : decode cX9_weigh 49 = .ok (.getfield 7, 3) := by decide +kernel
theorem dX9_weigh_52 : decode cX9_weigh 52 = .ok (.bipush 49, 2) := by decide +kernel
theorem dX9_weigh_54 : decode cX9_weigh 54 = .ok (.iaload, 1) := by decide +kernel
theorem dX9_weigh_55 : decode cX9_weigh 55 = .ok (.if_icmp .ge 9, 3) := by decide +kernel
theorem dX9_weigh_58 : decode cX9_weigh 58 = .ok (.iload 4, 2) := by decide +kernel
theorem dX9_weigh_60 : decode cX9_weigh 60 = .ok (.i2l, 1) := by decide +kernel
theorem dX9_weigh_61 : decode cX9_weigh 61 = .ok (.goto 9, 3) := by decide +kernel
theorem dX9_weigh_64 : decode cX9_weigh 64 = .ok (.bipush 20, 2) := by decide +kernel
theorem dX9_weigh_66 : decode cX9_weigh 66 = .ok (.iload 4, 2) := by decide +kernel
theorem dX9_weigh_68 : decode cX9_weigh 68 = .ok (.isub, 1) := by decide +kernel
theorem dX9_weigh_69 : decode cX9_weigh 69 = .ok (.i2l, 1) := by decide +kernel
theorem dX9_weigh_70 : decode cX9_weigh 70 = .ok (.invokevirtual 66, 3) := by decide +kernel
theorem dX9_weigh_73 : decode cX9_weigh 73 = .ok (.iinc 3 1, 3) := by decide +kernel
theorem dX9_weigh_76 : decode cX9_weigh 76 = .ok (.goto (-55), 3) := by decide +kernel
theorem dX9_weigh_79 : decode cX9_weigh 79 = .ok (.return_, 1) := by decide +kernel
theorem dX9_odds_0 : decode cX9_odds 0 = .ok (.iload_n 1, 1) := by decide +kernel
theorem dX9_odds_1 : decode cX9_odds 1 = .ok (.invokestatic 231, 3) := by decide +kernel
theorem dX9_odds_4 : decode cX9_odds 4 = .ok (.ifCond .ne 10, 3) := by decide +kernel
theorem dX9_odds_7 : decode cX9_odds 7 = .ok (.aload_n 0, 1) := by decide +kernel
theorem dX9_odds_8 : decode cX9_odds 8 = .ok (.bipush (-2), 2) := by decide +kernel
theorem dX9_odds_10 : decode cX9_odds 10 = .ok (.invokevirtual 110, 3) := by decide +kernel
theorem dX9_odds_13 : decode cX9_odds 13 = .ok (.ireturn, 1) := by decide +kernel
theorem dX9_odds_14 : decode cX9_odds 14 = .ok (.aload_n 0, 1) := by decide +kernel
theorem dX9_odds_15 : decode cX9_odds 15 = .ok (.iconst 4, 1) := by decide +kernel
theorem dX9_odds_16 : decode cX9_odds 16 = .ok (.lconst 0, 1) := by decide +kernel
theorem dX9_odds_17 : decode cX9_odds 17 = .ok (.invokevirtual 36, 3) := by decide +kernel
theorem dX9_odds_20 : decode cX9_odds 20 = .ok (.iconst 0, 1) := by decide +kernel
theorem dX9_odds_21 : decode cX9_odds 21 = .ok (.istore_n 2, 1) := by decide +kernel
theorem dX9_odds_22 : decode cX9_odds 22 = .ok (.iload_n 2, 1) := by decide +kernel
theorem dX9_odds_23 : decode cX9_odds 23 = .ok (.iconst 4, 1) := by decide +kernel
theorem dX9_odds_24 : decode cX9_odds 24 = .ok (.if_icmp .ge 21, 3) := by decide +kernel
theorem dX9_odds_27 : decode cX9_odds 27 = .ok (.aload_n 0, 1) := by decide +kernel
theorem dX9_odds_28 : decode cX9_odds 28 = .ok (.iconst 2, 1) := by decide +kernel
theorem dX9_odds_29 : decode cX9_odds 29 = .ok (.iload_n 2, 1) := by decide +kernel
theorem dX9_odds_30 : decode cX9_odds 30 = .ok (.invokevirtual 236, 3) := by decide +kernel
theorem dX9_odds_33 : decode cX9_odds 33 = .ok (.aload_n 0, 1) := by decide +kernel
theorem dX9_odds_34 : decode cX9_odds 34 = .ok (.iconst 4, 1) := by decide +kernel
theorem dX9_odds_35 : decode cX9_odds 35 = .ok (.iconst 2, 1) := by decide +kernel
theorem dX9_odds_36 : decode cX9_odds 36 = .ok (.invokevirtual 239, 3) := by decide +kernel
theorem dX9_odds_39 : decode cX9_odds 39 = .ok (.iinc 2 1, 3) := by decide +kernel
theorem dX9_odds_42 : decode cX9_odds 42 = .ok (.goto (-20), 3) := by decide +kernel
theorem dX9_odds_45 : decode cX9_odds 45 = .ok (.aload_n 0, 1) := by decide +kernel
theorem dX9_odds_46 : decode cX9_odds 46 = .ok (.getfield 27, 3) := by decide +kernel
theorem dX9_odds_49 : decode cX9_odds 49 = .ok (.iconst 4, 1) := by decide +kernel
theorem dX9_odds_50 : decode cX9_odds 50 = .ok (.iaload, 1) := by decide +kernel
theorem dX9_odds_51 : decode cX9_odds 51 = .ok (.ifCond .ne 10, 3) := by decide +kernel
theorem dX9_odds_54 : decode cX9_odds 54 = .ok (.aload_n 0, 1) := by decide +kernel
theorem dX9_odds_55 : decode cX9_odds 55 = .ok (.bipush (-3), 2) := by decide +kernel
theorem dX9_odds_57 : decode cX9_odds 57 = .ok (.invokevirtual 242, 3) := by decide +kernel
theorem dX9_odds_60 : decode cX9_odds 60 = .ok (.ireturn, 1) := by decide +kernel
theorem dX9_odds_61 : decode cX9_odds 61 = .ok (.aload_n 0, 1) := by decide +kernel
theorem dX9_odds_62 : decode cX9_odds 62 = .ok (.iconst 2, 1) := by decide +kernel
theorem dX9_odds_63 : decode cX9_odds 63 = .ok (.iload_n 1, 1) := by decide +kernel
theorem dX9_odds_64 : decode cX9_odds 64 = .ok (.invokevirtual 236, 3) := by decide +kernel
theorem dX9_odds_67 : decode cX9_odds 67 = .ok (.aload_n 0, 1) := by decide +kernel
theorem dX9_odds_68 : decode cX9_odds 68 = .ok (.iconst 2, 1) := by decide +kernel
theorem dX9_odds_69 : decode cX9_odds 69 = .ok (.iconst 4, 1) := by decide +kernel
theorem dX9_odds_70 : decode cX9_odds 70 = .ok (.iconst 0, 1) := by decide +kernel
theorem dX9_odds_71 : decode cX9_odds 71 = .ok (.invokevirtual 82, 3) := by decide +kernel
theorem dX9_odds_74 : decode cX9_odds 74 = .ok (.iconst 1, 1) := by decide +kernel
theorem dX9_odds_75 : decode cX9_odds 75 = .ok (.ireturn, 1) := by decide +kernel
theorem dX9_parts_0 : decode cX9_parts 0 = .ok (.iconst (-1), 1) := by decide +kernel
theorem dX9_parts_1 : decode cX9_parts 1 = .ok (.istore_n 1, 1) := by decide +kernel
theorem dX9_parts_2 : decode cX9_parts 2 = .ok (.aload_n 0, 1) := by decide +kernel
theorem dX9_parts_3 : decode cX9_parts 3 = .ok (.bipush 6, 2) := by decide +kernel
theorem dX9_parts_5 : decode cX9_parts 5 = .ok (.lconst 0, 1) := by decide +kernel
theorem dX9_parts_6 : decode cX9_parts 6 = .ok (.invokevirtual 36, 3) := by decide +kernel
theorem dX9_parts_9 : decode cX9_parts 9 = .ok (.iconst 0, 1) := by decide +kernel
theorem dX9_parts_10 : decode cX9_parts 10 = .ok (.istore_n 2, 1) := by decide +kernel
theorem dX9_parts_11 : decode cX9_parts 11 = .ok (.iload_n 2, 1) := by decide +kernel
theorem dX9_parts_12 : decode cX9_parts 12 = .ok (.iconst 4, 1) := by decide +kernel
theorem dX9_parts_13 : decode cX9_parts 13 = .ok (.if_icmp .ge 34, 3) := by decide +kernel
theorem dX9_parts_16 : decode cX9_parts 16 = .ok (.aload_n 0, 1) := by decide +kernel
theorem dX9_parts_17 : decode cX9_parts 17 = .ok (.iconst 2, 1) := by decide +kernel
theorem dX9_parts_18 : decode cX9_parts 18 = .ok (.iload_n 2, 1) := by decide +kernel
theorem dX9_parts_19 : decode cX9_parts 19 = .ok (.invokevirtual 236, 3) := by decide +kernel
theorem dX9_parts_22 : decode cX9_parts 22 = .ok (.aload_n 0, 1) := by decide +kernel
theorem dX9_parts_23 : decode cX9_parts 23 = .ok (.iconst 2, 1) := by decide +kernel
theorem dX9_parts_24 : decode cX9_parts 24 = .ok (.bipush 6, 2) := by decide +kernel
theorem dX9_parts_26 : decode cX9_parts 26 = .ok (.invokevirtual 59, 3) := by decide +kernel
theorem dX9_parts_29 : decode cX9_parts 29 = .ok (.ifCond .le 12, 3) := by decide +kernel
theorem dX9_parts_32 : decode cX9_parts 32 = .ok (.iload_n 2, 1) := by decide +kernel
theorem dX9_parts_33 : decode cX9_parts 33 = .ok (.istore_n 1, 1) := by decide +kernel
theorem dX9_parts_34 : decode cX9_parts 34 = .ok (.aload_n 0, 1) := by decide +kernel
theorem dX9_parts_35 : decode cX9_parts 35 = .ok (.bipush 6, 2) := by decide +kernel
theorem dX9_parts_37 : decode cX9_parts 37 = .ok (.iconst 2, 1) := by decide +kernel
theorem dX9_parts_38 : decode cX9_parts 38 = .ok (.invokevirtual 48, 3) := by decide +kernel
theorem dX9_parts_41 : decode cX9_parts 41 = .ok (.iinc 2 1, 3) := by decide +kernel
theorem dX9_parts_44 : decode cX9_parts 44 = .ok (.goto (-33), 3) := by decide +kernel
theorem dX9_parts_47 : decode cX9_parts 47 = .ok (.iload_n 1, 1) := by decide +kernel
theorem dX9_parts_48 : decode cX9_parts 48 = .ok (.iconst (-1), 1) := by decide +kernel
theorem dX9_parts_49 : decode cX9_parts 49 = .ok (.if_icmp .ne 12, 3) := by decide +kernel
theorem dX9_parts_52 : decode cX9_parts 52 = .ok (.aload_n 0, 1) := by decide +kernel
theorem dX9_parts_53 : decode cX9_parts 53 = .ok (.bipush (-3), 2) := by decide +kernel
theorem dX9_parts_55 : decode cX9_parts 55 = .ok (.invokevirtual 242, 3) := by decide +kernel
theorem dX9_parts_58 : decode cX9_parts 58 = .ok (.goto 4, 3) := by decide +kernel
theorem dX9_parts_61 : decode cX9_parts 61 = .ok (.iload_n 1, 1) := by decide +kernel
theorem dX9_parts_62 : decode cX9_parts 62 = .ok (.ireturn, 1) := by decide +kernel
theorem dX9_person_0 : decode cX9_person 0 = .ok (.iload_n 1, 1) := by decide +kernel
theorem dX9_person_1 : decode cX9_person 1 = .ok (.i2l, 1) := by decide +kernel
theorem dX9_person_2 : decode cX9_person 2 = .ok (.lconst 0, 1) := by decide +kernel
theorem dX9_person_3 : decode cX9_person 3 = .ok (.lconst 1, 1) := by decide +kernel
theorem dX9_person_4 : decode cX9_person 4 = .ok (.invokestatic 90, 3) := by decide +kernel
theorem dX9_person_7 : decode cX9_person 7 = .ok (.ifCond .eq 15, 3) := by decide +kernel
theorem dX9_person_10 : decode cX9_person 10 = .ok (.iload_n 2, 1) := by decide +kernel
theorem dX9_person_11 : decode cX9_person 11 = .ok (.i2l, 1) := by decide +kernel
theorem dX9_person_12 : decode cX9_person 12 = .ok (.lconst 0, 1) := by decide +kernel
theorem dX9_person_13 : decode cX9_person 13 = .ok (.ldc2_w 245, 3) := by decide +kernel
theorem dX9_person_16 : decode cX9_person 16 = .ok (.invokestatic 90, 3) := by decide +kernel
theorem dX9_person_19 : decode cX9_person 19 = .ok (.ifCond .ne 10, 3) := by decide +kernel
theorem dX9_person_22 : decode cX9_person 22 = .ok (.aload_n 0, 1) := by decide +kernel
theorem dX9_person_23 : decode cX9_person 23 = .ok (.bipush (-2), 2) := by decide +kernel
theorem dX9_person_25 : decode cX9_person 25 = .ok (.invokevirtual 110, 3) := by decide +kernel
theorem dX9_person_28 : decode cX9_person 28 = .ok (.ireturn, 1) := by decide +kernel
theorem dX9_person_29 : decode cX9_person 29 = .ok (.aload_n 0, 1) := by decide +kernel
theorem dX9_person_30 : decode cX9_person 30 = .ok (.iconst 3, 1) := by decide +kernel
theorem dX9_person_31 : decode cX9_person 31 = .ok (.invokevirtual 102, 3) := by decide +kernel
theorem dX9_person_34 : decode cX9_person 34 = .ok (.bipush 16, 2) := by decide +kernel
theorem dX9_person_36 : decode cX9_person 36 = .ok (.if_icmp .ne 10, 3) := by decide +kernel
theorem dX9_person_39 : decode cX9_person 39 = .ok (.aload_n 0, 1) := by decide +kernel
theorem dX9_person_40 : decode cX9_person 40 = .ok (.invokevirtual 113, 3) := by decide +kernel
theorem dX9_person_43 : decode cX9_person 43 = .ok (.goto 29, 3) := by decide +kernel
theorem dX9_person_46 : decode cX9_person 46 = .ok (.aload_n 0, 1) := by decide +kernel
theorem dX9_person_47 : decode cX9_person 47 = .ok (.iconst 3, 1) := by decide +kernel
theorem dX9_person_48 : decode cX9_person 48 = .ok (.bipush 50, 2) := by decide +kernel
theorem dX9_person_50 : decode cX9_person 50 = .ok (.iconst 3, 1) := by decide +kernel
theorem dX9_person_51 : decode cX9_person 51 = .ok (.aload_n 0, 1) := by decide +kernel
theorem dX9_person_52 : decode cX9_person 52 = .ok (.iconst 3, 1) := by decide +kernel
theorem dX9_person_53 : decode cX9_person 53 = .ok (.invokevirtual 102, 3) := by decide +kernel
theorem dX9_person_56 : decode cX9_person 56 = .ok (.imul, 1) := by decide +kernel
theorem dX9_person_57 : decode cX9_person 57 = .ok (.iadd, 1) := by decide +kernel
theorem dX9_person_58 : decode cX9_person 58 = .ok (.iload_n 1, 1) := by decide +kernel
theorem dX9_person_59 : decode cX9_person 59 = .ok (.iload_n 2, 1) := by decide +kernel
theorem dX9_person_60 : decode cX9_person 60 = .ok (.iload_n 3, 1) := by decide +kernel
theorem dX9_person_61 : decode cX9_person 61 = .ok (.ifCond .eq 7, 3) := by decide +kernel
theorem dX9_person_64 : decode cX9_person 64 = .ok (.iconst 1, 1) := by decide +kernel
theorem dX9_person_65 : decode cX9_person 65 = .ok (.goto 4, 3) := by decide +kernel
theorem dX9_person_68 : decode cX9_person 68 = .ok (.iconst 0, 1) := by decide +kernel
theorem dX9_person_69 : decode cX9_person 69 = .ok (.invokevirtual 117, 3) := by decide +kernel
theorem dX9_person_72 : decode cX9_person 72 = .ok (.ireturn, 1) := by decide +kernel
theorem dX9_praise_0 : decode cX9_praise 0 = .ok (.iload_n 1, 1) := by decide +kernel
theorem dX9_praise_1 : decode cX9_praise 1 = .ok (.i2l, 1) := by decide +kernel
theorem dX9_praise_2 : decode cX9_praise 2 = .ok (.ldc2_w 247, 3) := by decide +kernel
theorem dX9_praise_5 : decode cX9_praise 5 = .ok (.ldc2_w 94, 3) := by decide +kernel
theorem dX9_praise_8 : decode cX9_praise 8 = .ok (.invokestatic 90, 3) := by decide +kernel
theorem dX9_praise_11 : decode cX9_praise 11 = .ok (.ifCond .ne 10, 3) := by decide +kernel
theorem dX9_praise_14 : decode cX9_praise 14 = .ok (.aload_n 0, 1) := by decide +kernel
theorem dX9_praise_15 : decode cX9_praise 15 = .ok (.bipush (-100), 2) := by decide +kernel
theorem dX9_praise_17 : decode cX9_praise 17 = .ok (.invokevirtual 110, 3) := by decide +kernel
theorem dX9_praise_20 : decode cX9_praise 20 = .ok (.ireturn, 1) := by decide +kernel
theorem dX9_praise_21 : decode cX9_praise 21 = .ok (.aload_n 0, 1) := by decide +kernel
theorem dX9_praise_22 : decode cX9_praise 22 = .ok (.getfield 7, 3) := by decide +kernel
theorem dX9_praise_25 : decode cX9_praise 25 = .ok (.bipush 98, 2) := by decide +kernel
theorem dX9_praise_27 : decode cX9_praise 27 = .ok (.iaload, 1) := by decide +kernel
theorem dX9_praise_28 : decode cX9_praise 28 = .ok (.istore_n 2, 1) := by decide +kernel
theorem dX9_praise_29 : decode cX9_praise 29 = .ok (.aload_n 0, 1) := by decide +kernel
theorem dX9_praise_30 : decode cX9_praise 30 = .ok (.getfield 7, 3) := by decide +kernel
theorem dX9_praise_33 : decode cX9_praise 33 = .ok (.bipush 98, 2) := by decide +kernel
theorem dX9_praise_35 : decode cX9_praise 35 = .ok (.iload_n 1, 1) := by decide +kernel
theorem dX9_praise_36 : decode cX9_praise 36 = .ok (.iastore, 1) := by decide +kernel
theorem dX9_praise_37 : decode cX9_praise 37 = .ok (.iload_n 2, 1) := by decide +kernel
theorem dX9_praise_38 : decode cX9_praise 38 = .ok (.ireturn, 1) := by decide +kernel
theorem dX9_groupOf_0 : decode cX9_groupOf 0 = .ok (.aload_n 0, 1) := by decide +kernel
theorem dX9_groupOf_1 : decode cX9_groupOf 1 = .ok (.getfield 7, 3) := by decide +kernel
theorem dX9_groupOf_4 : decode cX9_groupOf 4 = .ok (.bipush 50, 2) := by decide +kernel
theorem dX9_groupOf_6 : decode cX9_groupOf 6 = .ok (.iconst 3, 1) := by decide +kernel
theorem dX9_groupOf_7 : decode cX9_groupOf 7 = .ok (.iload_n 1, 1) := by decide +kernel
theorem dX9_groupOf_8 : decode cX9_groupOf 8 = .ok (.imul, 1) := by decide +kernel
theorem dX9_groupOf_9 : decode cX9_groupOf 9 = .ok (.iadd, 1) := by decide +kernel
theorem dX9_groupOf_10 : decode cX9_groupOf 10 = .ok (.iaload, 1) := by decide +kernel
theorem dX9_groupOf_11 : decode cX9_groupOf 11 = .ok (.ireturn, 1) := by decide +kernel
theorem dX9_rightOf_0 : decode cX9_rightOf 0 = .ok (.aload_n 0, 1) := by decide +kernel
theorem dX9_rightOf_1 : decode cX9_rightOf 1 = .ok (.getfield 7, 3) := by decide +kernel
theorem dX9_rightOf_4 : decode cX9_rightOf 4 = .ok (.bipush 50, 2) := by decide +kernel
theorem dX9_rightOf_6 : decode cX9_rightOf 6 = .ok (.iconst 3, 1) := by decide +kernel
theorem dX9_rightOf_7 : decode cX9_rightOf 7 = .ok (.iload_n 1, 1) := by decide +kernel
theorem dX9_rightOf_8 : decode cX9_rightOf 8 = .ok (.imul, 1) := by decide +kernel
theorem dX9_rightOf_9 : decode cX9_rightOf 9 = .ok (.iadd, 1) := by decide +kernel
theorem dX9_rightOf_10 : decode cX9_rightOf 10 = .ok (.iconst 1, 1) := by decide +kernel
theorem dX9_rightOf_11 : decode cX9_rightOf 11 = .ok (.iadd, 1) := by decide +kernel
theorem dX9_rightOf_12 : decode cX9_rightOf 12 = .ok (.iaload, 1) := by decide +kernel
theorem dX9_rightOf_13 : decode cX9_rightOf 13 = .ok (.aload_n 0, 1) := by decide +kernel
theorem dX9_rightOf_14 : decode cX9_rightOf 14 = .ok (.getfield 7, 3) := by decide +kernel
theorem dX9_rightOf_17 : decode cX9_rightOf 17 = .ok (.bipush 50, 2) := by decide +kernel
theorem dX9_rightOf_19 : decode cX9_rightOf 19 = .ok (.iconst 3, 1) := by decide +kernel
theorem dX9_rightOf_20 : decode cX9_rightOf 20 = .ok (.iload_n 1, 1) := by decide +kernel
theorem dX9_rightOf_21 : decode cX9_rightOf 21 = .ok (.imul, 1) := by decide +kernel
theorem dX9_rightOf_22 : decode cX9_rightOf 22 = .ok (.iadd, 1) := by decide +kernel
theorem dX9_rightOf_23 : decode cX9_rightOf 23 = .ok (.iconst 2, 1) := by decide +kernel
theorem dX9_rightOf_24 : decode cX9_rightOf 24 = .ok (.iadd, 1) := by decide +kernel
theorem dX9_rightOf_25 : decode cX9_rightOf 25 = .ok (.iaload, 1) := by decide +kernel
theorem dX9_rightOf_26 : decode cX9_rightOf 26 = .ok (.iconst 1, 1) := by decide +kernel
theorem dX9_rightOf_27 : decode cX9_rightOf 27 = .ok (.if_icmp .ne 13, 3) := by decide +kernel
theorem dX9_rightOf_30 : decode cX9_rightOf 30 = .ok (.aload_n 0, 1) := by decide +kernel
theorem dX9_rightOf_31 : decode cX9_rightOf 31 = .ok (.getfield 7, 3) := by decide +kernel
theorem dX9_rightOf_34 : decode cX9_rightOf 34 = .ok (.bipush 98, 2) := by decide +kernel
theorem dX9_rightOf_36 : decode cX9_rightOf 36 = .ok (.iaload, 1) := by decide +kernel
theorem dX9_rightOf_37 : decode cX9_rightOf 37 = .ok (.goto 4, 3) := by decide +kernel
theorem dX9_rightOf_40 : decode cX9_rightOf 40 = .ok (.iconst 0, 1) := by decide +kernel
theorem dX9_rightOf_41 : decode cX9_rightOf 41 = .ok (.iadd, 1) := by decide +kernel
theorem dX9_rightOf_42 : decode cX9_rightOf 42 = .ok (.ireturn, 1) := by decide +kernel
theorem dX9_pairs_0 : decode cX9_pairs 0 = .ok (.iconst 0, 1) := by decide +kernel
theorem dX9_pairs_1 : decode cX9_pairs 1 = .ok (.istore_n 1, 1) := by decide +kernel
theorem dX9_pairs_2 : decode cX9_pairs 2 = .ok (.iconst 0, 1) := by decide +kernel
theorem dX9_pairs_3 : decode cX9_pairs 3 = .ok (.istore_n 2, 1) := by decide +kernel
theorem dX9_pairs_4 : decode cX9_pairs 4 = .ok (.iconst 0, 1) := by decide +kernel
theorem dX9_pairs_5 : decode cX9_pairs 5 = .ok (.istore_n 3, 1) := by decide +kernel
theorem dX9_pairs_6 : decode cX9_pairs 6 = .ok (.iload_n 3, 1) := by decide +kernel
theorem dX9_pairs_7 : decode cX9_pairs 7 = .ok (.aload_n 0, 1) := by decide +kernel
theorem dX9_pairs_8 : decode cX9_pairs 8 = .ok (.iconst 3, 1) := by decide +kernel
theorem dX9_pairs_9 : decode cX9_pairs 9 = .ok (.invokevirtual 102, 3) := by decide +kernel
theorem dX9_pairs_12 : decode cX9_pairs 12 = .ok (.if_icmp .ge 89, 3) := by decide +kernel
theorem dX9_pairs_15 : decode cX9_pairs 15 = .ok (.iconst 0, 1) := by decide +kernel
theorem dX9_pairs_16 : decode cX9_pairs 16 = .ok (.istore 4, 2) := by decide +kernel
theorem dX9_pairs_18 : decode cX9_pairs 18 = .ok (.iload 4, 2) := by decide +kernel
theorem dX9_pairs_20 : decode cX9_pairs 20 = .ok (.aload_n 0, 1) := by decide +kernel
theorem dX9_pairs_21 : decode cX9_pairs 21 = .ok (.iconst 3, 1) := by decide +kernel
theorem dX9_pairs_22 : decode cX9_pairs 22 = .ok (.invokevirtual 102, 3) := by decide +kernel
theorem dX9_pairs_25 : decode cX9_pairs 25 = .ok (.if_icmp .ge 70, 3) := by decide +kernel
theorem dX9_pairs_28 : decode cX9_pairs 28 = .ok (.aload_n 0, 1) := by decide +kernel
theorem dX9_pairs_29 : decode cX9_pairs 29 = .ok (.iload_n 3, 1) := by decide +kernel
theorem dX9_pairs_30 : decode cX9_pairs 30 = .ok (.invokevirtual 249, 3) := by decide +kernel
theorem dX9_pairs_33 : decode cX9_pairs 33 = .ok (.ifCond .ne 56, 3) := by decide +kernel
theorem dX9_pairs_36 : decode cX9_pairs 36 = .ok (.aload_n 0, 1) := by decide +kernel
theorem dX9_pairs_37 : decode cX9_pairs 37 = .ok (.iload 4, 2) := by decide +kernel
theorem dX9_pairs_39 : decode cX9_pairs 39 = .ok (.invokevirtual 249, 3) := by decide +kernel
theorem dX9_pairs_42 : decode cX9_pairs 42 = .ok (.iconst 1, 1) := by decide +kernel
theorem dX9_pairs_43 : decode cX9_pairs 43 = .ok (.if_icmp .ne 46, 3) := by decide +kernel
theorem dX9_pairs_46 : decode cX9_pairs 46 = .ok (.iinc 1 2, 3) := by decide +kernel
theorem dX9_pairs_49 : decode cX9_pairs 49 = .ok (.iload_n 2, 1) := by decide +kernel
theorem dX9_pairs_50 : decode cX9_pairs 50 = .ok (.aload_n 0, 1) := by decide +kernel
theorem dX9_pairs_51 : decode cX9_pairs 51 = .ok (.iload 4, 2) := by decide +kernel
theorem dX9_pairs_53 : decode cX9_pairs 53 = .ok (.invokevirtual 252, 3) := by decide +kernel
theorem dX9_pairs_56 : decode cX9_pairs 56 = .ok (.aload_n 0, 1) := by decide +kernel
theorem dX9_pairs_57 : decode cX9_pairs 57 = .ok (.iload_n 3, 1) := by decide +kernel
theorem dX9_pairs_58 : decode cX9_pairs 58 = .ok (.invokevirtual 252, 3) := by decide +kernel
theorem dX9_pairs_61 : decode cX9_pairs 61 = .ok (.if_icmp .le 7, 3) := by decide +kernel
theorem dX9_pairs_64 : decode cX9_pairs 64 = .ok (.iconst 2, 1) := by decide +kernel
theorem dX9_pairs_65 : decode cX9_pairs 65 = .ok (.goto 22, 3) := by decide +kernel
theorem dX9_pairs_68 : decode cX9_pairs 68 = .ok (.aload_n 0, 1) := by decide +kernel
theorem dX9_pairs_69 : decode cX9_pairs 69 = .ok (.iload 4, 2) := by decide +kernel
theorem dX9_pairs_71 : decode cX9_pairs 71 = .ok (.invokevirtual 252, 3) := by decide +kernel
theorem dX9_pairs_74 : decode cX9_pairs 74 = .ok (.aload_n 0, 1) := by decide +kernel
theorem dX9_pairs_75 : decode cX9_pairs 75 = .ok (.iload_n 3, 1) := by decide +kernel
theorem dX9_pairs_76 : decode cX9_pairs 76 = .ok (.invokevirtual 252, 3) := by decide +kernel
theorem dX9_pairs_79 : decode cX9_pairs 79 = .ok (.if_icmp .ne 7, 3) := by decide +kernel
theorem dX9_pairs_82 : decode cX9_pairs 82 = .ok (.iconst 1, 1) := by decide +kernel
theorem dX9_pairs_83 : decode cX9_pairs 83 = .ok (.goto 4, 3) := by decide +kernel
theorem dX9_pairs_86 : decode cX9_pairs 86 = .ok (.iconst 0, 1) := by decide +kernel
theorem dX9_pairs_87 : decode cX9_pairs 87 = .ok (.iadd, 1) := by decide +kernel
theorem dX9_pairs_88 : decode cX9_pairs 88 = .ok (.istore_n 2, 1) := by decide +kernel
theorem dX9_pairs_89 : decode cX9_pairs 89 = .ok (.iinc 4 1, 3) := by decide +kernel
theorem dX9_pairs_92 : decode cX9_pairs 92 = .ok (.goto (-74), 3) := by decide +kernel
theorem dX9_pairs_95 : decode cX9_pairs 95 = .ok (.iinc 3 1, 3) := by decide +kernel
theorem dX9_pairs_98 : decode cX9_pairs 98 = .ok (.goto (-92), 3) := by decide +kernel
theorem dX9_pairs_101 : decode cX9_pairs 101 = .ok (.iload_n 1, 1) := by decide +kernel
theorem dX9_pairs_102 : decode cX9_pairs 102 = .ok (.ifCond .ne 12, 3) := by decide +kernel
theorem dX9_pairs_105 : decode cX9_pairs 105 = .ok (.aload_n 0, 1) := by decide +kernel
theorem dX9_pairs_106 : decode cX9_pairs 106 = .ok (.bipush (-3), 2) := by decide +kernel
theorem dX9_pairs_108 : decode cX9_pairs 108 = .ok (.invokevirtual 242, 3) := by decide +kernel
theorem dX9_pairs_111 : decode cX9_pairs 111 = .ok (.goto 11, 3) := by decide +kernel
theorem dX9_pairs_114 : decode cX9_pairs 114 = .ok (.aload_n 0, 1) := by decide +kernel
theorem dX9_pairs_115 : decode cX9_pairs 115 = .ok (.iload_n 2, 1) := by decide +kernel
theorem dX9_pairs_116 : decode cX9_pairs 116 = .ok (.i2l, 1) := by decide +kernel
theorem dX9_pairs_117 : decode cX9_pairs 117 = .ok (.iload_n 1, 1) := by decide +kernel
theorem dX9_pairs_118 : decode cX9_pairs 118 = .ok (.i2l, 1) := by decide +kernel
theorem dX9_pairs_119 : decode cX9_pairs 119 = .ok (.invokevirtual 255, 3) := by decide +kernel
theorem dX9_pairs_122 : decode cX9_pairs 122 = .ok (.ireturn, 1) := by decide +kernel
theorem dX9_span_0 : decode cX9_span 0 = .ok (.iload_n 1, 1) := by decide +kernel
theorem dX9_span_1 : decode cX9_span 1 = .ok (.i2l, 1) := by decide +kernel
theorem dX9_span_2 : decode cX9_span 2 = .ok (.lconst 0, 1) := by decide +kernel
theorem dX9_span_3 : decode cX9_span 3 = .ok (.lconst 1, 1) := by decide +kernel
theorem dX9_span_4 : decode cX9_span 4 = .ok (.invokestatic 90, 3) := by decide +kernel
theorem dX9_span_7 : decode cX9_span 7 = .ok (.ifCond .eq 15, 3) := by decide +kernel
theorem dX9_span_10 : decode cX9_span 10 = .ok (.iload_n 2, 1) := by decide +kernel
theorem dX9_span_11 : decode cX9_span 11 = .ok (.i2l, 1) := by decide +kernel
theorem dX9_span_12 : decode cX9_span 12 = .ok (.lconst 0, 1) := by decide +kernel
theorem dX9_span_13 : decode cX9_span 13 = .ok (.ldc2_w 46, 3) := by decide +kernel
theorem dX9_span_16 : decode cX9_span 16 = .ok (.invokestatic 90, 3) := by decide +kernel
theorem dX9_span_19 : decode cX9_span 19 = .ok (.ifCond .ne 11, 3) := by decide +kernel
theorem dX9_span_22 : decode cX9_span 22 = .ok (.aload_n 0, 1) := by decide +kernel
theorem dX9_span_23 : decode cX9_span 23 = .ok (.sipush (-1000), 3) := by decide +kernel
theorem dX9_span_26 : decode cX9_span 26 = .ok (.invokevirtual 110, 3) := by decide +kernel
theorem dX9_span_29 : decode cX9_span 29 = .ok (.ireturn, 1) := by decide +kernel
theorem dX9_span_30 : decode cX9_span 30 = .ok (.iconst 0, 1) := by decide +kernel
theorem dX9_span_31 : decode cX9_span 31 = .ok (.istore_n 3, 1) := by decide +kernel
theorem dX9_span_32 : decode cX9_span 32 = .ok (.iconst 0, 1) := by decide +kernel
theorem dX9_span_33 : decode cX9_span 33 = .ok (.istore 4, 2) := by decide +kernel
theorem dX9_span_35 : decode cX9_span 35 = .ok (.iconst 0, 1) := by decide +kernel
theorem dX9_span_36 : decode cX9_span 36 = .ok (.istore 5, 2) := by decide +kernel
theorem dX9_span_38 : decode cX9_span 38 = .ok (.iconst 0, 1) := by decide +kernel
theorem dX9_span_39 : decode cX9_span 39 = .ok (.istore 6, 2) := by decide +kernel
theorem dX9_span_41 : decode cX9_span 41 = .ok (.iconst 0, 1) := by decide +kernel
theorem dX9_span_42 : decode cX9_span 42 = .ok (.istore 7, 2) := by decide +kernel
theorem dX9_span_44 : decode cX9_span 44 = .ok (.iload 7, 2) := by decide +kernel
theorem dX9_span_46 : decode cX9_span 46 = .ok (.aload_n 0, 1) := by decide +kernel
theorem dX9_span_47 : decode cX9_span 47 = .ok (.iconst 3, 1) := by decide +kernel
theorem dX9_span_48 : decode cX9_span 48 = .ok (.invokevirtual 102, 3) := by decide +kernel
theorem dX9_span_51 : decode cX9_span 51 = .ok (.if_icmp .ge 77, 3) := by decide +kernel
theorem dX9_span_54 : decode cX9_span 54 = .ok (.aload_n 0, 1) := by decide +kernel
theorem dX9_span_55 : decode cX9_span 55 = .ok (.iload 7, 2) := by decide +kernel
theorem dX9_span_57 : decode cX9_span 57 = .ok (.invokevirtual 249, 3) := by decide +kernel
theorem dX9_span_60 : decode cX9_span 60 = .ok (.iload_n 1, 1) := by decide +kernel
theorem dX9_span_61 : decode cX9_span 61 = .ok (.if_icmp .ne 61, 3) := by decide +kernel
theorem dX9_span_64 : decode cX9_span 64 = .ok (.aload_n 0, 1) := by decide +kernel
theorem dX9_span_65 : decode cX9_span 65 = .ok (.iload 7, 2) := by decide +kernel
theorem dX9_span_67 : decode cX9_span 67 = .ok (.invokevirtual 252, 3) := by decide +kernel
theorem dX9_span_70 : decode cX9_span 70 = .ok (.istore 8, 2) := by decide +kernel
theorem dX9_span_72 : decode cX9_span 72 = .ok (.iload_n 3, 1) := by decide +kernel
theorem dX9_span_73 : decode cX9_span 73 = .ok (.ifCond .eq 10, 3) := by decide +kernel
theorem dX9_span_76 : decode cX9_span 76 = .ok (.iload 8, 2) := by decide +kernel
theorem dX9_span_78 : decode cX9_span 78 = .ok (.iload 4, 2) := by decide +kernel
theorem dX9_span_80 : decode cX9_span 80 = .ok (.if_icmp .ge 8, 3) := by decide +kernel
theorem dX9_span_83 : decode cX9_span 83 = .ok (.iload 8, 2) := by decide +kernel
theorem dX9_span_85 : decode cX9_span 85 = .ok (.goto 5, 3) := by decide +kernel
theorem dX9_span_88 : decode cX9_span 88 = .ok (.iload 4, 2) := by decide +kernel
theorem dX9_span_90 : decode cX9_span 90 = .ok (.istore 4, 2) := by decide +kernel
theorem dX9_span_92 : decode cX9_span 92 = .ok (.iload_n 3, 1) := by decide +kernel
theorem dX9_span_93 : decode cX9_span 93 = .ok (.ifCond .eq 10, 3) := by decide +kernel
theorem dX9_span_96 : decode cX9_span 96 = .ok (.iload 8, 2) := by decide +kernel
theorem dX9_span_98 : decode cX9_span 98 = .ok (.iload 5, 2) := by decide +kernel
theorem dX9_span_100 : decode cX9_span 100 = .ok (.if_icmp .le 8, 3) := by decide +kernel
theorem dX9_span_103 : decode cX9_span 103 = .ok (.iload 8, 2) := by decide +kernel
theorem dX9_span_105 : decode cX9_span 105 = .ok (.goto 5, 3) := by decide +kernel
theorem dX9_span_108 : decode cX9_span 108 = .ok (.iload 5, 2) := by decide +kernel
theorem dX9_span_110 : decode cX9_span 110 = .ok (.istore 5, 2) := by decide +kernel
theorem dX9_span_112 : decode cX9_span 112 = .ok (.iload 6, 2) := by decide +kernel
theorem dX9_span_114 : decode cX9_span 114 = .ok (.iload 8, 2) := by decide +kernel
theorem dX9_span_116 : decode cX9_span 116 = .ok (.iadd, 1) := by decide +kernel
theorem dX9_span_117 : decode cX9_span 117 = .ok (.istore 6, 2) := by decide +kernel
theorem dX9_span_119 : decode cX9_span 119 = .ok (.iinc 3 1, 3) := by decide +kernel
theorem dX9_span_122 : decode cX9_span 122 = .ok (.iinc 7 1, 3) := by decide +kernel
theorem dX9_span_125 : decode cX9_span 125 = .ok (.goto (-81), 3) := by decide +kernel
theorem dX9_span_128 : decode cX9_span 128 = .ok (.iload_n 3, 1) := by decide +kernel
theorem dX9_span_129 : decode cX9_span 129 = .ok (.ifCond .ne 11, 3) := by decide +kernel
theorem dX9_span_132 : decode cX9_span 132 = .ok (.aload_n 0, 1) := by decide +kernel
theorem dX9_span_133 : decode cX9_span 133 = .ok (.sipush (-2000), 3) := by decide +kernel
theorem dX9_span_136 : decode cX9_span 136 = .ok (.invokevirtual 242, 3) := by decide +kernel
theorem dX9_span_139 : decode cX9_span 139 = .ok (.ireturn, 1) := by decide +kernel
theorem dX9_span_140 : decode cX9_span 140 = .ok (.iload_n 2, 1) := by decide +kernel
theorem dX9_span_141 : decode cX9_span 141 = .ok (.ifCond .ne 8, 3) := by decide +kernel
theorem dX9_span_144 : decode cX9_span 144 = .ok (.iload 4, 2) := by decide +kernel
theorem dX9_span_146 : decode cX9_span 146 = .ok (.goto 22, 3) := by decide +kernel
theorem dX9_span_149 : decode cX9_span 149 = .ok (.iload_n 2, 1) := by decide +kernel
theorem dX9_span_150 : decode cX9_span 150 = .ok (.iconst 1, 1) := by decide +kernel
theorem dX9_span_151 : decode cX9_span 151 = .ok (.if_icmp .ne 8, 3) := by decide +kernel
theorem dX9_span_154 : decode cX9_span 154 = .ok (.iload 5, 2) := by decide +kernel
theorem dX9_span_156 : decode cX9_span 156 = .ok (.goto 12, 3) := by decide +kernel
theorem dX9_span_159 : decode cX9_span 159 = .ok (.aload_n 0, 1) := by decide +kernel
theorem dX9_span_160 : decode cX9_span 160 = .ok (.iload 6, 2) := by decide +kernel
theorem dX9_span_162 : decode cX9_span 162 = .ok (.i2l, 1) := by decide +kernel
theorem dX9_span_163 : decode cX9_span 163 = .ok (.iload_n 3, 1) := by decide +kernel
theorem dX9_span_164 : decode cX9_span 164 = .ok (.i2l, 1) := by decide +kernel
theorem dX9_span_165 : decode cX9_span 165 = .ok (.invokevirtual 255, 3) := by decide +kernel
theorem dX9_span_168 : decode cX9_span 168 = .ok (.ireturn, 1) := by decide +kernel
theorem dX9_thorn_0 : decode cX9_thorn 0 = .ok (.iload_n 1, 1) := by decide +kernel
theorem dX9_thorn_1 : decode cX9_thorn 1 = .ok (.i2l, 1) := by decide +kernel
theorem dX9_thorn_2 : decode cX9_thorn 2 = .ok (.lconst 1, 1) := by decide +kernel
theorem dX9_thorn_3 : decode cX9_thorn 3 = .ok (.ldc2_w 94, 3) := by decide +kernel
theorem dX9_thorn_6 : decode cX9_thorn 6 = .ok (.invokestatic 90, 3) := by decide +kernel
theorem dX9_thorn_9 : decode cX9_thorn 9 = .ok (.ifCond .eq 38, 3) := by decide +kernel
theorem dX9_thorn_12 : decode cX9_thorn 12 = .ok (.iload_n 2, 1) := by decide +kernel
theorem dX9_thorn_13 : decode cX9_thorn 13 = .ok (.i2l, 1) := by decide +kernel
theorem dX9_thorn_14 : decode cX9_thorn 14 = .ok (.lconst 0, 1) := by decide +kernel
theorem dX9_thorn_15 : decode cX9_thorn 15 = .ok (.ldc2_w 195, 3) := by decide +kernel
theorem dX9_thorn_18 : decode cX9_thorn 18 = .ok (.invokestatic 90, 3) := by decide +kernel
theorem dX9_thorn_21 : decode cX9_thorn 21 = .ok (.ifCond .eq 26, 3) := by decide +kernel
theorem dX9_thorn_24 : decode cX9_thorn 24 = .ok (.iload_n 3, 1) := by decide +kernel
theorem dX9_thorn_25 : decode cX9_thorn 25 = .ok (.i2l, 1) := by decide +kernel
theorem dX9_thorn_26 : decode cX9_thorn 26 = .ok (.lconst 1, 1) := by decide +kernel
theorem dX9_thorn_27 : decode cX9_thorn 27 = .ok (.ldc2_w 234, 3) := by decide +kernel
theorem dX9_thorn_30 : decode cX9_thorn 30 = .ok (.invokestatic 90, 3) := by decide +kernel
theorem dX9_thorn_33 : decode cX9_thorn 33 = .ok (.ifCond .eq 14, 3) := by decide +kernel
theorem dX9_thorn_36 : decode cX9_thorn 36 = .ok (.iload 4, 2) := by decide +kernel
theorem dX9_thorn_38 : decode cX9_thorn 38 = .ok (.i2l, 1) := by decide +kernel
theorem dX9_thorn_39 : decode cX9_thorn 39 = .ok (.lconst 0, 1) := by decide +kernel
theorem dX9_thorn_40 : decode cX9_thorn 40 = .ok (.lconst 1, 1) := by decide +kernel
theorem dX9_thorn_41 : decode cX9_thorn 41 = .ok (.invokestatic 90, 3) := by decide +kernel
theorem dX9_thorn_44 : decode cX9_thorn 44 = .ok (.ifCond .ne 10, 3) := by decide +kernel
theorem dX9_thorn_47 : decode cX9_thorn 47 = .ok (.aload_n 0, 1) := by decide +kernel
theorem dX9_thorn_48 : decode cX9_thorn 48 = .ok (.bipush (-2), 2) := by decide +kernel
theorem dX9_thorn_50 : decode cX9_thorn 50 = .ok (.invokevirtual 110, 3) := by decide +kernel
theorem dX9_thorn_53 : decode cX9_thorn 53 = .ok (.ireturn, 1) := by decide +kernel
theorem dX9_thorn_54 : decode cX9_thorn 54 = .ok (.aload_n 0, 1) := by decide +kernel
theorem dX9_thorn_55 : decode cX9_thorn 55 = .ok (.iconst 4, 1) := by decide +kernel
theorem dX9_thorn_56 : decode cX9_thorn 56 = .ok (.invokevirtual 102, 3) := by decide +kernel
theorem dX9_thorn_59 : decode cX9_thorn 59 = .ok (.istore 5, 2) := by decide +kernel
theorem dX9_thorn_61 : decode cX9_thorn 61 = .ok (.iload 5, 2) := by decide +kernel
theorem dX9_thorn_63 : decode cX9_thorn 63 = .ok (.bipush 12, 2) := by decide +kernel
theorem dX9_thorn_65 : decode cX9_thorn 65 = .ok (.if_icmp .ne 8, 3) := by decide +kernel
theorem dX9_thorn_68 : decode cX9_thorn 68 = .ok (.aload_n 0, 1) := by decide +kernel
theorem dX9_thorn_69 : decode cX9_thorn 69 = .ok (.invokevirtual 113, 3) := by decide +kernel
theorem dX9_thorn_72 : decode cX9_thorn 72 = .ok (.ireturn, 1) := by decide +kernel
theorem dX9_thorn_73 : decode cX9_thorn 73 = .ok (.aload_n 0, 1) := by decide +kernel
theorem dX9_thorn_74 : decode cX9_thorn 74 = .ok (.iconst 4, 1) := by decide +kernel
theorem dX9_thorn_75 : decode cX9_thorn 75 = .ok (.bipush 99, 2) := by decide +kernel
theorem dX9_thorn_77 : decode cX9_thorn 77 = .ok (.iconst 4, 1) := by decide +kernel
theorem dX9_thorn_78 : decode cX9_thorn 78 = .ok (.iload 5, 2) := by decide +kernel
theorem dX9_thorn_80 : decode cX9_thorn 80 = .ok (.imul, 1) := by decide +kernel
theorem dX9_thorn_81 : decode cX9_thorn 81 = .ok (.iadd, 1) := by decide +kernel
theorem dX9_thorn_82 : decode cX9_thorn 82 = .ok (.iload_n 1, 1) := by decide +kernel
theorem dX9_thorn_83 : decode cX9_thorn 83 = .ok (.iload_n 2, 1) := by decide +kernel
theorem dX9_thorn_84 : decode cX9_thorn 84 = .ok (.iload_n 3, 1) := by decide +kernel
theorem dX9_thorn_85 : decode cX9_thorn 85 = .ok (.invokevirtual 117, 3) := by decide +kernel
theorem dX9_thorn_88 : decode cX9_thorn 88 = .ok (.istore 6, 2) := by decide +kernel
theorem dX9_thorn_90 : decode cX9_thorn 90 = .ok (.aload_n 0, 1) := by decide +kernel
theorem dX9_thorn_91 : decode cX9_thorn 91 = .ok (.getfield 7, 3) := by decide +kernel
theorem dX9_thorn_94 : decode cX9_thorn 94 = .ok (.bipush 99, 2) := by decide +kernel
theorem dX9_thorn_96 : decode cX9_thorn 96 = .ok (.iconst 4, 1) := by decide +kernel
theorem dX9_thorn_97 : decode cX9_thorn 97 = .ok (.iload 5, 2) := by decide +kernel
theorem dX9_thorn_99 : decode cX9_thorn 99 = .ok (.imul, 1) := by decide +kernel
theorem dX9_thorn_100 : decode cX9_thorn 100 = .ok (.iadd, 1) := by decide +kernel
theorem dX9_thorn_101 : decode cX9_thorn 101 = .ok (.iconst 3, 1) := by decide +kernel
theorem dX9_thorn_102 : decode cX9_thorn 102 = .ok (.iadd, 1) := by decide +kernel
theorem dX9_thorn_103 : decode cX9_thorn 103 = .ok (.iload 4, 2) := by decide +kernel
theorem dX9_thorn_105 : decode cX9_thorn 105 = .ok (.iastore, 1) := by decide +kernel
theorem dX9_thorn_106 : decode cX9_thorn 106 = .ok (.iload 6, 2) := by decide +kernel
theorem dX9_thorn_108 : decode cX9_thorn 108 = .ok (.ireturn, 1) := by decide +kernel
theorem dX9_longOf_0 : decode cX9_longOf 0 = .ok (.aload_n 0, 1) := by decide +kernel
theorem dX9_longOf_1 : decode cX9_longOf 1 = .ok (.getfield 7, 3) := by decide +kernel
theorem dX9_longOf_4 : decode cX9_longOf 4 = .ok (.bipush 99, 2) := by decide +kernel
theorem dX9_longOf_6 : decode cX9_longOf 6 = .ok (.iconst 4, 1) := by decide +kernel
theorem dX9_longOf_7 : decode cX9_longOf 7 = .ok (.iload_n 1, 1) := by decide +kernel
theorem dX9_longOf_8 : decode cX9_longOf 8 = .ok (.imul, 1) := by decide +kernel
theorem dX9_longOf_9 : decode cX9_longOf 9 = .ok (.iadd, 1) := by decide +kernel
theorem dX9_longOf_10 : decode cX9_longOf 10 = .ok (.iaload, 1) := by decide +kernel
theorem dX9_longOf_11 : decode cX9_longOf 11 = .ok (.ireturn, 1) := by decide +kernel
theorem dX9_isPart_0 : decode cX9_isPart 0 = .ok (.aload_n 0, 1) := by decide +kernel
theorem dX9_isPart_1 : decode cX9_isPart 1 = .ok (.iload_n 1, 1) := by decide +kernel
theorem dX9_isPart_2 : decode cX9_isPart 2 = .ok (.invokevirtual 259, 3) := by decide +kernel
theorem dX9_isPart_5 : decode cX9_isPart 5 = .ok (.iload_n 2, 1) := by decide +kernel
theorem dX9_isPart_6 : decode cX9_isPart 6 = .ok (.if_icmp .le 16, 3) := by decide +kernel
theorem dX9_isPart_9 : decode cX9_isPart 9 = .ok (.aload_n 0, 1) := by decide +kernel
theorem dX9_isPart_10 : decode cX9_isPart 10 = .ok (.iload_n 1, 1) := by decide +kernel
theorem dX9_isPart_11 : decode cX9_isPart 11 = .ok (.invokevirtual 259, 3) := by decide +kernel
theorem dX9_isPart_14 : decode cX9_isPart 14 = .ok (.iload_n 3, 1) := by decide +kernel
theorem dX9_isPart_15 : decode cX9_isPart 15 = .ok (.if_icmp .gt 7, 3) := by decide +kernel
theorem dX9_isPart_18 : decode cX9_isPart 18 = .ok (.iconst 1, 1) := by decide +kernel
theorem dX9_isPart_19 : decode cX9_isPart 19 = .ok (.goto 4, 3) := by decide +kernel
theorem dX9_isPart_22 : decode cX9_isPart 22 = .ok (.iconst 0, 1) := by decide +kernel
theorem dX9_isPart_23 : decode cX9_isPart 23 = .ok (.ireturn, 1) := by decide +kernel
theorem dX9_partOf_0 : decode cX9_partOf 0 = .ok (.iconst 0, 1) := by decide +kernel
theorem dX9_partOf_1 : decode cX9_partOf 1 = .ok (.istore_n 3, 1) := by decide +kernel
theorem dX9_partOf_2 : decode cX9_partOf 2 = .ok (.iconst 0, 1) := by decide +kernel
theorem dX9_partOf_3 : decode cX9_partOf 3 = .ok (.istore 4, 2) := by decide +kernel
theorem dX9_partOf_5 : decode cX9_partOf 5 = .ok (.iload 4, 2) := by decide +kernel
theorem dX9_partOf_7 : decode cX9_partOf 7 = .ok (.aload_n 0, 1) := by decide +kernel
theorem dX9_partOf_8 : decode cX9_partOf 8 = .ok (.iconst 4, 1) := by decide +kernel
theorem dX9_partOf_9 : decode cX9_partOf 9 = .ok (.invokevirtual 102, 3) := by decide +kernel
theorem dX9_partOf_12 : decode cX9_partOf 12 = .ok (.if_icmp .ge 28, 3) := by decide +kernel
theorem dX9_partOf_15 : decode cX9_partOf 15 = .ok (.iload_n 3, 1) := by decide +kernel
theorem dX9_partOf_16 : decode cX9_partOf 16 = .ok (.aload_n 0, 1) := by decide +kernel
theorem dX9_partOf_17 : decode cX9_partOf 17 = .ok (.iload 4, 2) := by decide +kernel
theorem dX9_partOf_19 : decode cX9_partOf 19 = .ok (.iload_n 1, 1) := by decide +kernel
theorem dX9_partOf_20 : decode cX9_partOf 20 = .ok (.iload_n 2, 1) := by decide +kernel
theorem dX9_partOf_21 : decode cX9_partOf 21 = .ok (.invokevirtual 262, 3) := by decide +kernel
theorem dX9_partOf_24 : decode cX9_partOf 24 = .ok (.ifCond .eq 7, 3) := by decide +kernel
theorem dX9_partOf_27 : decode cX9_partOf 27 = .ok (.iconst 1, 1) := by decide +kernel
theorem dX9_partOf_28 : decode cX9_partOf 28 = .ok (.goto 4, 3) := by decide +kernel
theorem dX9_partOf_31 : decode cX9_partOf 31 = .ok (.iconst 0, 1) := by decide +kernel
theorem dX9_partOf_32 : decode cX9_partOf 32 = .ok (.iadd, 1) := by decide +kernel
theorem dX9_partOf_33 : decode cX9_partOf 33 = .ok (.istore_n 3, 1) := by decide +kernel
theorem dX9_partOf_34 : decode cX9_partOf 34 = .ok (.iinc 4 1, 3) := by decide +kernel
theorem dX9_partOf_37 : decode cX9_partOf 37 = .ok (.goto (-32), 3) := by decide +kernel
theorem dX9_partOf_40 : decode cX9_partOf 40 = .ok (.iload_n 3, 1) := by decide +kernel
theorem dX9_partOf_41 : decode cX9_partOf 41 = .ok (.ireturn, 1) := by decide +kernel
theorem dX9_spreadOf_0 : decode cX9_spreadOf 0 = .ok (.aload_n 0, 1) := by decide +kernel
theorem dX9_spreadOf_1 : decode cX9_spreadOf 1 = .ok (.iload_n 1, 1) := by decide +kernel
theorem dX9_spreadOf_2 : decode cX9_spreadOf 2 = .ok (.iload_n 2, 1) := by decide +kernel
theorem dX9_spreadOf_3 : decode cX9_spreadOf 3 = .ok (.invokevirtual 265, 3) := by decide +kernel
theorem dX9_spreadOf_6 : decode cX9_spreadOf 6 = .ok (.istore_n 3, 1) := by decide +kernel
theorem dX9_spreadOf_7 : decode cX9_spreadOf 7 = .ok (.iload_n 1, 1) := by decide +kernel
theorem dX9_spreadOf_8 : decode cX9_spreadOf 8 = .ok (.istore 4, 2) := by decide +kernel
theorem dX9_spreadOf_10 : decode cX9_spreadOf 10 = .ok (.iload_n 3, 1) := by decide +kernel
theorem dX9_spreadOf_11 : decode cX9_spreadOf 11 = .ok (.ifCond .le 22, 3) := by decide +kernel
theorem dX9_spreadOf_14 : decode cX9_spreadOf 14 = .ok (.iconst 2, 1) := by decide +kernel
theorem dX9_spreadOf_15 : decode cX9_spreadOf 15 = .ok (.aload_n 0, 1) := by decide +kernel
theorem dX9_spreadOf_16 : decode cX9_spreadOf 16 = .ok (.iload_n 1, 1) := by decide +kernel
theorem dX9_spreadOf_17 : decode cX9_spreadOf 17 = .ok (.iload 4, 2) := by decide +kernel
theorem dX9_spreadOf_19 : decode cX9_spreadOf 19 = .ok (.invokevirtual 265, 3) := by decide +kernel
theorem dX9_spreadOf_22 : decode cX9_spreadOf 22 = .ok (.imul, 1) := by decide +kernel
theorem dX9_spreadOf_23 : decode cX9_spreadOf 23 = .ok (.iload_n 3, 1) := by decide +kernel
theorem dX9_spreadOf_24 : decode cX9_spreadOf 24 = .ok (.if_icmp .ge 9, 3) := by decide +kernel
theorem dX9_spreadOf_27 : decode cX9_spreadOf 27 = .ok (.iinc 4 1, 3) := by decide +kernel
theorem dX9_spreadOf_30 : decode cX9_spreadOf 30 = .ok (.goto (-20), 3) := by decide +kernel
theorem dX9_spreadOf_33 : decode cX9_spreadOf 33 = .ok (.iconst 0, 1) := by decide +kernel
theorem dX9_spreadOf_34 : decode cX9_spreadOf 34 = .ok (.istore 5, 2) := by decide +kernel
theorem dX9_spreadOf_36 : decode cX9_spreadOf 36 = .ok (.iconst 0, 1) := by decide +kernel
theorem dX9_spreadOf_37 : decode cX9_spreadOf 37 = .ok (.istore 6, 2) := by decide +kernel
theorem dX9_spreadOf_39 : decode cX9_spreadOf 39 = .ok (.iload 6, 2) := by decide +kernel
theorem dX9_spreadOf_41 : decode cX9_spreadOf 41 = .ok (.aload_n 0, 1) := by decide +kernel
theorem dX9_spreadOf_42 : decode cX9_spreadOf 42 = .ok (.iconst 4, 1) := by decide +kernel
theorem dX9_spreadOf_43 : decode cX9_spreadOf 43 = .ok (.invokevirtual 102, 3) := by decide +kernel
theorem dX9_spreadOf_46 : decode cX9_spreadOf 46 = .ok (.if_icmp .ge 53, 3) := by decide +kernel
theorem dX9_spreadOf_49 : decode cX9_spreadOf 49 = .ok (.aload_n 0, 1) := by decide +kernel
theorem dX9_spreadOf_50 : decode cX9_spreadOf 50 = .ok (.iload 6, 2) := by decide +kernel
theorem dX9_spreadOf_52 : decode cX9_spreadOf 52 = .ok (.invokevirtual 259, 3) := by decide +kernel
theorem dX9_spreadOf_55 : decode cX9_spreadOf 55 = .ok (.iload 4, 2) := by decide +kernel
theorem dX9_spreadOf_57 : decode cX9_spreadOf 57 = .ok (.isub, 1) := by decide +kernel
theorem dX9_spreadOf_58 : decode cX9_spreadOf 58 = .ok (.istore 7, 2) := by decide +kernel
theorem dX9_spreadOf_60 : decode cX9_spreadOf 60 = .ok (.iload 5, 2) := by decide +kernel
theorem dX9_spreadOf_62 : decode cX9_spreadOf 62 = .ok (.aload_n 0, 1) := by decide +kernel
theorem dX9_spreadOf_63 : decode cX9_spreadOf 63 = .ok (.iload 6, 2) := by decide +kernel
theorem dX9_spreadOf_65 : decode cX9_spreadOf 65 = .ok (.iload_n 1, 1) := by decide +kernel
theorem dX9_spreadOf_66 : decode cX9_spreadOf 66 = .ok (.iload_n 2, 1) := by decide +kernel
theorem dX9_spreadOf_67 : decode cX9_spreadOf 67 = .ok (.invokevirtual 262, 3) := by decide +kernel
theorem dX9_spreadOf_70 : decode cX9_spreadOf 70 = .ok (.ifCond .ne 7, 3) := by decide +kernel
theorem dX9_spreadOf_73 : decode cX9_spreadOf 73 = .ok (.iconst 0, 1) := by decide +kernel
theorem dX9_spreadOf_74 : decode cX9_spreadOf 74 = .ok (.goto 16, 3) := by decide +kernel
theorem dX9_spreadOf_77 : decode cX9_spreadOf 77 = .ok (.iload 7, 2) := by decide +kernel
theorem dX9_spreadOf_79 : decode cX9_spreadOf 79 = .ok (.ifCond .ge 9, 3) := by decide +kernel
theorem dX9_spreadOf_82 : decode cX9_spreadOf 82 = .ok (.iload 7, 2) := by decide +kernel
theorem dX9_spreadOf_84 : decode cX9_spreadOf 84 = .ok (.ineg, 1) := by decide +kernel
theorem dX9_spreadOf_85 : decode cX9_spreadOf 85 = .ok (.goto 5, 3) := by decide +kernel
theorem dX9_spreadOf_88 : decode cX9_spreadOf 88 = .ok (.iload 7, 2) := by decide +kernel
theorem dX9_spreadOf_90 : decode cX9_spreadOf 90 = .ok (.iadd, 1) := by decide +kernel
theorem dX9_spreadOf_91 : decode cX9_spreadOf 91 = .ok (.istore 5, 2) := by decide +kernel
theorem dX9_spreadOf_93 : decode cX9_spreadOf 93 = .ok (.iinc 6 1, 3) := by decide +kernel
theorem dX9_spreadOf_96 : decode cX9_spreadOf 96 = .ok (.goto (-57), 3) := by decide +kernel
theorem dX9_spreadOf_99 : decode cX9_spreadOf 99 = .ok (.iload 5, 2) := by decide +kernel
theorem dX9_spreadOf_101 : decode cX9_spreadOf 101 = .ok (.ireturn, 1) := by decide +kernel
theorem dX9_kinds_0 : decode cX9_kinds 0 = .ok (.iload_n 1, 1) := by decide +kernel
theorem dX9_kinds_1 : decode cX9_kinds 1 = .ok (.i2l, 1) := by decide +kernel
theorem dX9_kinds_2 : decode cX9_kinds 2 = .ok (.lconst 0, 1) := by decide +kernel
theorem dX9_kinds_3 : decode cX9_kinds 3 = .ok (.lconst 1, 1) := by decide +kernel
theorem dX9_kinds_4 : decode cX9_kinds 4 = .ok (.invokestatic 90, 3) := by decide +kernel
theorem dX9_kinds_7 : decode cX9_kinds 7 = .ok (.ifCond .ne 10, 3) := by decide +kernel
theorem dX9_kinds_10 : decode cX9_kinds 10 = .ok (.aload_n 0, 1) := by decide +kernel
theorem dX9_kinds_11 : decode cX9_kinds 11 = .ok (.bipush (-2), 2) := by decide +kernel
theorem dX9_kinds_13 : decode cX9_kinds 13 = .ok (.invokevirtual 110, 3) := by decide +kernel
theorem dX9_kinds_16 : decode cX9_kinds 16 = .ok (.ireturn, 1) := by decide +kernel
theorem dX9_kinds_17 : decode cX9_kinds 17 = .ok (.iconst (-1), 1) := by decide +kernel
theorem dX9_kinds_18 : decode cX9_kinds 18 = .ok (.istore_n 2, 1) := by decide +kernel
theorem dX9_kinds_19 : decode cX9_kinds 19 = .ok (.iconst 0, 1) := by decide +kernel
theorem dX9_kinds_20 : decode cX9_kinds 20 = .ok (.istore_n 3, 1) := by decide +kernel
theorem dX9_kinds_21 : decode cX9_kinds 21 = .ok (.iconst 1, 1) := by decide +kernel
theorem dX9_kinds_22 : decode cX9_kinds 22 = .ok (.istore 4, 2) := by decide +kernel
theorem dX9_kinds_24 : decode cX9_kinds 24 = .ok (.iload 4, 2) := by decide +kernel
theorem dX9_kinds_26 : decode cX9_kinds 26 = .ok (.bipush 99, 2) := by decide +kernel
theorem dX9_kinds_28 : decode cX9_kinds 28 = .ok (.if_icmp .ge 65, 3) := by decide +kernel
theorem dX9_kinds_31 : decode cX9_kinds 31 = .ok (.aload_n 0, 1) := by decide +kernel
theorem dX9_kinds_32 : decode cX9_kinds 32 = .ok (.iconst 0, 1) := by decide +kernel
theorem dX9_kinds_33 : decode cX9_kinds 33 = .ok (.iload 4, 2) := by decide +kernel
theorem dX9_kinds_35 : decode cX9_kinds 35 = .ok (.invokevirtual 265, 3) := by decide +kernel
theorem dX9_kinds_38 : decode cX9_kinds 38 = .ok (.ifCond .le 49, 3) := by decide +kernel
theorem dX9_kinds_41 : decode cX9_kinds 41 = .ok (.aload_n 0, 1) := by decide +kernel
theorem dX9_kinds_42 : decode cX9_kinds 42 = .ok (.iload 4, 2) := by decide +kernel
theorem dX9_kinds_44 : decode cX9_kinds 44 = .ok (.bipush 99, 2) := by decide +kernel
theorem dX9_kinds_46 : decode cX9_kinds 46 = .ok (.invokevirtual 265, 3) := by decide +kernel
theorem dX9_kinds_49 : decode cX9_kinds 49 = .ok (.ifCond .le 38, 3) := by decide +kernel
theorem dX9_kinds_52 : decode cX9_kinds 52 = .ok (.aload_n 0, 1) := by decide +kernel
theorem dX9_kinds_53 : decode cX9_kinds 53 = .ok (.iconst 0, 1) := by decide +kernel
theorem dX9_kinds_54 : decode cX9_kinds 54 = .ok (.iload 4, 2) := by decide +kernel
theorem dX9_kinds_56 : decode cX9_kinds 56 = .ok (.invokevirtual 268, 3) := by decide +kernel
theorem dX9_kinds_59 : decode cX9_kinds 59 = .ok (.aload_n 0, 1) := by decide +kernel
theorem dX9_kinds_60 : decode cX9_kinds 60 = .ok (.iload 4, 2) := by decide +kernel
theorem dX9_kinds_62 : decode cX9_kinds 62 = .ok (.bipush 99, 2) := by decide +kernel
theorem dX9_kinds_64 : decode cX9_kinds 64 = .ok (.invokevirtual 268, 3) := by decide +kernel
theorem dX9_kinds_67 : decode cX9_kinds 67 = .ok (.iadd, 1) := by decide +kernel
theorem dX9_kinds_68 : decode cX9_kinds 68 = .ok (.istore 5, 2) := by decide +kernel
theorem dX9_kinds_70 : decode cX9_kinds 70 = .ok (.iload_n 2, 1) := by decide +kernel
theorem dX9_kinds_71 : decode cX9_kinds 71 = .ok (.iconst (-1), 1) := by decide +kernel
theorem dX9_kinds_72 : decode cX9_kinds 72 = .ok (.if_icmp .eq 9, 3) := by decide +kernel
theorem dX9_kinds_75 : decode cX9_kinds 75 = .ok (.iload 5, 2) := by decide +kernel
theorem dX9_kinds_77 : decode cX9_kinds 77 = .ok (.iload_n 3, 1) := by decide +kernel
theorem dX9_kinds_78 : decode cX9_kinds 78 = .ok (.if_icmp .ge 9, 3) := by decide +kernel
theorem dX9_kinds_81 : decode cX9_kinds 81 = .ok (.iload 4, 2) := by decide +kernel
theorem dX9_kinds_83 : decode cX9_kinds 83 = .ok (.istore_n 2, 1) := by decide +kernel
theorem dX9_kinds_84 : decode cX9_kinds 84 = .ok (.iload 5, 2) := by decide +kernel
theorem dX9_kinds_86 : decode cX9_kinds 86 = .ok (.istore_n 3, 1) := by decide +kernel
theorem dX9_kinds_87 : decode cX9_kinds 87 = .ok (.iinc 4 1, 3) := by decide +kernel
theorem dX9_kinds_90 : decode cX9_kinds 90 = .ok (.goto (-66), 3) := by decide +kernel
theorem dX9_kinds_93 : decode cX9_kinds 93 = .ok (.iload_n 2, 1) := by decide +kernel
theorem dX9_kinds_94 : decode cX9_kinds 94 = .ok (.iconst (-1), 1) := by decide +kernel
theorem dX9_kinds_95 : decode cX9_kinds 95 = .ok (.if_icmp .eq 7, 3) := by decide +kernel
theorem dX9_kinds_98 : decode cX9_kinds 98 = .ok (.iload_n 1, 1) := by decide +kernel
theorem dX9_kinds_99 : decode cX9_kinds 99 = .ok (.ifCond .ne 7, 3) := by decide +kernel
theorem dX9_kinds_102 : decode cX9_kinds 102 = .ok (.iload_n 2, 1) := by decide +kernel
theorem dX9_kinds_103 : decode cX9_kinds 103 = .ok (.goto 21, 3) := by decide +kernel
theorem dX9_kinds_106 : decode cX9_kinds 106 = .ok (.iconst 2, 1) := by decide +kernel
theorem dX9_kinds_107 : decode cX9_kinds 107 = .ok (.iload_n 3, 1) := by decide +kernel
theorem dX9_kinds_108 : decode cX9_kinds 108 = .ok (.imul, 1) := by decide +kernel
theorem dX9_kinds_109 : decode cX9_kinds 109 = .ok (.aload_n 0, 1) := by decide +kernel
theorem dX9_kinds_110 : decode cX9_kinds 110 = .ok (.iconst 0, 1) := by decide +kernel
theorem dX9_kinds_111 : decode cX9_kinds 111 = .ok (.bipush 99, 2) := by decide +kernel
theorem dX9_kinds_113 : decode cX9_kinds 113 = .ok (.invokevirtual 268, 3) := by decide +kernel
theorem dX9_kinds_116 : decode cX9_kinds 116 = .ok (.if_icmp .ge 7, 3) := by decide +kernel
theorem dX9_kinds_119 : decode cX9_kinds 119 = .ok (.iconst 1, 1) := by decide +kernel
theorem dX9_kinds_120 : decode cX9_kinds 120 = .ok (.goto 4, 3) := by decide +kernel
theorem dX9_kinds_123 : decode cX9_kinds 123 = .ok (.iconst 0, 1) := by decide +kernel
theorem dX9_kinds_124 : decode cX9_kinds 124 = .ok (.ireturn, 1) := by decide +kernel
theorem dX9_land_0 : decode cX9_land 0 = .ok (.iload_n 1, 1) := by decide +kernel
theorem dX9_land_1 : decode cX9_land 1 = .ok (.i2l, 1) := by decide +kernel
theorem dX9_land_2 : decode cX9_land 2 = .ok (.lconst 0, 1) := by decide +kernel
theorem dX9_land_3 : decode cX9_land 3 = .ok (.ldc2_w 195, 3) := by decide +kernel
theorem dX9_land_6 : decode cX9_land 6 = .ok (.invokestatic 90, 3) := by decide +kernel
theorem dX9_land_9 : decode cX9_land 9 = .ok (.ifCond .ne 10, 3) := by decide +kernel
theorem dX9_land_12 : decode cX9_land 12 = .ok (.aload_n 0, 1) := by decide +kernel
theorem dX9_land_13 : decode cX9_land 13 = .ok (.bipush (-2), 2) := by decide +kernel
theorem dX9_land_15 : decode cX9_land 15 = .ok (.invokevirtual 110, 3) := by decide +kernel
theorem dX9_land_18 : decode cX9_land 18 = .ok (.ireturn, 1) := by decide +kernel
theorem dX9_land_19 : decode cX9_land 19 = .ok (.iconst 0, 1) := by decide +kernel
theorem dX9_land_20 : decode cX9_land 20 = .ok (.istore_n 2, 1) := by decide +kernel
theorem dX9_land_21 : decode cX9_land 21 = .ok (.iconst 0, 1) := by decide +kernel
theorem dX9_land_22 : decode cX9_land 22 = .ok (.istore_n 3, 1) := by decide +kernel
theorem dX9_land_23 : decode cX9_land 23 = .ok (.iconst 0, 1) := by decide +kernel
theorem dX9_land_24 : decode cX9_land 24 = .ok (.istore 4, 2) := by decide +kernel
theorem dX9_land_26 : decode cX9_land 26 = .ok (.iload 4, 2) := by decide +kernel
theorem dX9_land_28 : decode cX9_land 28 = .ok (.aload_n 0, 1) := by decide +kernel
theorem dX9_land_29 : decode cX9_land 29 = .ok (.iconst 4, 1) := by decide +kernel
theorem dX9_land_30 : decode cX9_land 30 = .ok (.invokevirtual 102, 3) := by decide +kernel
theorem dX9_land_33 : decode cX9_land 33 = .ok (.if_icmp .ge 65, 3) := by decide +kernel
theorem dX9_land_36 : decode cX9_land 36 = .ok (.aload_n 0, 1) := by decide +kernel
theorem dX9_land_37 : decode cX9_land 37 = .ok (.getfield 7, 3) := by decide +kernel
theorem dX9_land_40 : decode cX9_land 40 = .ok (.bipush 99, 2) := by decide +kernel
theorem dX9_land_42 : decode cX9_land 42 = .ok (.iconst 4, 1) := by decide +kernel
theorem dX9_land_43 : decode cX9_land 43 = .ok (.iload 4, 2) := by decide +kernel
theorem dX9_land_45 : decode cX9_land 45 = .ok (.imul, 1) := by decide +kernel
theorem dX9_land_46 : decode cX9_land 46 = .ok (.iadd, 1) := by decide +kernel
theorem dX9_land_47 : decode cX9_land 47 = .ok (.iconst 1, 1) := by decide +kernel
theorem dX9_land_48 : decode cX9_land 48 = .ok (.iadd, 1) := by decide +kernel
theorem dX9_land_49 : decode cX9_land 49 = .ok (.iaload, 1) := by decide +kernel
theorem dX9_land_50 : decode cX9_land 50 = .ok (.iload_n 1, 1) := by decide +kernel
theorem dX9_land_51 : decode cX9_land 51 = .ok (.if_icmp .ne 7, 3) := by decide +kernel
theorem dX9_land_54 : decode cX9_land 54 = .ok (.iconst 1, 1) := by decide +kernel
theorem dX9_land_55 : decode cX9_land 55 = .ok (.goto 4, 3) := by decide +kernel
theorem dX9_land_58 : decode cX9_land 58 = .ok (.iconst 0, 1) := by decide +kernel
theorem dX9_land_59 : decode cX9_land 59 = .ok (.istore 5, 2) := by decide +kernel
theorem dX9_land_61 : decode cX9_land 61 = .ok (.iload_n 2, 1) := by decide +kernel
theorem dX9_land_62 : decode cX9_land 62 = .ok (.iload 5, 2) := by decide +kernel
theorem dX9_land_64 : decode cX9_land 64 = .ok (.ifCond .eq 12, 3) := by decide +kernel
theorem dX9_land_67 : decode cX9_land 67 = .ok (.aload_n 0, 1) := by decide +kernel
theorem dX9_land_68 : decode cX9_land 68 = .ok (.iload 4, 2) := by decide +kernel
theorem dX9_land_70 : decode cX9_land 70 = .ok (.invokevirtual 259, 3) := by decide +kernel
theorem dX9_land_73 : decode cX9_land 73 = .ok (.goto 4, 3) := by decide +kernel
theorem dX9_land_76 : decode cX9_land 76 = .ok (.iconst 0, 1) := by decide +kernel
theorem dX9_land_77 : decode cX9_land 77 = .ok (.iadd, 1) := by decide +kernel
theorem dX9_land_78 : decode cX9_land 78 = .ok (.istore_n 2, 1) := by decide +kernel
theorem dX9_land_79 : decode cX9_land 79 = .ok (.iload_n 3, 1) := by decide +kernel
theorem dX9_land_80 : decode cX9_land 80 = .ok (.iload 5, 2) := by decide +kernel
theorem dX9_land_82 : decode cX9_land 82 = .ok (.ifCond .eq 7, 3) := by decide +kernel
theorem dX9_land_85 : decode cX9_land 85 = .ok (.iconst 1, 1) := by decide +kernel
theorem dX9_land_86 : decode cX9_land 86 = .ok (.goto 4, 3) := by decide +kernel
theorem dX9_land_89 : decode cX9_land 89 = .ok (.iconst 0, 1) := by decide +kernel
theorem dX9_land_90 : decode cX9_land 90 = .ok (.iadd, 1) := by decide +kernel
theorem dX9_land_91 : decode cX9_land 91 = .ok (.istore_n 3, 1) := by decide +kernel
theorem dX9_land_92 : decode cX9_land 92 = .ok (.iinc 4 1, 3) := by decide +kernel
theorem dX9_land_95 : decode cX9_land 95 = .ok (.goto (-69), 3) := by decide +kernel
theorem dX9_land_98 : decode cX9_land 98 = .ok (.iload_n 3, 1) := by decide +kernel
theorem dX9_land_99 : decode cX9_land 99 = .ok (.ifCond .ne 12, 3) := by decide +kernel
theorem dX9_land_102 : decode cX9_land 102 = .ok (.aload_n 0, 1) := by decide +kernel
theorem dX9_land_103 : decode cX9_land 103 = .ok (.bipush (-3), 2) := by decide +kernel
theorem dX9_land_105 : decode cX9_land 105 = .ok (.invokevirtual 242, 3) := by decide +kernel
theorem dX9_land_108 : decode cX9_land 108 = .ok (.goto 11, 3) := by decide +kernel
theorem dX9_land_111 : decode cX9_land 111 = .ok (.aload_n 0, 1) := by decide +kernel
theorem dX9_land_112 : decode cX9_land 112 = .ok (.iload_n 2, 1) := by decide +kernel
theorem dX9_land_113 : decode cX9_land 113 = .ok (.i2l, 1) := by decide +kernel
theorem dX9_land_114 : decode cX9_land 114 = .ok (.iload_n 3, 1) := by decide +kernel
theorem dX9_land_115 : decode cX9_land 115 = .ok (.i2l, 1) := by decide +kernel
theorem dX9_land_116 : decode cX9_land 116 = .ok (.invokevirtual 255, 3) := by decide +kernel
theorem dX9_land_119 : decode cX9_land 119 = .ok (.ireturn, 1) := by decide +kernel
theorem dX9_butt_0 : decode cX9_butt 0 = .ok (.iload_n 1, 1) := by decide +kernel
theorem dX9_butt_1 : decode cX9_butt 1 = .ok (.i2l, 1) := by decide +kernel
theorem dX9_butt_2 : decode cX9_butt 2 = .ok (.lconst 1, 1) := by decide +kernel
theorem dX9_butt_3 : decode cX9_butt 3 = .ok (.ldc2_w 234, 3) := by decide +kernel
theorem dX9_butt_6 : decode cX9_butt 6 = .ok (.invokestatic 90, 3) := by decide +kernel
theorem dX9_butt_9 : decode cX9_butt 9 = .ok (.ifCond .ne 10, 3) := by decide +kernel
theorem dX9_butt_12 : decode cX9_butt 12 = .ok (.aload_n 0, 1) := by decide +kernel
theorem dX9_butt_13 : decode cX9_butt 13 = .ok (.bipush (-2), 2) := by decide +kernel
theorem dX9_butt_15 : decode cX9_butt 15 = .ok (.invokevirtual 110, 3) := by decide +kernel
theorem dX9_butt_18 : decode cX9_butt 18 = .ok (.ireturn, 1) := by decide +kernel
theorem dX9_butt_19 : decode cX9_butt 19 = .ok (.aload_n 0, 1) := by decide +kernel
theorem dX9_butt_20 : decode cX9_butt 20 = .ok (.iconst 5, 1) := by decide +kernel
theorem dX9_butt_21 : decode cX9_butt 21 = .ok (.invokevirtual 102, 3) := by decide +kernel
theorem dX9_butt_24 : decode cX9_butt 24 = .ok (.istore_n 2, 1) := by decide +kernel
theorem dX9_butt_25 : decode cX9_butt 25 = .ok (.iload_n 2, 1) := by decide +kernel
theorem dX9_butt_26 : decode cX9_butt 26 = .ok (.bipush 6, 2) := by decide +kernel
theorem dX9_butt_28 : decode cX9_butt 28 = .ok (.if_icmp .ne 8, 3) := by decide +kernel
theorem dX9_butt_31 : decode cX9_butt 31 = .ok (.aload_n 0, 1) := by decide +kernel
theorem dX9_butt_32 : decode cX9_butt 32 = .ok (.invokevirtual 113, 3) := by decide +kernel
theorem dX9_butt_35 : decode cX9_butt 35 = .ok (.ireturn, 1) := by decide +kernel
theorem dX9_butt_36 : decode cX9_butt 36 = .ok (.aload_n 0, 1) := by decide +kernel
theorem dX9_butt_37 : decode cX9_butt 37 = .ok (.getfield 7, 3) := by decide +kernel
theorem dX9_butt_40 : decode cX9_butt 40 = .ok (.sipush 147, 3) := by decide +kernel
theorem dX9_butt_43 : decode cX9_butt 43 = .ok (.iload_n 2, 1) := by decide +kernel
theorem dX9_butt_44 : decode cX9_butt 44 = .ok (.iadd, 1) := by decide +kernel
theorem dX9_butt_45 : decode cX9_butt 45 = .ok (.iload_n 1, 1) := by decide +kernel
theorem dX9_butt_46 : decode cX9_butt 46 = .ok (.iastore, 1) := by decide +kernel
theorem dX9_butt_47 : decode cX9_butt 47 = .ok (.aload_n 0, 1) := by decide +kernel
theorem dX9_butt_48 : decode cX9_butt 48 = .ok (.getfield 7, 3) := by decide +kernel
theorem dX9_butt_51 : decode cX9_butt 51 = .ok (.sipush 397, 3) := by decide +kernel
theorem dX9_butt_54 : decode cX9_butt 54 = .ok (.dup2, 1) := by decide +kernel
theorem dX9_butt_55 : decode cX9_butt 55 = .ok (.iaload, 1) := by decide +kernel
theorem dX9_butt_56 : decode cX9_butt 56 = .ok (.iconst 1, 1) := by decide +kernel
theorem dX9_butt_57 : decode cX9_butt 57 = .ok (.iadd, 1) := by decide +kernel
theorem dX9_butt_58 : decode cX9_butt 58 = .ok (.iastore, 1) := by decide +kernel
theorem dX9_butt_59 : decode cX9_butt 59 = .ok (.iload_n 2, 1) := by decide +kernel
theorem dX9_butt_60 : decode cX9_butt 60 = .ok (.ireturn, 1) := by decide +kernel
theorem dX9_play_0 : decode cX9_play 0 = .ok (.iload_n 1, 1) := by decide +kernel
theorem dX9_play_1 : decode cX9_play 1 = .ok (.i2l, 1) := by decide +kernel
theorem dX9_play_2 : decode cX9_play 2 = .ok (.lconst 0, 1) := by decide +kernel
theorem dX9_play_3 : decode cX9_play 3 = .ok (.ldc2_w 96, 3) := by decide +kernel
theorem dX9_play_6 : decode cX9_play 6 = .ok (.invokestatic 90, 3) := by decide +kernel
theorem dX9_play_9 : decode cX9_play 9 = .ok (.ifCond .ne 10, 3) := by decide +kernel
theorem dX9_play_12 : decode cX9_play 12 = .ok (.aload_n 0, 1) := by decide +kernel
theorem dX9_play_13 : decode cX9_play 13 = .ok (.bipush (-2), 2) := by decide +kernel
theorem dX9_play_15 : decode cX9_play 15 = .ok (.invokevirtual 110, 3) := by decide +kernel
theorem dX9_play_18 : decode cX9_play 18 = .ok (.ireturn, 1) := by decide +kernel
theorem dX9_play_19 : decode cX9_play 19 = .ok (.aload_n 0, 1) := by decide +kernel
theorem dX9_play_20 : decode cX9_play 20 = .ok (.getfield 7, 3) := by decide +kernel
theorem dX9_play_23 : decode cX9_play 23 = .ok (.sipush 153, 3) := by decide +kernel
theorem dX9_play_26 : decode cX9_play 26 = .ok (.iaload, 1) := by decide +kernel
theorem dX9_play_27 : decode cX9_play 27 = .ok (.istore_n 2, 1) := by decide +kernel
theorem dX9_play_28 : decode cX9_play 28 = .ok (.aload_n 0, 1) := by decide +kernel
theorem dX9_play_29 : decode cX9_play 29 = .ok (.getfield 7, 3) := by decide +kernel
theorem dX9_play_32 : decode cX9_play 32 = .ok (.sipush 153, 3) := by decide +kernel
theorem dX9_play_35 : decode cX9_play 35 = .ok (.iload_n 1, 1) := by decide +kernel
theorem dX9_play_36 : decode cX9_play 36 = .ok (.iastore, 1) := by decide +kernel
theorem dX9_play_37 : decode cX9_play 37 = .ok (.iload_n 2, 1) := by decide +kernel
theorem dX9_play_38 : decode cX9_play 38 = .ok (.ireturn, 1) := by decide +kernel
theorem dX9_goesWith_0 : decode cX9_goesWith 0 = .ok (.aload_n 0, 1) := by decide +kernel
theorem dX9_goesWith_1 : decode cX9_goesWith 1 = .ok (.getfield 7, 3) := by decide +kernel
theorem dX9_goesWith_4 : decode cX9_goesWith 4 = .ok (.sipush 147, 3) := by decide +kernel
theorem dX9_goesWith_7 : decode cX9_goesWith 7 = .ok (.iload_n 1, 1) := by decide +kernel
theorem dX9_goesWith_8 : decode cX9_goesWith 8 = .ok (.iadd, 1) := by decide +kernel
theorem dX9_goesWith_9 : decode cX9_goesWith 9 = .ok (.iaload, 1) := by decide +kernel
theorem dX9_goesWith_10 : decode cX9_goesWith 10 = .ok (.aload_n 0, 1) := by decide +kernel
theorem dX9_goesWith_11 : decode cX9_goesWith 11 = .ok (.getfield 7, 3) := by decide +kernel
theorem dX9_goesWith_14 : decode cX9_goesWith 14 = .ok (.bipush 99, 2) := by decide +kernel
theorem dX9_goesWith_16 : decode cX9_goesWith 16 = .ok (.iconst 4, 1) := by decide +kernel
theorem dX9_goesWith_17 : decode cX9_goesWith 17 = .ok (.iload_n 2, 1) := by decide +kernel
theorem dX9_goesWith_18 : decode cX9_goesWith 18 = .ok (.imul, 1) := by decide +kernel
theorem dX9_goesWith_19 : decode cX9_goesWith 19 = .ok (.iadd, 1) := by decide +kernel
theorem dX9_goesWith_20 : decode cX9_goesWith 20 = .ok (.iconst 2, 1) := by decide +kernel
theorem dX9_goesWith_21 : decode cX9_goesWith 21 = .ok (.iadd, 1) := by decide +kernel
theorem dX9_goesWith_22 : decode cX9_goesWith 22 = .ok (.iaload, 1) := by decide +kernel
theorem dX9_goesWith_23 : decode cX9_goesWith 23 = .ok (.isub, 1) := by decide +kernel
theorem dX9_goesWith_24 : decode cX9_goesWith 24 = .ok (.istore_n 3, 1) := by decide +kernel
theorem dX9_goesWith_25 : decode cX9_goesWith 25 = .ok (.iload_n 2, 1) := by decide +kernel
theorem dX9_goesWith_26 : decode cX9_goesWith 26 = .ok (.aload_n 0, 1) := by decide +kernel
theorem dX9_goesWith_27 : decode cX9_goesWith 27 = .ok (.iconst 4, 1) := by decide +kernel
theorem dX9_goesWith_28 : decode cX9_goesWith 28 = .ok (.invokevirtual 102, 3) := by decide +kernel
theorem dX9_goesWith_31 : decode cX9_goesWith 31 = .ok (.if_icmp .ge 28, 3) := by decide +kernel
theorem dX9_goesWith_34 : decode cX9_goesWith 34 = .ok (.iload_n 3, 1) := by decide +kernel
theorem dX9_goesWith_35 : decode cX9_goesWith 35 = .ok (.ifCond .ge 8, 3) := by decide +kernel
theorem dX9_goesWith_38 : decode cX9_goesWith 38 = .ok (.iload_n 3, 1) := by decide +kernel
theorem dX9_goesWith_39 : decode cX9_goesWith 39 = .ok (.ineg, 1) := by decide +kernel
theorem dX9_goesWith_40 : decode cX9_goesWith 40 = .ok (.goto 4, 3) := by decide +kernel
theorem dX9_goesWith_43 : decode cX9_goesWith 43 = .ok (.iload_n 3, 1) := by decide +kernel
theorem dX9_goesWith_44 : decode cX9_goesWith 44 = .ok (.aload_n 0, 1) := by decide +kernel
theorem dX9_goesWith_45 : decode cX9_goesWith 45 = .ok (.getfield 7, 3) := by decide +kernel
theorem dX9_goesWith_48 : decode cX9_goesWith 48 = .ok (.sipush 153, 3) := by decide +kernel
theorem dX9_goesWith_51 : decode cX9_goesWith 51 = .ok (.iaload, 1) := by decide +kernel
theorem dX9_goesWith_52 : decode cX9_goesWith 52 = .ok (.if_icmp .gt 7, 3) := by decide +kernel
theorem dX9_goesWith_55 : decode cX9_goesWith 55 = .ok (.iconst 1, 1) := by decide +kernel
theorem dX9_goesWith_56 : decode cX9_goesWith 56 = .ok (.goto 4, 3) := by decide +kernel
theorem dX9_goesWith_59 : decode cX9_goesWith 59 = .ok (.iconst 0, 1) := by decide +kernel
theorem dX9_goesWith_60 : decode cX9_goesWith 60 = .ok (.ireturn, 1) := by decide +kernel
theorem dX9_rowsBy_0 : decode cX9_rowsBy 0 = .ok (.iconst 0, 1) := by decide +kernel
theorem dX9_rowsBy_1 : decode cX9_rowsBy 1 = .ok (.istore_n 3, 1) := by decide +kernel
theorem dX9_rowsBy_2 : decode cX9_rowsBy 2 = .ok (.iload_n 3, 1) := by decide +kernel
theorem dX9_rowsBy_3 : decode cX9_rowsBy 3 = .ok (.bipush 64, 2) := by decide +kernel
theorem dX9_rowsBy_5 : decode cX9_rowsBy 5 = .ok (.if_icmp .ge 24, 3) := by decide +kernel
theorem dX9_rowsBy_8 : decode cX9_rowsBy 8 = .ok (.aload_n 0, 1) := by decide +kernel
theorem dX9_rowsBy_9 : decode cX9_rowsBy 9 = .ok (.getfield 30, 3) := by decide +kernel
theorem dX9_rowsBy_12 : decode cX9_rowsBy 12 = .ok (.iload_n 3, 1) := by decide +kernel
theorem dX9_rowsBy_13 : decode cX9_rowsBy 13 = .ok (.iload_n 3, 1) := by decide +kernel
theorem dX9_rowsBy_14 : decode cX9_rowsBy 14 = .ok (.ifCond .ne 7, 3) := by decide +kernel
theorem dX9_rowsBy_17 : decode cX9_rowsBy 17 = .ok (.iconst 1, 1) := by decide +kernel
theorem dX9_rowsBy_18 : decode cX9_rowsBy 18 = .ok (.goto 4, 3) := by decide +kernel
theorem dX9_rowsBy_21 : decode cX9_rowsBy 21 = .ok (.iconst 0, 1) := by decide +kernel
theorem dX9_rowsBy_22 : decode cX9_rowsBy 22 = .ok (.iastore, 1) := by decide +kernel
theorem dX9_rowsBy_23 : decode cX9_rowsBy 23 = .ok (.iinc 3 1, 3) := by decide +kernel
theorem dX9_rowsBy_26 : decode cX9_rowsBy 26 = .ok (.goto (-24), 3) := by decide +kernel
theorem dX9_rowsBy_29 : decode cX9_rowsBy 29 = .ok (.iconst 0, 1) := by decide +kernel
theorem dX9_rowsBy_30 : decode cX9_rowsBy 30 = .ok (.istore_n 3, 1) := by decide +kernel
theorem dX9_rowsBy_31 : decode cX9_rowsBy 31 = .ok (.iconst 0, 1) := by decide +kernel
theorem dX9_rowsBy_32 : decode cX9_rowsBy 32 = .ok (.istore 4, 2) := by decide +kernel
theorem dX9_rowsBy_34 : decode cX9_rowsBy 34 = .ok (.iload 4, 2) := by decide +kernel
theorem dX9_rowsBy_36 : decode cX9_rowsBy 36 = .ok (.bipush 64, 2) := by decide +kernel
theorem dX9_rowsBy_38 : decode cX9_rowsBy 38 = .ok (.if_icmp .ge 145, 3) := by decide +kernel
theorem dX9_rowsBy_41 : decode cX9_rowsBy 41 = .ok (.iconst 0, 1) := by decide +kernel
theorem dX9_rowsBy_42 : decode cX9_rowsBy 42 = .ok (.istore 5, 2) := by decide +kernel
theorem dX9_rowsBy_44 : decode cX9_rowsBy 44 = .ok (.iconst 0, 1) := by decide +kernel
theorem dX9_rowsBy_45 : decode cX9_rowsBy 45 = .ok (.istore 6, 2) := by decide +kernel
theorem dX9_rowsBy_47 : decode cX9_rowsBy 47 = .ok (.iload 6, 2) := by decide +kernel
theorem dX9_rowsBy_49 : decode cX9_rowsBy 49 = .ok (.bipush 6, 2) := by decide +kernel
theorem dX9_rowsBy_51 : decode cX9_rowsBy 51 = .ok (.if_icmp .ge 21, 3) := by decide +kernel
theorem dX9_rowsBy_54 : decode cX9_rowsBy 54 = .ok (.iload 5, 2) := by decide +kernel
theorem dX9_rowsBy_56 : decode cX9_rowsBy 56 = .ok (.iload 4, 2) := by decide +kernel
theorem dX9_rowsBy_58 : decode cX9_rowsBy 58 = .ok (.iload 6, 2) := by decide +kernel
theorem dX9_rowsBy_60 : decode cX9_rowsBy 60 = .ok (.ishr, 1) := by decide +kernel
theorem dX9_rowsBy_61 : decode cX9_rowsBy 61 = .ok (.iconst 1, 1) := by decide +kernel
theorem dX9_rowsBy_62 : decode cX9_rowsBy 62 = .ok (.iand, 1) := by decide +kernel
theorem dX9_rowsBy_63 : decode cX9_rowsBy 63 = .ok (.iadd, 1) := by decide +kernel
theorem dX9_rowsBy_64 : decode cX9_rowsBy 64 = .ok (.istore 5, 2) := by decide +kernel
theorem dX9_rowsBy_66 : decode cX9_rowsBy 66 = .ok (.iinc 6 1, 3) := by decide +kernel
theorem dX9_rowsBy_69 : decode cX9_rowsBy 69 = .ok (.goto (-22), 3) := by decide +kernel
theorem dX9_rowsBy_72 : decode cX9_rowsBy 72 = .ok (.iconst 0, 1) := by decide +kernel
theorem dX9_rowsBy_73 : decode cX9_rowsBy 73 = .ok (.istore 6, 2) := by decide +kernel
theorem dX9_rowsBy_75 : decode cX9_rowsBy 75 = .ok (.iload 6, 2) := by decide +kernel
theorem dX9_rowsBy_77 : decode cX9_rowsBy 77 = .ok (.bipush 6, 2) := by decide +kernel
theorem dX9_rowsBy_79 : decode cX9_rowsBy 79 = .ok (.if_icmp .ge 74, 3) := by decide +kernel
theorem dX9_rowsBy_82 : decode cX9_rowsBy 82 = .ok (.iload 5, 2) := by decide +kernel
theorem dX9_rowsBy_84 : decode cX9_rowsBy 84 = .ok (.aload_n 0, 1) := by decide +kernel
theorem dX9_rowsBy_85 : decode cX9_rowsBy 85 = .ok (.iconst 5, 1) := by decide +kernel
theorem dX9_rowsBy_86 : decode cX9_rowsBy 86 = .ok (.invokevirtual 102, 3) := by decide +kernel
theorem dX9_rowsBy_89 : decode cX9_rowsBy 89 = .ok (.if_icmp .ge 64, 3) := by decide +kernel
theorem dX9_rowsBy_92 : decode cX9_rowsBy 92 = .ok (.iload 4, 2) := by decide +kernel
theorem dX9_rowsBy_94 : decode cX9_rowsBy 94 = .ok (.iload 6, 2) := by decide +kernel
theorem dX9_rowsBy_96 : decode cX9_rowsBy 96 = .ok (.ishr, 1) := by decide +kernel
theorem dX9_rowsBy_97 : decode cX9_rowsBy 97 = .ok (.iconst 1, 1) := by decide +kernel
theorem dX9_rowsBy_98 : decode cX9_rowsBy 98 = .ok (.iand, 1) := by decide +kernel
theorem dX9_rowsBy_99 : decode cX9_rowsBy 99 = .ok (.ifCond .ne 48, 3) := by decide +kernel
theorem dX9_rowsBy_102 : decode cX9_rowsBy 102 = .ok (.aload_n 0, 1) := by decide +kernel
theorem dX9_rowsBy_103 : decode cX9_rowsBy 103 = .ok (.iload 5, 2) := by decide +kernel
theorem dX9_rowsBy_105 : decode cX9_rowsBy 105 = .ok (.iload 6, 2) := by decide +kernel
theorem dX9_rowsBy_107 : decode cX9_rowsBy 107 = .ok (.invokevirtual 271, 3) := by decide +kernel
theorem dX9_rowsBy_110 : decode cX9_rowsBy 110 = .ok (.ifCond .eq 37, 3) := by decide +kernel
theorem dX9_rowsBy_113 : decode cX9_rowsBy 113 = .ok (.iload 5, 2) := by decide +kernel
theorem dX9_rowsBy_115 : decode cX9_rowsBy 115 = .ok (.iload_n 1, 1) := by decide +kernel
theorem dX9_rowsBy_116 : decode cX9_rowsBy 116 = .ok (.if_icmp .ne 9, 3) := by decide +kernel
theorem dX9_rowsBy_119 : decode cX9_rowsBy 119 = .ok (.iload 6, 2) := by decide +kernel
theorem dX9_rowsBy_121 : decode cX9_rowsBy 121 = .ok (.iload_n 2, 1) := by decide +kernel
theorem dX9_rowsBy_122 : decode cX9_rowsBy 122 = .ok (.if_icmp .ne 25, 3) := by decide +kernel
theorem dX9_rowsBy_125 : decode cX9_rowsBy 125 = .ok (.aload_n 0, 1) := by decide +kernel
theorem dX9_rowsBy_126 : decode cX9_rowsBy 126 = .ok (.getfield 30, 3) := by decide +kernel
theorem dX9_rowsBy_129 : decode cX9_rowsBy 129 = .ok (.iload 4, 2) := by decide +kernel
theorem dX9_rowsBy_131 : decode cX9_rowsBy 131 = .ok (.iconst 1, 1) := by decide +kernel
theorem dX9_rowsBy_132 : decode cX9_rowsBy 132 = .ok (.iload 6, 2) := by decide +kernel
theorem dX9_rowsBy_134 : decode cX9_rowsBy 134 = .ok (.ishl, 1) := by decide +kernel
theorem dX9_rowsBy_135 : decode cX9_rowsBy 135 = .ok (.ior, 1) := by decide +kernel
theorem dX9_rowsBy_136 : decode cX9_rowsBy 136 = .ok (.dup2, 1) := by decide +kernel
theorem dX9_rowsBy_137 : decode cX9_rowsBy 137 = .ok (.iaload, 1) := by decide +kernel
theorem dX9_rowsBy_138 : decode cX9_rowsBy 138 = .ok (.aload_n 0, 1) := by decide +kernel
theorem dX9_rowsBy_139 : decode cX9_rowsBy 139 = .ok (.getfield 30, 3) := by decide +kernel
theorem dX9_rowsBy_142 : decode cX9_rowsBy 142 = .ok (.iload 4, 2) := by decide +kernel
theorem dX9_rowsBy_144 : decode cX9_rowsBy 144 = .ok (.iaload, 1) := by decide +kernel
theorem dX9_rowsBy_145 : decode cX9_rowsBy 145 = .ok (.iadd, 1) := by decide +kernel
theorem dX9_rowsBy_146 : decode cX9_rowsBy 146 = .ok (.iastore, 1) := by decide +kernel
theorem dX9_rowsBy_147 : decode cX9_rowsBy 147 = .ok (.iinc 6 1, 3) := by decide +kernel
theorem dX9_rowsBy_150 : decode cX9_rowsBy 150 = .ok (.goto (-75), 3) := by decide +kernel
theorem dX9_rowsBy_153 : decode cX9_rowsBy 153 = .ok (.iload_n 3, 1) := by decide +kernel
theorem dX9_rowsBy_154 : decode cX9_rowsBy 154 = .ok (.iload 5, 2) := by decide +kernel
theorem dX9_rowsBy_156 : decode cX9_rowsBy 156 = .ok (.aload_n 0, 1) := by decide +kernel
theorem dX9_rowsBy_157 : decode cX9_rowsBy 157 = .ok (.iconst 5, 1) := by decide +kernel
theorem dX9_rowsBy_158 : decode cX9_rowsBy 158 = .ok (.invokevirtual 102, 3) := by decide +kernel
theorem dX9_rowsBy_161 : decode cX9_rowsBy 161 = .ok (.if_icmp .ne 13, 3) := by decide +kernel
theorem dX9_rowsBy_164 : decode cX9_rowsBy 164 = .ok (.aload_n 0, 1) := by decide +kernel
theorem dX9_rowsBy_165 : decode cX9_rowsBy 165 = .ok (.getfield 30, 3) := by decide +kernel
theorem dX9_rowsBy_168 : decode cX9_rowsBy 168 = .ok (.iload 4, 2) := by decide +kernel
theorem dX9_rowsBy_170 : decode cX9_rowsBy 170 = .ok (.iaload, 1) := by decide +kernel
theorem dX9_rowsBy_171 : decode cX9_rowsBy 171 = .ok (.goto 4, 3) := by decide +kernel
theorem dX9_rowsBy_174 : decode cX9_rowsBy 174 = .ok (.iconst 0, 1) := by decide +kernel
theorem dX9_rowsBy_175 : decode cX9_rowsBy 175 = .ok (.iadd, 1) := by decide +kernel
theorem dX9_rowsBy_176 : decode cX9_rowsBy 176 = .ok (.istore_n 3, 1) := by decide +kernel
theorem dX9_rowsBy_177 : decode cX9_rowsBy 177 = .ok (.iinc 4 1, 3) := by decide +kernel
theorem dX9_rowsBy_180 : decode cX9_rowsBy 180 = .ok (.goto (-146), 3) := by decide +kernel
theorem dX9_rowsBy_183 : decode cX9_rowsBy 183 = .ok (.iload_n 3, 1) := by decide +kernel
theorem dX9_rowsBy_184 : decode cX9_rowsBy 184 = .ok (.ireturn, 1) := by decide +kernel
theorem dX9_which_0 : decode cX9_which 0 = .ok (.iload_n 1, 1) := by decide +kernel
theorem dX9_which_1 : decode cX9_which 1 = .ok (.iconst (-1), 1) := by decide +kernel
theorem dX9_which_2 : decode cX9_which 2 = .ok (.if_icmp .eq 48, 3) := by decide +kernel
theorem dX9_which_5 : decode cX9_which 5 = .ok (.iload_n 1, 1) := by decide +kernel
theorem dX9_which_6 : decode cX9_which 6 = .ok (.i2l, 1) := by decide +kernel
theorem dX9_which_7 : decode cX9_which 7 = .ok (.lconst 0, 1) := by decide +kernel
theorem dX9_which_8 : decode cX9_which 8 = .ok (.aload_n 0, 1) := by decide +kernel
theorem dX9_which_9 : decode cX9_which 9 = .ok (.iconst 5, 1) := by decide +kernel
theorem dX9_which_10 : decode cX9_which 10 = .ok (.invokevirtual 102, 3) := by decide +kernel
theorem dX9_which_13 : decode cX9_which 13 = .ok (.iconst 1, 1) := by decide +kernel
theorem dX9_which_14 : decode cX9_which 14 = .ok (.isub, 1) := by decide +kernel
theorem dX9_which_15 : decode cX9_which 15 = .ok (.i2l, 1) := by decide +kernel
theorem dX9_which_16 : decode cX9_which 16 = .ok (.invokestatic 90, 3) := by decide +kernel
theorem dX9_which_19 : decode cX9_which 19 = .ok (.ifCond .eq 24, 3) := by decide +kernel
theorem dX9_which_22 : decode cX9_which 22 = .ok (.iload_n 2, 1) := by decide +kernel
theorem dX9_which_23 : decode cX9_which 23 = .ok (.i2l, 1) := by decide +kernel
theorem dX9_which_24 : decode cX9_which 24 = .ok (.lconst 0, 1) := by decide +kernel
theorem dX9_which_25 : decode cX9_which 25 = .ok (.ldc2_w 218, 3) := by decide +kernel
theorem dX9_which_28 : decode cX9_which 28 = .ok (.invokestatic 90, 3) := by decide +kernel
theorem dX9_which_31 : decode cX9_which 31 = .ok (.ifCond .eq 12, 3) := by decide +kernel
theorem dX9_which_34 : decode cX9_which 34 = .ok (.iload_n 2, 1) := by decide +kernel
theorem dX9_which_35 : decode cX9_which 35 = .ok (.aload_n 0, 1) := by decide +kernel
theorem dX9_which_36 : decode cX9_which 36 = .ok (.iconst 4, 1) := by decide +kernel
theorem dX9_which_37 : decode cX9_which 37 = .ok (.invokevirtual 102, 3) := by decide +kernel
theorem dX9_which_40 : decode cX9_which 40 = .ok (.if_icmp .lt 10, 3) := by decide +kernel
theorem dX9_which_43 : decode cX9_which 43 = .ok (.aload_n 0, 1) := by decide +kernel
theorem dX9_which_44 : decode cX9_which 44 = .ok (.bipush (-2), 2) := by decide +kernel
theorem dX9_which_46 : decode cX9_which 46 = .ok (.invokevirtual 110, 3) := by decide +kernel
theorem dX9_which_49 : decode cX9_which 49 = .ok (.ireturn, 1) := by decide +kernel
theorem dX9_which_50 : decode cX9_which 50 = .ok (.aload_n 0, 1) := by decide +kernel
theorem dX9_which_51 : decode cX9_which 51 = .ok (.iconst 5, 1) := by decide +kernel
theorem dX9_which_52 : decode cX9_which 52 = .ok (.invokevirtual 102, 3) := by decide +kernel
theorem dX9_which_55 : decode cX9_which 55 = .ok (.ifCond .ne 7, 3) := by decide +kernel
theorem dX9_which_58 : decode cX9_which 58 = .ok (.iconst 0, 1) := by decide +kernel
theorem dX9_which_59 : decode cX9_which 59 = .ok (.goto 9, 3) := by decide +kernel
theorem dX9_which_62 : decode cX9_which 62 = .ok (.aload_n 0, 1) := by decide +kernel
theorem dX9_which_63 : decode cX9_which 63 = .ok (.iconst (-1), 1) := by decide +kernel
theorem dX9_which_64 : decode cX9_which 64 = .ok (.iconst (-1), 1) := by decide +kernel
theorem dX9_which_65 : decode cX9_which 65 = .ok (.invokevirtual 275, 3) := by decide +kernel
theorem dX9_which_68 : decode cX9_which 68 = .ok (.istore_n 3, 1) := by decide +kernel
theorem dX9_which_69 : decode cX9_which 69 = .ok (.iload_n 3, 1) := by decide +kernel
theorem dX9_which_70 : decode cX9_which 70 = .ok (.ifCond .ne 10, 3) := by decide +kernel
theorem dX9_which_73 : decode cX9_which 73 = .ok (.aload_n 0, 1) := by decide +kernel
theorem dX9_which_74 : decode cX9_which 74 = .ok (.bipush (-3), 2) := by decide +kernel
theorem dX9_which_76 : decode cX9_which 76 = .ok (.invokevirtual 242, 3) := by decide +kernel
theorem dX9_which_79 : decode cX9_which 79 = .ok (.ireturn, 1) := by decide +kernel
theorem dX9_which_80 : decode cX9_which 80 = .ok (.iload_n 1, 1) := by decide +kernel
theorem dX9_which_81 : decode cX9_which 81 = .ok (.iconst (-1), 1) := by decide +kernel
theorem dX9_which_82 : decode cX9_which 82 = .ok (.if_icmp .ne 7, 3) := by decide +kernel
theorem dX9_which_85 : decode cX9_which 85 = .ok (.iload_n 3, 1) := by decide +kernel
theorem dX9_which_86 : decode cX9_which 86 = .ok (.goto 16, 3) := by decide +kernel
theorem dX9_which_89 : decode cX9_which 89 = .ok (.aload_n 0, 1) := by decide +kernel
theorem dX9_which_90 : decode cX9_which 90 = .ok (.aload_n 0, 1) := by decide +kernel
theorem dX9_which_91 : decode cX9_which 91 = .ok (.iload_n 1, 1) := by decide +kernel
theorem dX9_which_92 : decode cX9_which 92 = .ok (.iload_n 2, 1) := by decide +kernel
theorem dX9_which_93 : decode cX9_which 93 = .ok (.invokevirtual 275, 3) := by decide +kernel
theorem dX9_which_96 : decode cX9_which 96 = .ok (.i2l, 1) := by decide +kernel
theorem dX9_which_97 : decode cX9_which 97 = .ok (.iload_n 3, 1) := by decide +kernel
theorem dX9_which_98 : decode cX9_which 98 = .ok (.i2l, 1) := by decide +kernel
theorem dX9_which_99 : decode cX9_which 99 = .ok (.invokevirtual 255, 3) := by decide +kernel
theorem dX9_which_102 : decode cX9_which 102 = .ok (.ireturn, 1) := by decide +kernel
theorem dX9_hands_0 : decode cX9_hands 0 = .ok (.iload_n 1, 1) := by decide +kernel
theorem dX9_hands_1 : decode cX9_hands 1 = .ok (.i2l, 1) := by decide +kernel
theorem dX9_hands_2 : decode cX9_hands 2 = .ok (.lconst 0, 1) := by decide +kernel
theorem dX9_hands_3 : decode cX9_hands 3 = .ok (.aload_n 0, 1) := by decide +kernel
theorem dX9_hands_4 : decode cX9_hands 4 = .ok (.iconst 4, 1) := by decide +kernel
theorem dX9_hands_5 : decode cX9_hands 5 = .ok (.invokevirtual 102, 3) := by decide +kernel
theorem dX9_hands_8 : decode cX9_hands 8 = .ok (.iconst 1, 1) := by decide +kernel
theorem dX9_hands_9 : decode cX9_hands 9 = .ok (.isub, 1) := by decide +kernel
theorem dX9_hands_10 : decode cX9_hands 10 = .ok (.i2l, 1) := by decide +kernel
theorem dX9_hands_11 : decode cX9_hands 11 = .ok (.invokestatic 90, 3) := by decide +kernel
theorem dX9_hands_14 : decode cX9_hands 14 = .ok (.ifCond .eq 27, 3) := by decide +kernel
theorem dX9_hands_17 : decode cX9_hands 17 = .ok (.iload_n 2, 1) := by decide +kernel
theorem dX9_hands_18 : decode cX9_hands 18 = .ok (.i2l, 1) := by decide +kernel
theorem dX9_hands_19 : decode cX9_hands 19 = .ok (.lconst 0, 1) := by decide +kernel
theorem dX9_hands_20 : decode cX9_hands 20 = .ok (.ldc2_w 278, 3) := by decide +kernel
theorem dX9_hands_23 : decode cX9_hands 23 = .ok (.invokestatic 90, 3) := by decide +kernel
theorem dX9_hands_26 : decode cX9_hands 26 = .ok (.ifCond .eq 15, 3) := by decide +kernel
theorem dX9_hands_29 : decode cX9_hands 29 = .ok (.iload_n 3, 1) := by decide +kernel
theorem dX9_hands_30 : decode cX9_hands 30 = .ok (.i2l, 1) := by decide +kernel
theorem dX9_hands_31 : decode cX9_hands 31 = .ok (.lconst 0, 1) := by decide +kernel
theorem dX9_hands_32 : decode cX9_hands 32 = .ok (.ldc2_w 278, 3) := by decide +kernel
theorem dX9_hands_35 : decode cX9_hands 35 = .ok (.invokestatic 90, 3) := by decide +kernel
theorem dX9_hands_38 : decode cX9_hands 38 = .ok (.ifCond .ne 10, 3) := by decide +kernel
theorem dX9_hands_41 : decode cX9_hands 41 = .ok (.aload_n 0, 1) := by decide +kernel
theorem dX9_hands_42 : decode cX9_hands 42 = .ok (.bipush (-2), 2) := by decide +kernel
theorem dX9_hands_44 : decode cX9_hands 44 = .ok (.invokevirtual 110, 3) := by decide +kernel
theorem dX9_hands_47 : decode cX9_hands 47 = .ok (.ireturn, 1) := by decide +kernel
theorem dX9_hands_48 : decode cX9_hands 48 = .ok (.aload_n 0, 1) := by decide +kernel
theorem dX9_hands_49 : decode cX9_hands 49 = .ok (.getfield 7, 3) := by decide +kernel
theorem dX9_hands_52 : decode cX9_hands 52 = .ok (.bipush 99, 2) := by decide +kernel
theorem dX9_hands_54 : decode cX9_hands 54 = .ok (.iconst 4, 1) := by decide +kernel
theorem dX9_hands_55 : decode cX9_hands 55 = .ok (.iload_n 1, 1) := by decide +kernel
theorem dX9_hands_56 : decode cX9_hands 56 = .ok (.imul, 1) := by decide +kernel
theorem dX9_hands_57 : decode cX9_hands 57 = .ok (.iadd, 1) := by decide +kernel
theorem dX9_hands_58 : decode cX9_hands 58 = .ok (.iconst 3, 1) := by decide +kernel
theorem dX9_hands_59 : decode cX9_hands 59 = .ok (.iadd, 1) := by decide +kernel
theorem dX9_hands_60 : decode cX9_hands 60 = .ok (.iaload, 1) := by decide +kernel
theorem dX9_hands_61 : decode cX9_hands 61 = .ok (.iconst 1, 1) := by decide +kernel
theorem dX9_hands_62 : decode cX9_hands 62 = .ok (.if_icmp .ne 7, 3) := by decide +kernel
theorem dX9_hands_65 : decode cX9_hands 65 = .ok (.iload_n 3, 1) := by decide +kernel
theorem dX9_hands_66 : decode cX9_hands 66 = .ok (.goto 7, 3) := by decide +kernel
theorem dX9_hands_69 : decode cX9_hands 69 = .ok (.bipush 10, 2) := by decide +kernel
theorem dX9_hands_71 : decode cX9_hands 71 = .ok (.iload_n 3, 1) := by decide +kernel
theorem dX9_hands_72 : decode cX9_hands 72 = .ok (.isub, 1) := by decide +kernel
theorem dX9_hands_73 : decode cX9_hands 73 = .ok (.istore 4, 2) := by decide +kernel
theorem dX9_hands_75 : decode cX9_hands 75 = .ok (.iload_n 2, 1) := by decide +kernel
theorem dX9_hands_76 : decode cX9_hands 76 = .ok (.iload 4, 2) := by decide +kernel
theorem dX9_hands_78 : decode cX9_hands 78 = .ok (.imul, 1) := by decide +kernel
theorem dX9_hands_79 : decode cX9_hands 79 = .ok (.istore 5, 2) := by decide +kernel
theorem dX9_hands_81 : decode cX9_hands 81 = .ok (.iload 5, 2) := by decide +kernel
theorem dX9_hands_83 : decode cX9_hands 83 = .ok (.bipush 10, 2) := by decide +kernel
theorem dX9_hands_85 : decode cX9_hands 85 = .ok (.iload_n 2, 1) := by decide +kernel
theorem dX9_hands_86 : decode cX9_hands 86 = .ok (.isub, 1) := by decide +kernel
theorem dX9_hands_87 : decode cX9_hands 87 = .ok (.bipush 10, 2) := by decide +kernel
theorem dX9_hands_89 : decode cX9_hands 89 = .ok (.iload 4, 2) := by decide +kernel
theorem dX9_hands_91 : decode cX9_hands 91 = .ok (.isub, 1) := by decide +kernel
theorem dX9_hands_92 : decode cX9_hands 92 = .ok (.imul, 1) := by decide +kernel
theorem dX9_hands_93 : decode cX9_hands 93 = .ok (.iadd, 1) := by decide +kernel
theorem dX9_hands_94 : decode cX9_hands 94 = .ok (.istore 6, 2) := by decide +kernel
theorem dX9_hands_96 : decode cX9_hands 96 = .ok (.iload 6, 2) := by decide +kernel
theorem dX9_hands_98 : decode cX9_hands 98 = .ok (.ifCond .ne 12, 3) := by decide +kernel
theorem dX9_hands_101 : decode cX9_hands 101 = .ok (.aload_n 0, 1) := by decide +kernel
theorem dX9_hands_102 : decode cX9_hands 102 = .ok (.bipush (-3), 2) := by decide +kernel
theorem dX9_hands_104 : decode cX9_hands 104 = .ok (.invokevirtual 242, 3) := by decide +kernel
theorem dX9_hands_107 : decode cX9_hands 107 = .ok (.goto 13, 3) := by decide +kernel
theorem dX9_hands_110 : decode cX9_hands 110 = .ok (.aload_n 0, 1) := by decide +kernel
theorem dX9_hands_111 : decode cX9_hands 111 = .ok (.iload 5, 2) := by decide +kernel
theorem dX9_hands_113 : decode cX9_hands 113 = .ok (.i2l, 1) := by decide +kernel
theorem dX9_hands_114 : decode cX9_hands 114 = .ok (.iload 6, 2) := by decide +kernel
theorem dX9_hands_116 : decode cX9_hands 116 = .ok (.i2l, 1) := by decide +kernel
theorem dX9_hands_117 : decode cX9_hands 117 = .ok (.invokevirtual 255, 3) := by decide +kernel
theorem dX9_hands_120 : decode cX9_hands 120 = .ok (.ireturn, 1) := by decide +kernel
theorem dX9_isSort_0 : decode cX9_isSort 0 = .ok (.iload_n 0, 1) := by decide +kernel
theorem dX9_isSort_1 : decode cX9_isSort 1 = .ok (.i2l, 1) := by decide +kernel
theorem dX9_isSort_2 : decode cX9_isSort 2 = .ok (.lconst 0, 1) := by decide +kernel
theorem dX9_isSort_3 : decode cX9_isSort 3 = .ok (.ldc2_w 46, 3) := by decide +kernel
theorem dX9_isSort_6 : decode cX9_isSort 6 = .ok (.invokestatic 90, 3) := by decide +kernel
theorem dX9_isSort_9 : decode cX9_isSort 9 = .ok (.ireturn, 1) := by decide +kernel
theorem dX9_isBand_0 : decode cX9_isBand 0 = .ok (.iload_n 0, 1) := by decide +kernel
theorem dX9_isBand_1 : decode cX9_isBand 1 = .ok (.i2l, 1) := by decide +kernel
theorem dX9_isBand_2 : decode cX9_isBand 2 = .ok (.lconst 0, 1) := by decide +kernel
theorem dX9_isBand_3 : decode cX9_isBand 3 = .ok (.ldc2_w 218, 3) := by decide +kernel
theorem dX9_isBand_6 : decode cX9_isBand 6 = .ok (.invokestatic 90, 3) := by decide +kernel
theorem dX9_isBand_9 : decode cX9_isBand 9 = .ok (.ireturn, 1) := by decide +kernel
theorem dX9_known_0 : decode cX9_known 0 = .ok (.iload_n 1, 1) := by decide +kernel
theorem dX9_known_1 : decode cX9_known 1 = .ok (.invokestatic 280, 3) := by decide +kernel
theorem dX9_known_4 : decode cX9_known 4 = .ok (.ifCond .eq 22, 3) := by decide +kernel
theorem dX9_known_7 : decode cX9_known 7 = .ok (.iload_n 2, 1) := by decide +kernel
theorem dX9_known_8 : decode cX9_known 8 = .ok (.invokestatic 283, 3) := by decide +kernel
theorem dX9_known_11 : decode cX9_known 11 = .ok (.ifCond .eq 15, 3) := by decide +kernel
theorem dX9_known_14 : decode cX9_known 14 = .ok (.iload_n 3, 1) := by decide +kernel
theorem dX9_known_15 : decode cX9_known 15 = .ok (.i2l, 1) := by decide +kernel
theorem dX9_known_16 : decode cX9_known 16 = .ok (.lconst 0, 1) := by decide +kernel
theorem dX9_known_17 : decode cX9_known 17 = .ok (.ldc2_w 94, 3) := by decide +kernel
theorem dX9_known_20 : decode cX9_known 20 = .ok (.invokestatic 90, 3) := by decide +kernel
theorem dX9_known_23 : decode cX9_known 23 = .ok (.ifCond .ne 10, 3) := by decide +kernel
theorem dX9_known_26 : decode cX9_known 26 = .ok (.aload_n 0, 1) := by decide +kernel
theorem dX9_known_27 : decode cX9_known 27 = .ok (.bipush (-2), 2) := by decide +kernel
theorem dX9_known_29 : decode cX9_known 29 = .ok (.invokevirtual 110, 3) := by decide +kernel
theorem dX9_known_32 : decode cX9_known 32 = .ok (.ireturn, 1) := by decide +kernel
theorem dX9_known_33 : decode cX9_known 33 = .ok (.sipush 154, 3) := by decide +kernel
theorem dX9_known_36 : decode cX9_known 36 = .ok (.bipush 7, 2) := by decide +kernel
theorem dX9_known_38 : decode cX9_known 38 = .ok (.iload_n 1, 1) := by decide +kernel
theorem dX9_known_39 : decode cX9_known 39 = .ok (.imul, 1) := by decide +kernel
theorem dX9_known_40 : decode cX9_known 40 = .ok (.iadd, 1) := by decide +kernel
theorem dX9_known_41 : decode cX9_known 41 = .ok (.iconst 1, 1) := by decide +kernel
theorem dX9_known_42 : decode cX9_known 42 = .ok (.iadd, 1) := by decide +kernel
theorem dX9_known_43 : decode cX9_known 43 = .ok (.iload_n 2, 1) := by decide +kernel
theorem dX9_known_44 : decode cX9_known 44 = .ok (.iadd, 1) := by decide +kernel
theorem dX9_known_45 : decode cX9_known 45 = .ok (.istore 4, 2) := by decide +kernel
theorem dX9_known_47 : decode cX9_known 47 = .ok (.aload_n 0, 1) := by decide +kernel
theorem dX9_known_48 : decode cX9_known 48 = .ok (.getfield 7, 3) := by decide +kernel
theorem dX9_known_51 : decode cX9_known 51 = .ok (.iload 4, 2) := by decide +kernel
theorem dX9_known_53 : decode cX9_known 53 = .ok (.iaload, 1) := by decide +kernel
theorem dX9_known_54 : decode cX9_known 54 = .ok (.istore 5, 2) := by decide +kernel
theorem dX9_known_56 : decode cX9_known 56 = .ok (.aload_n 0, 1) := by decide +kernel
theorem dX9_known_57 : decode cX9_known 57 = .ok (.getfield 7, 3) := by decide +kernel
theorem dX9_known_60 : decode cX9_known 60 = .ok (.iload 4, 2) := by decide +kernel
theorem dX9_known_62 : decode cX9_known 62 = .ok (.iload_n 3, 1) := by decide +kernel
theorem dX9_known_63 : decode cX9_known 63 = .ok (.iastore, 1) := by decide +kernel
theorem dX9_known_64 : decode cX9_known 64 = .ok (.iload 5, 2) := by decide +kernel
theorem dX9_known_66 : decode cX9_known 66 = .ok (.ireturn, 1) := by decide +kernel
theorem dX9_prior_0 : decode cX9_prior 0 = .ok (.iload_n 1, 1) := by decide +kernel
theorem dX9_prior_1 : decode cX9_prior 1 = .ok (.invokestatic 280, 3) := by decide +kernel
theorem dX9_prior_4 : decode cX9_prior 4 = .ok (.ifCond .eq 15, 3) := by decide +kernel
theorem dX9_prior_7 : decode cX9_prior 7 = .ok (.iload_n 2, 1) := by decide +kernel
theorem dX9_prior_8 : decode cX9_prior 8 = .ok (.i2l, 1) := by decide +kernel
theorem dX9_prior_9 : decode cX9_prior 9 = .ok (.lconst 0, 1) := by decide +kernel
theorem dX9_prior_10 : decode cX9_prior 10 = .ok (.ldc2_w 96, 3) := by decide +kernel
theorem dX9_prior_13 : decode cX9_prior 13 = .ok (.invokestatic 90, 3) := by decide +kernel
theorem dX9_prior_16 : decode cX9_prior 16 = .ok (.ifCond .ne 10, 3) := by decide +kernel
theorem dX9_prior_19 : decode cX9_prior 19 = .ok (.aload_n 0, 1) := by decide +kernel
theorem dX9_prior_20 : decode cX9_prior 20 = .ok (.bipush (-2), 2) := by decide +kernel
theorem dX9_prior_22 : decode cX9_prior 22 = .ok (.invokevirtual 110, 3) := by decide +kernel
theorem dX9_prior_25 : decode cX9_prior 25 = .ok (.ireturn, 1) := by decide +kernel
theorem dX9_prior_26 : decode cX9_prior 26 = .ok (.aload_n 0, 1) := by decide +kernel
theorem dX9_prior_27 : decode cX9_prior 27 = .ok (.getfield 7, 3) := by decide +kernel
theorem dX9_prior_30 : decode cX9_prior 30 = .ok (.sipush 154, 3) := by decide +kernel
theorem dX9_prior_33 : decode cX9_prior 33 = .ok (.bipush 7, 2) := by decide +kernel
theorem dX9_prior_35 : decode cX9_prior 35 = .ok (.iload_n 1, 1) := by decide +kernel
theorem dX9_prior_36 : decode cX9_prior 36 = .ok (.imul, 1) := by decide +kernel
theorem dX9_prior_37 : decode cX9_prior 37 = .ok (.iadd, 1) := by decide +kernel
theorem dX9_prior_38 : decode cX9_prior 38 = .ok (.iaload, 1) := by decide +kernel
theorem dX9_prior_39 : decode cX9_prior 39 = .ok (.istore_n 3, 1) := by decide +kernel
theorem dX9_prior_40 : decode cX9_prior 40 = .ok (.aload_n 0, 1) := by decide +kernel
theorem dX9_prior_41 : decode cX9_prior 41 = .ok (.getfield 7, 3) := by decide +kernel
theorem dX9_prior_44 : decode cX9_prior 44 = .ok (.sipush 154, 3) := by decide +kernel
theorem dX9_prior_47 : decode cX9_prior 47 = .ok (.bipush 7, 2) := by decide +kernel
theorem dX9_prior_49 : decode cX9_prior 49 = .ok (.iload_n 1, 1) := by decide +kernel
theorem dX9_prior_50 : decode cX9_prior 50 = .ok (.imul, 1) := by decide +kernel
theorem dX9_prior_51 : decode cX9_prior 51 = .ok (.iadd, 1) := by decide +kernel
theorem dX9_prior_52 : decode cX9_prior 52 = .ok (.iload_n 2, 1) := by decide +kernel
theorem dX9_prior_53 : decode cX9_prior 53 = .ok (.iastore, 1) := by decide +kernel
theorem dX9_prior_54 : decode cX9_prior 54 = .ok (.iload_n 3, 1) := by decide +kernel
theorem dX9_prior_55 : decode cX9_prior 55 = .ok (.ireturn, 1) := by decide +kernel
theorem dX9_belowOf_0 : decode cX9_belowOf 0 = .ok (.bipush 6, 2) := by decide +kernel
theorem dX9_belowOf_2 : decode cX9_belowOf 2 = .ok (.istore_n 2, 1) := by decide +kernel
theorem dX9_belowOf_3 : decode cX9_belowOf 3 = .ok (.iconst 0, 1) := by decide +kernel
theorem dX9_belowOf_4 : decode cX9_belowOf 4 = .ok (.istore_n 3, 1) := by decide +kernel
theorem dX9_belowOf_5 : decode cX9_belowOf 5 = .ok (.iload_n 3, 1) := by decide +kernel
theorem dX9_belowOf_6 : decode cX9_belowOf 6 = .ok (.bipush 6, 2) := by decide +kernel
theorem dX9_belowOf_8 : decode cX9_belowOf 8 = .ok (.if_icmp .ge 29, 3) := by decide +kernel
theorem dX9_belowOf_11 : decode cX9_belowOf 11 = .ok (.iload_n 2, 1) := by decide +kernel
theorem dX9_belowOf_12 : decode cX9_belowOf 12 = .ok (.aload_n 0, 1) := by decide +kernel
theorem dX9_belowOf_13 : decode cX9_belowOf 13 = .ok (.getfield 7, 3) := by decide +kernel
theorem dX9_belowOf_16 : decode cX9_belowOf 16 = .ok (.sipush 154, 3) := by decide +kernel
theorem dX9_belowOf_19 : decode cX9_belowOf 19 = .ok (.bipush 7, 2) := by decide +kernel
theorem dX9_belowOf_21 : decode cX9_belowOf 21 = .ok (.iload_n 1, 1) := by decide +kernel
theorem dX9_belowOf_22 : decode cX9_belowOf 22 = .ok (.imul, 1) := by decide +kernel
theorem dX9_belowOf_23 : decode cX9_belowOf 23 = .ok (.iadd, 1) := by decide +kernel
theorem dX9_belowOf_24 : decode cX9_belowOf 24 = .ok (.iconst 1, 1) := by decide +kernel
theorem dX9_belowOf_25 : decode cX9_belowOf 25 = .ok (.iadd, 1) := by decide +kernel
theorem dX9_belowOf_26 : decode cX9_belowOf 26 = .ok (.iload_n 3, 1) := by decide +kernel
theorem dX9_belowOf_27 : decode cX9_belowOf 27 = .ok (.iadd, 1) := by decide +kernel
theorem dX9_belowOf_28 : decode cX9_belowOf 28 = .ok (.iaload, 1) := by decide +kernel
theorem dX9_belowOf_29 : decode cX9_belowOf 29 = .ok (.iadd, 1) := by decide +kernel
theorem dX9_belowOf_30 : decode cX9_belowOf 30 = .ok (.istore_n 2, 1) := by decide +kernel
theorem dX9_belowOf_31 : decode cX9_belowOf 31 = .ok (.iinc 3 1, 3) := by decide +kernel
theorem dX9_belowOf_34 : decode cX9_belowOf 34 = .ok (.goto (-29), 3) := by decide +kernel
theorem dX9_belowOf_37 : decode cX9_belowOf 37 = .ok (.iload_n 2, 1) := by decide +kernel
theorem dX9_belowOf_38 : decode cX9_belowOf 38 = .ok (.ireturn, 1) := by decide +kernel
theorem dX9_weightOf_0 : decode cX9_weightOf 0 = .ok (.aload_n 0, 1) := by decide +kernel
theorem dX9_weightOf_1 : decode cX9_weightOf 1 = .ok (.getfield 7, 3) := by decide +kernel
theorem dX9_weightOf_4 : decode cX9_weightOf 4 = .ok (.sipush 154, 3) := by decide +kernel
theorem dX9_weightOf_7 : decode cX9_weightOf 7 = .ok (.bipush 7, 2) := by decide +kernel
theorem dX9_weightOf_9 : decode cX9_weightOf 9 = .ok (.iload_n 1, 1) := by decide +kernel
theorem dX9_weightOf_10 : decode cX9_weightOf 10 = .ok (.imul, 1) := by decide +kernel
theorem dX9_weightOf_11 : decode cX9_weightOf 11 = .ok (.iadd, 1) := by decide +kernel
theorem dX9_weightOf_12 : decode cX9_weightOf 12 = .ok (.iaload, 1) := by decide +kernel
theorem dX9_weightOf_13 : decode cX9_weightOf 13 = .ok (.i2l, 1) := by decide +kernel
theorem dX9_weightOf_14 : decode cX9_weightOf 14 = .ok (.aload_n 0, 1) := by decide +kernel
theorem dX9_weightOf_15 : decode cX9_weightOf 15 = .ok (.getfield 7, 3) := by decide +kernel
theorem dX9_weightOf_18 : decode cX9_weightOf 18 = .ok (.sipush 154, 3) := by decide +kernel
theorem dX9_weightOf_21 : decode cX9_weightOf 21 = .ok (.bipush 7, 2) := by decide +kernel
theorem dX9_weightOf_23 : decode cX9_weightOf 23 = .ok (.iload_n 1, 1) := by decide +kernel
theorem dX9_weightOf_24 : decode cX9_weightOf 24 = .ok (.imul, 1) := by decide +kernel
theorem dX9_weightOf_25 : decode cX9_weightOf 25 = .ok (.iadd, 1) := by decide +kernel
theorem dX9_weightOf_26 : decode cX9_weightOf 26 = .ok (.iconst 1, 1) := by decide +kernel
theorem dX9_weightOf_27 : decode cX9_weightOf 27 = .ok (.iadd, 1) := by decide +kernel
theorem dX9_weightOf_28 : decode cX9_weightOf 28 = .ok (.iload_n 2, 1) := by decide +kernel
theorem dX9_weightOf_29 : decode cX9_weightOf 29 = .ok (.iadd, 1) := by decide +kernel
theorem dX9_weightOf_30 : decode cX9_weightOf 30 = .ok (.iaload, 1) := by decide +kernel
theorem dX9_weightOf_31 : decode cX9_weightOf 31 = .ok (.iconst 1, 1) := by decide +kernel
theorem dX9_weightOf_32 : decode cX9_weightOf 32 = .ok (.iadd, 1) := by decide +kernel
theorem dX9_weightOf_33 : decode cX9_weightOf 33 = .ok (.i2l, 1) := by decide +kernel
theorem dX9_weightOf_34 : decode cX9_weightOf 34 = .ok (.lmul, 1) := by decide +kernel
theorem dX9_weightOf_35 : decode cX9_weightOf 35 = .ok (.lstore_n 3, 1) := by decide +kernel
theorem dX9_weightOf_36 : decode cX9_weightOf 36 = .ok (.iconst 0, 1) := by decide +kernel
theorem dX9_weightOf_37 : decode cX9_weightOf 37 = .ok (.istore 5, 2) := by decide +kernel
theorem dX9_weightOf_39 : decode cX9_weightOf 39 = .ok (.iload 5, 2) := by decide +kernel
theorem dX9_weightOf_41 : decode cX9_weightOf 41 = .ok (.iconst 3, 1) := by decide +kernel
theorem dX9_weightOf_42 : decode cX9_weightOf 42 = .ok (.if_icmp .ge 29, 3) := by decide +kernel
theorem dX9_weightOf_45 : decode cX9_weightOf 45 = .ok (.lload_n 3, 1) := by decide +kernel
theorem dX9_weightOf_46 : decode cX9_weightOf 46 = .ok (.iload 5, 2) := by decide +kernel
theorem dX9_weightOf_48 : decode cX9_weightOf 48 = .ok (.iload_n 1, 1) := by decide +kernel
theorem dX9_weightOf_49 : decode cX9_weightOf 49 = .ok (.if_icmp .ne 7, 3) := by decide +kernel
theorem dX9_weightOf_52 : decode cX9_weightOf 52 = .ok (.lconst 1, 1) := by decide +kernel
theorem dX9_weightOf_53 : decode cX9_weightOf 53 = .ok (.goto 10, 3) := by decide +kernel
theorem dX9_weightOf_56 : decode cX9_weightOf 56 = .ok (.aload_n 0, 1) := by decide +kernel
theorem dX9_weightOf_57 : decode cX9_weightOf 57 = .ok (.iload 5, 2) := by decide +kernel
theorem dX9_weightOf_59 : decode cX9_weightOf 59 = .ok (.invokevirtual 286, 3) := by decide +kernel
theorem dX9_weightOf_62 : decode cX9_weightOf 62 = .ok (.i2l, 1) := by decide +kernel
theorem dX9_weightOf_63 : decode cX9_weightOf 63 = .ok (.lmul, 1) := by decide +kernel
theorem dX9_weightOf_64 : decode cX9_weightOf 64 = .ok (.lstore_n 3, 1) := by decide +kernel
theorem dX9_weightOf_65 : decode cX9_weightOf 65 = .ok (.iinc 5 1, 3) := by decide +kernel
theorem dX9_weightOf_68 : decode cX9_weightOf 68 = .ok (.goto (-29), 3) := by decide +kernel
theorem dX9_weightOf_71 : decode cX9_weightOf 71 = .ok (.lload_n 3, 1) := by decide +kernel
theorem dX9_weightOf_72 : decode cX9_weightOf 72 = .ok (.lreturn, 1) := by decide +kernel
theorem dX9_tip_0 : decode cX9_tip 0 = .ok (.iload_n 1, 1) := by decide +kernel
theorem dX9_tip_1 : decode cX9_tip 1 = .ok (.invokestatic 283, 3) := by decide +kernel
theorem dX9_tip_4 : decode cX9_tip 4 = .ok (.ifCond .eq 10, 3) := by decide +kernel
theorem dX9_tip_7 : decode cX9_tip 7 = .ok (.iload_n 2, 1) := by decide +kernel
theorem dX9_tip_8 : decode cX9_tip 8 = .ok (.invokestatic 280, 3) := by decide +kernel
theorem dX9_tip_11 : decode cX9_tip 11 = .ok (.ifCond .ne 10, 3) := by decide +kernel
theorem dX9_tip_14 : decode cX9_tip 14 = .ok (.aload_n 0, 1) := by decide +kernel
theorem dX9_tip_15 : decode cX9_tip 15 = .ok (.bipush (-2), 2) := by decide +kernel
theorem dX9_tip_17 : decode cX9_tip 17 = .ok (.invokevirtual 110, 3) := by decide +kernel
theorem dX9_tip_20 : decode cX9_tip 20 = .ok (.ireturn, 1) := by decide +kernel
theorem dX9_tip_21 : decode cX9_tip 21 = .ok (.aload_n 0, 1) := by decide +kernel
theorem dX9_tip_22 : decode cX9_tip 22 = .ok (.iconst 0, 1) := by decide +kernel
theorem dX9_tip_23 : decode cX9_tip 23 = .ok (.iload_n 1, 1) := by decide +kernel
theorem dX9_tip_24 : decode cX9_tip 24 = .ok (.invokevirtual 289, 3) := by decide +kernel
theorem dX9_tip_27 : decode cX9_tip 27 = .ok (.aload_n 0, 1) := by decide +kernel
theorem dX9_tip_28 : decode cX9_tip 28 = .ok (.iconst 1, 1) := by decide +kernel
theorem dX9_tip_29 : decode cX9_tip 29 = .ok (.iload_n 1, 1) := by decide +kernel
theorem dX9_tip_30 : decode cX9_tip 30 = .ok (.invokevirtual 289, 3) := by decide +kernel
theorem dX9_tip_33 : decode cX9_tip 33 = .ok (.ladd, 1) := by decide +kernel
theorem dX9_tip_34 : decode cX9_tip 34 = .ok (.aload_n 0, 1) := by decide +kernel
theorem dX9_tip_35 : decode cX9_tip 35 = .ok (.iconst 2, 1) := by decide +kernel
theorem dX9_tip_36 : decode cX9_tip 36 = .ok (.iload_n 1, 1) := by decide +kernel
theorem dX9_tip_37 : decode cX9_tip 37 = .ok (.invokevirtual 289, 3) := by decide +kernel
theorem dX9_tip_40 : decode cX9_tip 40 = .ok (.ladd, 1) := by decide +kernel
theorem dX9_tip_41 : decode cX9_tip 41 = .ok (.lstore_n 3, 1) := by decide +kernel
theorem dX9_tip_42 : decode cX9_tip 42 = .ok (.lload_n 3, 1) := by decide +kernel
theorem dX9_tip_43 : decode cX9_tip 43 = .ok (.lconst 0, 1) := by decide +kernel
theorem dX9_tip_44 : decode cX9_tip 44 = .ok (.lcmp, 1) := by decide +kernel
theorem dX9_tip_45 : decode cX9_tip 45 = .ok (.ifCond .ne 12, 3) := by decide +kernel
theorem dX9_tip_48 : decode cX9_tip 48 = .ok (.aload_n 0, 1) := by decide +kernel
theorem dX9_tip_49 : decode cX9_tip 49 = .ok (.bipush (-3), 2) := by decide +kernel
theorem dX9_tip_51 : decode cX9_tip 51 = .ok (.invokevirtual 242, 3) := by decide +kernel
theorem dX9_tip_54 : decode cX9_tip 54 = .ok (.goto 14, 3) := by decide +kernel
theorem dX9_tip_57 : decode cX9_tip 57 = .ok (.aload_n 0, 1) := by decide +kernel
theorem dX9_tip_58 : decode cX9_tip 58 = .ok (.aload_n 0, 1) := by decide +kernel
theorem dX9_tip_59 : decode cX9_tip 59 = .ok (.iload_n 2, 1) := by decide +kernel
theorem dX9_tip_60 : decode cX9_tip 60 = .ok (.iload_n 1, 1) := by decide +kernel
theorem dX9_tip_61 : decode cX9_tip 61 = .ok (.invokevirtual 289, 3) := by decide +kernel
theorem dX9_tip_64 : decode cX9_tip 64 = .ok (.lload_n 3, 1) := by decide +kernel
theorem dX9_tip_65 : decode cX9_tip 65 = .ok (.invokevirtual 255, 3) := by decide +kernel
theorem dX9_tip_68 : decode cX9_tip 68 = .ok (.ireturn, 1) := by decide +kernel
theorem dX9_layer_0 : decode cX9_layer 0 = .ok (.iload_n 1, 1) := by decide +kernel
theorem dX9_layer_1 : decode cX9_layer 1 = .ok (.i2l, 1) := by decide +kernel
theorem dX9_layer_2 : decode cX9_layer 2 = .ok (.lconst 0, 1) := by decide +kernel
theorem dX9_layer_3 : decode cX9_layer 3 = .ok (.ldc2_w 293, 3) := by decide +kernel
theorem dX9_layer_6 : decode cX9_layer 6 = .ok (.invokestatic 90, 3) := by decide +kernel
theorem dX9_layer_9 : decode cX9_layer 9 = .ok (.ifCond .eq 25, 3) := by decide +kernel
theorem dX9_layer_12 : decode cX9_layer 12 = .ok (.iload_n 2, 1) := by decide +kernel
theorem dX9_layer_13 : decode cX9_layer 13 = .ok (.i2l, 1) := by decide +kernel
theorem dX9_layer_14 : decode cX9_layer 14 = .ok (.lconst 0, 1) := by decide +kernel
theorem dX9_layer_15 : decode cX9_layer 15 = .ok (.lconst 1, 1) := by decide +kernel
theorem dX9_layer_16 : decode cX9_layer 16 = .ok (.invokestatic 90, 3) := by decide +kernel
theorem dX9_layer_19 : decode cX9_layer 19 = .ok (.ifCond .eq 15, 3) := by decide +kernel
theorem dX9_layer_22 : decode cX9_layer 22 = .ok (.iload_n 3, 1) := by decide +kernel
theorem dX9_layer_23 : decode cX9_layer 23 = .ok (.i2l, 1) := by decide +kernel
theorem dX9_layer_24 : decode cX9_layer 24 = .ok (.lconst 0, 1) := by decide +kernel
theorem dX9_layer_25 : decode cX9_layer 25 = .ok (.ldc2_w 94, 3) := by decide +kernel
theorem dX9_layer_28 : decode cX9_layer 28 = .ok (.invokestatic 90, 3) := by decide +kernel
theorem dX9_layer_31 : decode cX9_layer 31 = .ok (.ifCond .ne 10, 3) := by decide +kernel
theorem dX9_layer_34 : decode cX9_layer 34 = .ok (.aload_n 0, 1) := by decide +kernel
theorem dX9_layer_35 : decode cX9_layer 35 = .ok (.bipush (-2), 2) := by decide +kernel
theorem dX9_layer_37 : decode cX9_layer 37 = .ok (.invokevirtual 110, 3) := by decide +kernel
theorem dX9_layer_40 : decode cX9_layer 40 = .ok (.ireturn, 1) := by decide +kernel
theorem dX9_layer_41 : decode cX9_layer 41 = .ok (.sipush 175, 3) := by decide +kernel
theorem dX9_layer_44 : decode cX9_layer 44 = .ok (.iconst 2, 1) := by decide +kernel
theorem dX9_layer_45 : decode cX9_layer 45 = .ok (.iload_n 1, 1) := by decide +kernel
theorem dX9_layer_46 : decode cX9_layer 46 = .ok (.imul, 1) := by decide +kernel
theorem dX9_layer_47 : decode cX9_layer 47 = .ok (.iadd, 1) := by decide +kernel
theorem dX9_layer_48 : decode cX9_layer 48 = .ok (.iload_n 2, 1) := by decide +kernel
theorem dX9_layer_49 : decode cX9_layer 49 = .ok (.iadd, 1) := by decide +kernel
theorem dX9_layer_50 : decode cX9_layer 50 = .ok (.istore 4, 2) := by decide +kernel
theorem dX9_layer_52 : decode cX9_layer 52 = .ok (.aload_n 0, 1) := by decide +kernel
theorem dX9_layer_53 : decode cX9_layer 53 = .ok (.getfield 7, 3) := by decide +kernel
theorem dX9_layer_56 : decode cX9_layer 56 = .ok (.iload 4, 2) := by decide +kernel
theorem dX9_layer_58 : decode cX9_layer 58 = .ok (.iaload, 1) := by decide +kernel
theorem dX9_layer_59 : decode cX9_layer 59 = .ok (.istore 5, 2) := by decide +kernel
theorem dX9_layer_61 : decode cX9_layer 61 = .ok (.aload_n 0, 1) := by decide +kernel
theorem dX9_layer_62 : decode cX9_layer 62 = .ok (.getfield 7, 3) := by decide +kernel
theorem dX9_layer_65 : decode cX9_layer 65 = .ok (.iload 4, 2) := by decide +kernel
theorem dX9_layer_67 : decode cX9_layer 67 = .ok (.iload_n 3, 1) := by decide +kernel
theorem dX9_layer_68 : decode cX9_layer 68 = .ok (.iastore, 1) := by decide +kernel
theorem dX9_layer_69 : decode cX9_layer 69 = .ok (.iload 5, 2) := by decide +kernel
theorem dX9_layer_71 : decode cX9_layer 71 = .ok (.ireturn, 1) := by decide +kernel
theorem dX9_came_0 : decode cX9_came 0 = .ok (.iload_n 1, 1) := by decide +kernel
theorem dX9_came_1 : decode cX9_came 1 = .ok (.i2l, 1) := by decide +kernel
theorem dX9_came_2 : decode cX9_came 2 = .ok (.lconst 0, 1) := by decide +kernel
theorem dX9_came_3 : decode cX9_came 3 = .ok (.ldc2_w 46, 3) := by decide +kernel
theorem dX9_came_6 : decode cX9_came 6 = .ok (.invokestatic 90, 3) := by decide +kernel
theorem dX9_came_9 : decode cX9_came 9 = .ok (.ifCond .ne 10, 3) := by decide +kernel
theorem dX9_came_12 : decode cX9_came 12 = .ok (.aload_n 0, 1) := by decide +kernel
theorem dX9_came_13 : decode cX9_came 13 = .ok (.bipush (-2), 2) := by decide +kernel
theorem dX9_came_15 : decode cX9_came 15 = .ok (.invokevirtual 110, 3) := by decide +kernel
theorem dX9_came_18 : decode cX9_came 18 = .ok (.ireturn, 1) := by decide +kernel
theorem dX9_came_19 : decode cX9_came 19 = .ok (.iconst (-1), 1) := by decide +kernel
theorem dX9_came_20 : decode cX9_came 20 = .ok (.istore_n 2, 1) := by decide +kernel
theorem dX9_came_21 : decode cX9_came 21 = .ok (.iconst (-1), 1) := by decide +kernel
theorem dX9_came_22 : decode cX9_came 22 = .ok (.istore_n 3, 1) := by decide +kernel
theorem dX9_came_23 : decode cX9_came 23 = .ok (.iconst 0, 1) := by decide +kernel
theorem dX9_came_24 : decode cX9_came 24 = .ok (.istore 4, 2) := by decide +kernel
theorem dX9_came_26 : decode cX9_came 26 = .ok (.iconst 0, 1) := by decide +kernel
theorem dX9_came_27 : decode cX9_came 27 = .ok (.istore 5, 2) := by decide +kernel
theorem dX9_came_29 : decode cX9_came 29 = .ok (.iload 5, 2) := by decide +kernel
theorem dX9_came_31 : decode cX9_came 31 = .ok (.bipush 8, 2) := by decide +kernel
theorem dX9_came_33 : decode cX9_came 33 = .ok (.if_icmp .gt 119, 3) := by decide +kernel
theorem dX9_came_36 : decode cX9_came 36 = .ok (.iconst 0, 1) := by decide +kernel
theorem dX9_came_37 : decode cX9_came 37 = .ok (.istore 6, 2) := by decide +kernel
theorem dX9_came_39 : decode cX9_came 39 = .ok (.iconst 0, 1) := by decide +kernel
theorem dX9_came_40 : decode cX9_came 40 = .ok (.istore 7, 2) := by decide +kernel
theorem dX9_came_42 : decode cX9_came 42 = .ok (.iload 7, 2) := by decide +kernel
theorem dX9_came_44 : decode cX9_came 44 = .ok (.bipush 8, 2) := by decide +kernel
theorem dX9_came_46 : decode cX9_came 46 = .ok (.if_icmp .ge 40, 3) := by decide +kernel
theorem dX9_came_49 : decode cX9_came 49 = .ok (.iload 6, 2) := by decide +kernel
theorem dX9_came_51 : decode cX9_came 51 = .ok (.aload_n 0, 1) := by decide +kernel
theorem dX9_came_52 : decode cX9_came 52 = .ok (.getfield 7, 3) := by decide +kernel
theorem dX9_came_55 : decode cX9_came 55 = .ok (.sipush 175, 3) := by decide +kernel
theorem dX9_came_58 : decode cX9_came 58 = .ok (.iconst 2, 1) := by decide +kernel
theorem dX9_came_59 : decode cX9_came 59 = .ok (.iload 7, 2) := by decide +kernel
theorem dX9_came_61 : decode cX9_came 61 = .ok (.imul, 1) := by decide +kernel
theorem dX9_came_62 : decode cX9_came 62 = .ok (.iadd, 1) := by decide +kernel
theorem dX9_came_63 : decode cX9_came 63 = .ok (.iload 7, 2) := by decide +kernel
theorem dX9_came_65 : decode cX9_came 65 = .ok (.iload 5, 2) := by decide +kernel
theorem dX9_came_67 : decode cX9_came 67 = .ok (.if_icmp .ge 7, 3) := by decide +kernel
theorem dX9_came_70 : decode cX9_came 70 = .ok (.iconst 0, 1) := by decide +kernel
theorem dX9_came_71 : decode cX9_came 71 = .ok (.goto 4, 3) := by decide +kernel
theorem dX9_came_74 : decode cX9_came 74 = .ok (.iconst 1, 1) := by decide +kernel
theorem dX9_came_75 : decode cX9_came 75 = .ok (.iadd, 1) := by decide +kernel
theorem dX9_came_76 : decode cX9_came 76 = .ok (.iaload, 1) := by decide +kernel
theorem dX9_came_77 : decode cX9_came 77 = .ok (.iadd, 1) := by decide +kernel
theorem dX9_came_78 : decode cX9_came 78 = .ok (.istore 6, 2) := by decide +kernel
theorem dX9_came_80 : decode cX9_came 80 = .ok (.iinc 7 1, 3) := by decide +kernel
theorem dX9_came_83 : decode cX9_came 83 = .ok (.goto (-41), 3) := by decide +kernel
theorem dX9_came_86 : decode cX9_came 86 = .ok (.iload_n 2, 1) := by decide +kernel
theorem dX9_came_87 : decode cX9_came 87 = .ok (.iconst (-1), 1) := by decide +kernel
theorem dX9_came_88 : decode cX9_came 88 = .ok (.if_icmp .eq 10, 3) := by decide +kernel
theorem dX9_came_91 : decode cX9_came 91 = .ok (.iload 6, 2) := by decide +kernel
theorem dX9_came_93 : decode cX9_came 93 = .ok (.iload 4, 2) := by decide +kernel
theorem dX9_came_95 : decode cX9_came 95 = .ok (.if_icmp .ge 8, 3) := by decide +kernel
theorem dX9_came_98 : decode cX9_came 98 = .ok (.iload 5, 2) := by decide +kernel
theorem dX9_came_100 : decode cX9_came 100 = .ok (.goto 4, 3) := by decide +kernel
theorem dX9_came_103 : decode cX9_came 103 = .ok (.iload_n 2, 1) := by decide +kernel
theorem dX9_came_104 : decode cX9_came 104 = .ok (.istore_n 2, 1) := by decide +kernel
theorem dX9_came_105 : decode cX9_came 105 = .ok (.iload_n 3, 1) := by decide +kernel
theorem dX9_came_106 : decode cX9_came 106 = .ok (.iconst (-1), 1) := by decide +kernel
theorem dX9_came_107 : decode cX9_came 107 = .ok (.if_icmp .eq 10, 3) := by decide +kernel
theorem dX9_came_110 : decode cX9_came 110 = .ok (.iload 6, 2) := by decide +kernel
theorem dX9_came_112 : decode cX9_came 112 = .ok (.iload 4, 2) := by decide +kernel
theorem dX9_came_114 : decode cX9_came 114 = .ok (.if_icmp .gt 8, 3) := by decide +kernel
theorem dX9_came_117 : decode cX9_came 117 = .ok (.iload 5, 2) := by decide +kernel
theorem dX9_came_119 : decode cX9_came 119 = .ok (.goto 4, 3) := by decide +kernel
theorem dX9_came_122 : decode cX9_came 122 = .ok (.iload_n 3, 1) := by decide +kernel
theorem dX9_came_123 : decode cX9_came 123 = .ok (.istore_n 3, 1) := by decide +kernel
theorem dX9_came_124 : decode cX9_came 124 = .ok (.iload_n 2, 1) := by decide +kernel
theorem dX9_came_125 : decode cX9_came 125 = .ok (.iload 5, 2) := by decide +kernel
theorem dX9_came_127 : decode cX9_came 127 = .ok (.if_icmp .eq 10, 3) := by decide +kernel
theorem dX9_came_130 : decode cX9_came 130 = .ok (.iload 6, 2) := by decide +kernel
theorem dX9_came_132 : decode cX9_came 132 = .ok (.iload 4, 2) := by decide +kernel
theorem dX9_came_134 : decode cX9_came 134 = .ok (.if_icmp .ge 8, 3) := by decide +kernel
theorem dX9_came_137 : decode cX9_came 137 = .ok (.iload 6, 2) := by decide +kernel
theorem dX9_came_139 : decode cX9_came 139 = .ok (.goto 5, 3) := by decide +kernel
theorem dX9_came_142 : decode cX9_came 142 = .ok (.iload 4, 2) := by decide +kernel
theorem dX9_came_144 : decode cX9_came 144 = .ok (.istore 4, 2) := by decide +kernel
theorem dX9_came_146 : decode cX9_came 146 = .ok (.iinc 5 1, 3) := by decide +kernel
theorem dX9_came_149 : decode cX9_came 149 = .ok (.goto (-120), 3) := by decide +kernel
theorem dX9_came_152 : decode cX9_came 152 = .ok (.iload_n 1, 1) := by decide +kernel
theorem dX9_came_153 : decode cX9_came 153 = .ok (.ifCond .ne 7, 3) := by decide +kernel
theorem dX9_came_156 : decode cX9_came 156 = .ok (.iload_n 2, 1) := by decide +kernel
theorem dX9_came_157 : decode cX9_came 157 = .ok (.goto 14, 3) := by decide +kernel
theorem dX9_came_160 : decode cX9_came 160 = .ok (.iload_n 1, 1) := by decide +kernel
theorem dX9_came_161 : decode cX9_came 161 = .ok (.iconst 1, 1) := by decide +kernel
theorem dX9_came_162 : decode cX9_came 162 = .ok (.if_icmp .ne 7, 3) := by decide +kernel
theorem dX9_came_165 : decode cX9_came 165 = .ok (.iload_n 3, 1) := by decide +kernel
theorem dX9_came_166 : decode cX9_came 166 = .ok (.goto 5, 3) := by decide +kernel
theorem dX9_came_169 : decode cX9_came 169 = .ok (.iload 4, 2) := by decide +kernel
theorem dX9_came_171 : decode cX9_came 171 = .ok (.ireturn, 1) := by decide +kernel
theorem dX9_textLong_0 : decode cX9_textLong 0 = .ok (.aload_n 0, 1) := by decide +kernel
theorem dX9_textLong_1 : decode cX9_textLong 1 = .ok (.getfield 7, 3) := by decide +kernel
theorem dX9_textLong_4 : decode cX9_textLong 4 = .ok (.sipush 191, 3) := by decide +kernel
theorem dX9_textLong_7 : decode cX9_textLong 7 = .ok (.iaload, 1) := by decide +kernel
theorem dX9_textLong_8 : decode cX9_textLong 8 = .ok (.ireturn, 1) := by decide +kernel
theorem dX9_byteAt_0 : decode cX9_byteAt 0 = .ok (.aload_n 0, 1) := by decide +kernel
theorem dX9_byteAt_1 : decode cX9_byteAt 1 = .ok (.getfield 7, 3) := by decide +kernel
theorem dX9_byteAt_4 : decode cX9_byteAt 4 = .ok (.sipush 192, 3) := by decide +kernel
theorem dX9_byteAt_7 : decode cX9_byteAt 7 = .ok (.iload_n 1, 1) := by decide +kernel
theorem dX9_byteAt_8 : decode cX9_byteAt 8 = .ok (.iadd, 1) := by decide +kernel
theorem dX9_byteAt_9 : decode cX9_byteAt 9 = .ok (.iaload, 1) := by decide +kernel
theorem dX9_byteAt_10 : decode cX9_byteAt 10 = .ok (.ireturn, 1) := by decide +kernel
theorem dX9_type_0 : decode cX9_type 0 = .ok (.iload_n 3, 1) := by decide +kernel
theorem dX9_type_1 : decode cX9_type 1 = .ok (.i2l, 1) := by decide +kernel
theorem dX9_type_2 : decode cX9_type 2 = .ok (.lconst 1, 1) := by decide +kernel
theorem dX9_type_3 : decode cX9_type 3 = .ok (.ldc2_w 295, 3) := by decide +kernel
theorem dX9_type_6 : decode cX9_type 6 = .ok (.invokestatic 90, 3) := by decide +kernel
theorem dX9_type_9 : decode cX9_type 9 = .ok (.ifCond .ne 10, 3) := by decide +kernel
theorem dX9_type_12 : decode cX9_type 12 = .ok (.aload_n 0, 1) := by decide +kernel
theorem dX9_type_13 : decode cX9_type 13 = .ok (.bipush (-2), 2) := by decide +kernel
